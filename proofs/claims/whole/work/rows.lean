section
-- ===== PART A: goes FIRST, ahead of the names: the tables' words, and 'selects' of the private methods out of them =====
/-- a private method of a class that the tables say can be made, by its rows of tables_1 -/
def lw_okq (q : MethodName × Nat) : Prop := (q.1.cls ≠ "java/lang/invoke/MethodHandle" ∧ q.1.cls ≠ "java/lang/invoke/VarHandle") ∧ Cond.instantiable q.1.cls q.2 ∈ tables_1 ∧ Cond.privateMethod q.1 ∈ tables_1 ∧ Cond.instanceMethod q.1 ∈ tables_1
theorem lw_p0 : lw_okq (⟨"BootStage", "ableAlone", "()I"⟩, 7) := ⟨⟨by decide +kernel, by decide +kernel⟩, List.mem_of_getElem? (i := 21) (by decide +kernel), List.mem_of_getElem? (i := 159) (by decide +kernel), List.mem_of_getElem? (i := 160) (by decide +kernel)⟩
theorem lw_p1 : lw_okq (⟨"BootStage", "keepSupplied", "(I)I"⟩, 7) := ⟨⟨by decide +kernel, by decide +kernel⟩, List.mem_of_getElem? (i := 21) (by decide +kernel), List.mem_of_getElem? (i := 163) (by decide +kernel), List.mem_of_getElem? (i := 164) (by decide +kernel)⟩
theorem lw_p2 : lw_okq (⟨"BootStage", "contains", "(ILBootStage$Unit;)Z"⟩, 7) := ⟨⟨by decide +kernel, by decide +kernel⟩, List.mem_of_getElem? (i := 21) (by decide +kernel), List.mem_of_getElem? (i := 167) (by decide +kernel), List.mem_of_getElem? (i := 168) (by decide +kernel)⟩
theorem lw_p3 : lw_okq (⟨"BootStage", "checkRange", "(III)V"⟩, 7) := ⟨⟨by decide +kernel, by decide +kernel⟩, List.mem_of_getElem? (i := 21) (by decide +kernel), List.mem_of_getElem? (i := 180) (by decide +kernel), List.mem_of_getElem? (i := 181) (by decide +kernel)⟩
theorem lw_p4 : lw_okq (⟨"java/lang/Throwable", "fillInStackTrace", "(I)Ljava/lang/Throwable;"⟩, 6) := ⟨⟨by decide +kernel, by decide +kernel⟩, List.mem_of_getElem? (i := 222) (by decide +kernel), List.mem_of_getElem? (i := 220) (by decide +kernel), List.mem_of_getElem? (i := 221) (by decide +kernel)⟩
theorem lw_p5 : lw_okq (⟨"BootStage", "checkNoStart", "()V"⟩, 7) := ⟨⟨by decide +kernel, by decide +kernel⟩, List.mem_of_getElem? (i := 21) (by decide +kernel), List.mem_of_getElem? (i := 268) (by decide +kernel), List.mem_of_getElem? (i := 269) (by decide +kernel)⟩
theorem lw_p6 : lw_okq (⟨"BootStage", "unitAt", "(I)LBootStage$Unit;"⟩, 7) := ⟨⟨by decide +kernel, by decide +kernel⟩, List.mem_of_getElem? (i := 21) (by decide +kernel), List.mem_of_getElem? (i := 281) (by decide +kernel), List.mem_of_getElem? (i := 282) (by decide +kernel)⟩
theorem lw_p7 : lw_okq (⟨"BootStage", "reaches", "(LBootStage$Unit;LBootStage$Unit;Z)Z"⟩, 7) := ⟨⟨by decide +kernel, by decide +kernel⟩, List.mem_of_getElem? (i := 21) (by decide +kernel), List.mem_of_getElem? (i := 301) (by decide +kernel), List.mem_of_getElem? (i := 302) (by decide +kernel)⟩
theorem lw_p8 : lw_okq (⟨"BootStage", "checkDifferent", "(LBootStage$Unit;LBootStage$Unit;)V"⟩, 7) := ⟨⟨by decide +kernel, by decide +kernel⟩, List.mem_of_getElem? (i := 21) (by decide +kernel), List.mem_of_getElem? (i := 313) (by decide +kernel), List.mem_of_getElem? (i := 314) (by decide +kernel)⟩
theorem lw_p9 : lw_okq (⟨"BootStage", "findWish", "(LBootStage$Unit;LBootStage$Unit;)LBootStage$Wish;"⟩, 7) := ⟨⟨by decide +kernel, by decide +kernel⟩, List.mem_of_getElem? (i := 21) (by decide +kernel), List.mem_of_getElem? (i := 318) (by decide +kernel), List.mem_of_getElem? (i := 319) (by decide +kernel)⟩
theorem lw_p10 : lw_okq (⟨"java/util/ArrayList", "add", "(Ljava/lang/Object;[Ljava/lang/Object;I)V"⟩, 3) := ⟨⟨by decide +kernel, by decide +kernel⟩, List.mem_of_getElem? (i := 31) (by decide +kernel), List.mem_of_getElem? (i := 363) (by decide +kernel), List.mem_of_getElem? (i := 364) (by decide +kernel)⟩
theorem lw_p11 : lw_okq (⟨"java/util/ArrayList", "grow", "()[Ljava/lang/Object;"⟩, 3) := ⟨⟨by decide +kernel, by decide +kernel⟩, List.mem_of_getElem? (i := 31) (by decide +kernel), List.mem_of_getElem? (i := 367) (by decide +kernel), List.mem_of_getElem? (i := 368) (by decide +kernel)⟩
theorem lw_p12 : lw_okq (⟨"java/util/ArrayList", "grow", "(I)[Ljava/lang/Object;"⟩, 3) := ⟨⟨by decide +kernel, by decide +kernel⟩, List.mem_of_getElem? (i := 31) (by decide +kernel), List.mem_of_getElem? (i := 371) (by decide +kernel), List.mem_of_getElem? (i := 372) (by decide +kernel)⟩
theorem lw_p13 : lw_okq (⟨"BootStage", "cutLoops", "()I"⟩, 7) := ⟨⟨by decide +kernel, by decide +kernel⟩, List.mem_of_getElem? (i := 21) (by decide +kernel), List.mem_of_getElem? (i := 463) (by decide +kernel), List.mem_of_getElem? (i := 464) (by decide +kernel)⟩
theorem lw_p14 : lw_okq (⟨"BootStage", "keepAllWishes", "()V"⟩, 7) := ⟨⟨by decide +kernel, by decide +kernel⟩, List.mem_of_getElem? (i := 21) (by decide +kernel), List.mem_of_getElem? (i := 467) (by decide +kernel), List.mem_of_getElem? (i := 468) (by decide +kernel)⟩
theorem lw_p15 : lw_okq (⟨"BootStage", "raiseBar", "()V"⟩, 7) := ⟨⟨by decide +kernel, by decide +kernel⟩, List.mem_of_getElem? (i := 21) (by decide +kernel), List.mem_of_getElem? (i := 475) (by decide +kernel), List.mem_of_getElem? (i := 476) (by decide +kernel)⟩
def lw_privs_1 : List (MethodName × Nat) := [(⟨"BootStage", "ableAlone", "()I"⟩, 7), (⟨"BootStage", "keepSupplied", "(I)I"⟩, 7), (⟨"BootStage", "contains", "(ILBootStage$Unit;)Z"⟩, 7), (⟨"BootStage", "checkRange", "(III)V"⟩, 7), (⟨"java/lang/Throwable", "fillInStackTrace", "(I)Ljava/lang/Throwable;"⟩, 6), (⟨"BootStage", "checkNoStart", "()V"⟩, 7), (⟨"BootStage", "unitAt", "(I)LBootStage$Unit;"⟩, 7), (⟨"BootStage", "reaches", "(LBootStage$Unit;LBootStage$Unit;Z)Z"⟩, 7), (⟨"BootStage", "checkDifferent", "(LBootStage$Unit;LBootStage$Unit;)V"⟩, 7), (⟨"BootStage", "findWish", "(LBootStage$Unit;LBootStage$Unit;)LBootStage$Wish;"⟩, 7), (⟨"java/util/ArrayList", "add", "(Ljava/lang/Object;[Ljava/lang/Object;I)V"⟩, 3), (⟨"java/util/ArrayList", "grow", "()[Ljava/lang/Object;"⟩, 3), (⟨"java/util/ArrayList", "grow", "(I)[Ljava/lang/Object;"⟩, 3), (⟨"BootStage", "cutLoops", "()I"⟩, 7), (⟨"BootStage", "keepAllWishes", "()V"⟩, 7), (⟨"BootStage", "raiseBar", "()V"⟩, 7)]
theorem lw_r1 : ∀ q ∈ lw_privs_1, lw_okq q := List.forall_mem_cons.mpr ⟨lw_p0, List.forall_mem_cons.mpr ⟨lw_p1, List.forall_mem_cons.mpr ⟨lw_p2, List.forall_mem_cons.mpr ⟨lw_p3, List.forall_mem_cons.mpr ⟨lw_p4, List.forall_mem_cons.mpr ⟨lw_p5, List.forall_mem_cons.mpr ⟨lw_p6, List.forall_mem_cons.mpr ⟨lw_p7, List.forall_mem_cons.mpr ⟨lw_p8, List.forall_mem_cons.mpr ⟨lw_p9, List.forall_mem_cons.mpr ⟨lw_p10, List.forall_mem_cons.mpr ⟨lw_p11, List.forall_mem_cons.mpr ⟨lw_p12, List.forall_mem_cons.mpr ⟨lw_p13, List.forall_mem_cons.mpr ⟨lw_p14, List.forall_mem_cons.mpr ⟨lw_p15, fun _ h => absurd h List.not_mem_nil⟩⟩⟩⟩⟩⟩⟩⟩⟩⟩⟩⟩⟩⟩⟩⟩
theorem lw_p16 : lw_okq (⟨"BootStage", "timeDone", "()I"⟩, 7) := ⟨⟨by decide +kernel, by decide +kernel⟩, List.mem_of_getElem? (i := 21) (by decide +kernel), List.mem_of_getElem? (i := 479) (by decide +kernel), List.mem_of_getElem? (i := 480) (by decide +kernel)⟩
theorem lw_p17 : lw_okq (⟨"BootStage", "passOneTick", "()V"⟩, 7) := ⟨⟨by decide +kernel, by decide +kernel⟩, List.mem_of_getElem? (i := 21) (by decide +kernel), List.mem_of_getElem? (i := 497) (by decide +kernel), List.mem_of_getElem? (i := 498) (by decide +kernel)⟩
theorem lw_p18 : lw_okq (⟨"BootStage", "endStarts", "()V"⟩, 7) := ⟨⟨by decide +kernel, by decide +kernel⟩, List.mem_of_getElem? (i := 21) (by decide +kernel), List.mem_of_getElem? (i := 501) (by decide +kernel), List.mem_of_getElem? (i := 502) (by decide +kernel)⟩
theorem lw_p19 : lw_okq (⟨"BootStage", "failWithoutNeeds", "()V"⟩, 7) := ⟨⟨by decide +kernel, by decide +kernel⟩, List.mem_of_getElem? (i := 21) (by decide +kernel), List.mem_of_getElem? (i := 510) (by decide +kernel), List.mem_of_getElem? (i := 511) (by decide +kernel)⟩
theorem lw_p20 : lw_okq (⟨"BootStage", "lostNeeds", "()I"⟩, 7) := ⟨⟨by decide +kernel, by decide +kernel⟩, List.mem_of_getElem? (i := 21) (by decide +kernel), List.mem_of_getElem? (i := 514) (by decide +kernel), List.mem_of_getElem? (i := 515) (by decide +kernel)⟩
theorem lw_p21 : lw_okq (⟨"BootStage", "startWaiting", "()I"⟩, 7) := ⟨⟨by decide +kernel, by decide +kernel⟩, List.mem_of_getElem? (i := 21) (by decide +kernel), List.mem_of_getElem? (i := 526) (by decide +kernel), List.mem_of_getElem? (i := 527) (by decide +kernel)⟩
theorem lw_p22 : lw_okq (⟨"BootStage", "metNeeds", "()I"⟩, 7) := ⟨⟨by decide +kernel, by decide +kernel⟩, List.mem_of_getElem? (i := 21) (by decide +kernel), List.mem_of_getElem? (i := 530) (by decide +kernel), List.mem_of_getElem? (i := 531) (by decide +kernel)⟩
theorem lw_p23 : lw_okq (⟨"BootStage", "doneWishes", "()I"⟩, 7) := ⟨⟨by decide +kernel, by decide +kernel⟩, List.mem_of_getElem? (i := 21) (by decide +kernel), List.mem_of_getElem? (i := 538) (by decide +kernel), List.mem_of_getElem? (i := 539) (by decide +kernel)⟩
theorem lw_p24 : lw_okq (⟨"BootStage", "countStarting", "()I"⟩, 7) := ⟨⟨by decide +kernel, by decide +kernel⟩, List.mem_of_getElem? (i := 21) (by decide +kernel), List.mem_of_getElem? (i := 546) (by decide +kernel), List.mem_of_getElem? (i := 547) (by decide +kernel)⟩
theorem lw_p25 : lw_okq (⟨"BootStage", "isAwaited", "(LBootStage$Unit;LBootStage$Unit;)Z"⟩, 7) := ⟨⟨by decide +kernel, by decide +kernel⟩, List.mem_of_getElem? (i := 21) (by decide +kernel), List.mem_of_getElem? (i := 564) (by decide +kernel), List.mem_of_getElem? (i := 565) (by decide +kernel)⟩
theorem lw_p26 : lw_okq (⟨"BootStageModel", "goes", "(I)Z"⟩, 23) := ⟨⟨by decide +kernel, by decide +kernel⟩, List.mem_of_getElem? (i := 568) (by decide +kernel), List.mem_of_getElem? (i := 657) (by decide +kernel), List.mem_of_getElem? (i := 658) (by decide +kernel)⟩
theorem lw_p27 : lw_okq (⟨"BootStageModel", "isUnit", "(I)Z"⟩, 23) := ⟨⟨by decide +kernel, by decide +kernel⟩, List.mem_of_getElem? (i := 568) (by decide +kernel), List.mem_of_getElem? (i := 665) (by decide +kernel), List.mem_of_getElem? (i := 666) (by decide +kernel)⟩
theorem lw_p28 : lw_okq (⟨"BootStageModel", "reaches", "(IIZ)Z"⟩, 23) := ⟨⟨by decide +kernel, by decide +kernel⟩, List.mem_of_getElem? (i := 568) (by decide +kernel), List.mem_of_getElem? (i := 669) (by decide +kernel), List.mem_of_getElem? (i := 670) (by decide +kernel)⟩
theorem lw_p29 : lw_okq (⟨"BootStageModel", "asks", "(I)Z"⟩, 23) := ⟨⟨by decide +kernel, by decide +kernel⟩, List.mem_of_getElem? (i := 568) (by decide +kernel), List.mem_of_getElem? (i := 704) (by decide +kernel), List.mem_of_getElem? (i := 705) (by decide +kernel)⟩
theorem lw_p30 : lw_okq (⟨"BootStageModel", "weakest", "()I"⟩, 23) := ⟨⟨by decide +kernel, by decide +kernel⟩, List.mem_of_getElem? (i := 568) (by decide +kernel), List.mem_of_getElem? (i := 716) (by decide +kernel), List.mem_of_getElem? (i := 717) (by decide +kernel)⟩
theorem lw_p31 : lw_okq (⟨"BootStageModel", "raised", "()I"⟩, 23) := ⟨⟨by decide +kernel, by decide +kernel⟩, List.mem_of_getElem? (i := 568) (by decide +kernel), List.mem_of_getElem? (i := 720) (by decide +kernel), List.mem_of_getElem? (i := 721) (by decide +kernel)⟩
def lw_privs_2 : List (MethodName × Nat) := [(⟨"BootStage", "timeDone", "()I"⟩, 7), (⟨"BootStage", "passOneTick", "()V"⟩, 7), (⟨"BootStage", "endStarts", "()V"⟩, 7), (⟨"BootStage", "failWithoutNeeds", "()V"⟩, 7), (⟨"BootStage", "lostNeeds", "()I"⟩, 7), (⟨"BootStage", "startWaiting", "()I"⟩, 7), (⟨"BootStage", "metNeeds", "()I"⟩, 7), (⟨"BootStage", "doneWishes", "()I"⟩, 7), (⟨"BootStage", "countStarting", "()I"⟩, 7), (⟨"BootStage", "isAwaited", "(LBootStage$Unit;LBootStage$Unit;)Z"⟩, 7), (⟨"BootStageModel", "goes", "(I)Z"⟩, 23), (⟨"BootStageModel", "isUnit", "(I)Z"⟩, 23), (⟨"BootStageModel", "reaches", "(IIZ)Z"⟩, 23), (⟨"BootStageModel", "asks", "(I)Z"⟩, 23), (⟨"BootStageModel", "weakest", "()I"⟩, 23), (⟨"BootStageModel", "raised", "()I"⟩, 23)]
theorem lw_r2 : ∀ q ∈ lw_privs_2, lw_okq q := List.forall_mem_cons.mpr ⟨lw_p16, List.forall_mem_cons.mpr ⟨lw_p17, List.forall_mem_cons.mpr ⟨lw_p18, List.forall_mem_cons.mpr ⟨lw_p19, List.forall_mem_cons.mpr ⟨lw_p20, List.forall_mem_cons.mpr ⟨lw_p21, List.forall_mem_cons.mpr ⟨lw_p22, List.forall_mem_cons.mpr ⟨lw_p23, List.forall_mem_cons.mpr ⟨lw_p24, List.forall_mem_cons.mpr ⟨lw_p25, List.forall_mem_cons.mpr ⟨lw_p26, List.forall_mem_cons.mpr ⟨lw_p27, List.forall_mem_cons.mpr ⟨lw_p28, List.forall_mem_cons.mpr ⟨lw_p29, List.forall_mem_cons.mpr ⟨lw_p30, List.forall_mem_cons.mpr ⟨lw_p31, fun _ h => absurd h List.not_mem_nil⟩⟩⟩⟩⟩⟩⟩⟩⟩⟩⟩⟩⟩⟩⟩⟩
theorem lw_p32 : lw_okq (⟨"BootStageModel", "passes", "()V"⟩, 23) := ⟨⟨by decide +kernel, by decide +kernel⟩, List.mem_of_getElem? (i := 568) (by decide +kernel), List.mem_of_getElem? (i := 728) (by decide +kernel), List.mem_of_getElem? (i := 729) (by decide +kernel)⟩
theorem lw_p33 : lw_okq (⟨"BootStageModel", "ends", "(I)V"⟩, 23) := ⟨⟨by decide +kernel, by decide +kernel⟩, List.mem_of_getElem? (i := 568) (by decide +kernel), List.mem_of_getElem? (i := 732) (by decide +kernel), List.mem_of_getElem? (i := 733) (by decide +kernel)⟩
theorem lw_p34 : lw_okq (⟨"BootStageModel", "isSo", "(II)Z"⟩, 23) := ⟨⟨by decide +kernel, by decide +kernel⟩, List.mem_of_getElem? (i := 568) (by decide +kernel), List.mem_of_getElem? (i := 736) (by decide +kernel), List.mem_of_getElem? (i := 737) (by decide +kernel)⟩
theorem lw_p35 : lw_okq (⟨"BootStageModel", "isLost", "(I)Z"⟩, 23) := ⟨⟨by decide +kernel, by decide +kernel⟩, List.mem_of_getElem? (i := 568) (by decide +kernel), List.mem_of_getElem? (i := 740) (by decide +kernel), List.mem_of_getElem? (i := 741) (by decide +kernel)⟩
theorem lw_p36 : lw_okq (⟨"BootStageModel", "isOff", "(I)Z"⟩, 23) := ⟨⟨by decide +kernel, by decide +kernel⟩, List.mem_of_getElem? (i := 568) (by decide +kernel), List.mem_of_getElem? (i := 744) (by decide +kernel), List.mem_of_getElem? (i := 745) (by decide +kernel)⟩
theorem lw_p37 : lw_okq (⟨"BootStageModel", "waits", "(II)Z"⟩, 23) := ⟨⟨by decide +kernel, by decide +kernel⟩, List.mem_of_getElem? (i := 568) (by decide +kernel), List.mem_of_getElem? (i := 748) (by decide +kernel), List.mem_of_getElem? (i := 749) (by decide +kernel)⟩
theorem lw_p38 : lw_okq (⟨"BootStageModel", "isMet", "(I)Z"⟩, 23) := ⟨⟨by decide +kernel, by decide +kernel⟩, List.mem_of_getElem? (i := 568) (by decide +kernel), List.mem_of_getElem? (i := 752) (by decide +kernel), List.mem_of_getElem? (i := 753) (by decide +kernel)⟩
theorem lw_p39 : lw_okq (⟨"BootStageModel", "starting", "()I"⟩, 23) := ⟨⟨by decide +kernel, by decide +kernel⟩, List.mem_of_getElem? (i := 568) (by decide +kernel), List.mem_of_getElem? (i := 756) (by decide +kernel), List.mem_of_getElem? (i := 757) (by decide +kernel)⟩
theorem lw_p40 : lw_okq (⟨"BootStageModel", "canRunIn", "(II)Z"⟩, 23) := ⟨⟨by decide +kernel, by decide +kernel⟩, List.mem_of_getElem? (i := 568) (by decide +kernel), List.mem_of_getElem? (i := 784) (by decide +kernel), List.mem_of_getElem? (i := 785) (by decide +kernel)⟩
def lw_privs_3 : List (MethodName × Nat) := [(⟨"BootStageModel", "passes", "()V"⟩, 23), (⟨"BootStageModel", "ends", "(I)V"⟩, 23), (⟨"BootStageModel", "isSo", "(II)Z"⟩, 23), (⟨"BootStageModel", "isLost", "(I)Z"⟩, 23), (⟨"BootStageModel", "isOff", "(I)Z"⟩, 23), (⟨"BootStageModel", "waits", "(II)Z"⟩, 23), (⟨"BootStageModel", "isMet", "(I)Z"⟩, 23), (⟨"BootStageModel", "starting", "()I"⟩, 23), (⟨"BootStageModel", "canRunIn", "(II)Z"⟩, 23)]
theorem lw_r3 : ∀ q ∈ lw_privs_3, lw_okq q := List.forall_mem_cons.mpr ⟨lw_p32, List.forall_mem_cons.mpr ⟨lw_p33, List.forall_mem_cons.mpr ⟨lw_p34, List.forall_mem_cons.mpr ⟨lw_p35, List.forall_mem_cons.mpr ⟨lw_p36, List.forall_mem_cons.mpr ⟨lw_p37, List.forall_mem_cons.mpr ⟨lw_p38, List.forall_mem_cons.mpr ⟨lw_p39, List.forall_mem_cons.mpr ⟨lw_p40, fun _ h => absurd h List.not_mem_nil⟩⟩⟩⟩⟩⟩⟩⟩⟩
def lw_privs : List (MethodName × Nat) := lw_privs_1 ++ (lw_privs_2 ++ (lw_privs_3))
def lw_tbl : List Cond := k2_sels lw_privs ++ tables_1
theorem lw_privs_ok : ∀ q ∈ lw_privs, lw_okq q := by
  show ∀ q ∈ lw_privs_1 ++ (lw_privs_2 ++ (lw_privs_3)), lw_okq q
  exact List.forall_mem_append.mpr ⟨lw_r1, List.forall_mem_append.mpr ⟨lw_r2, lw_r3⟩⟩
-- ===== end of PART A; then your names; then what follows =====
end
section
/-! ===== BEGIN words of one list among another's, by their places ===== -/
theorem goodIn_r {big : List Cond} (ws : List Cond) (ps : List Nat) (hp : ws = ps.filterMap (fun i => big[i]?)) (h : ws.all goodWord = true) : GoodIn big ws := by
  intro w hw
  have h1 := List.all_eq_true.mp h w hw
  rw [hp] at hw
  obtain ⟨i, -, hi⟩ := List.mem_filterMap.mp hw
  have hm : w ∈ big := by first | exact List.mem_of_getElem? hi | exact List.getElem?_mem hi
  exact ⟨hm, good_of_word h1⟩
theorem goodIn_app {big a b : List Cond} (ha : GoodIn big a) (hb : GoodIn big b) : GoodIn big (a ++ b) := fun w h => (List.mem_append.mp h).elim (ha w) (hb w)
theorem goodIn_ca {big a b : List Cond} {c : Cond} (ha : GoodIn big (c :: a)) (hb : GoodIn big b) : GoodIn big (c :: (a ++ b)) := fun w h => (List.mem_cons.mp h).elim (fun e => ha w (List.mem_cons.mpr (Or.inl e))) (fun h => (List.mem_append.mp h).elim (fun h => ha w (List.mem_cons.mpr (Or.inr h))) (hb w))
theorem goodIn_sub {big ws : List Cond} (hm : ∀ w ∈ ws, w ∈ big) (h : ws.all goodWord = true) : GoodIn big ws := fun w hw => ⟨hm w hw, good_of_word (List.all_eq_true.mp h w hw)⟩
/-! ===== END ===== -/

/-! ===== BEGIN exceptions that leave a method, and their catching by the caller (launches without stack traces) ===== -/
section VXA
/-! The laws vx_back, vx_callV, vx_callS, vx_callSW, vx_throw0, vx_throwS follow proofs of the library, with one case more: JvmDerived/Free/Laws.lean (Back.of_free), Shelf42/LK1.lean (callV, callS), Shelf/KitTraced.lean (throwNew0V, throwNewS). -/
/-- where a method has thrown q: the class by its name, the cell, what was written, the world -/
def vx_T (XC : String → State → State → Prop) (st : State) (q : Addr) (t : State) (mc ms : Nat) (free : Addr → Prop) : Prop :=
  ∃ (E : String) (ce : Cell) (L : List Loc), XC E st t ∧ t.heap[q]? = some ce ∧ ce.vm = .none ∧ st.vm.findClass E = some ce.cls ∧ st.WarmedH t.vm ∧ st.sameButNew ({ t with vm := st.vm } : State) L mc ms ∧ ∀ z ∈ L, free z.base
def vx_Q (Qc : Array Value → State → Outcome → State → Prop) (XC : String → State → State → Prop) (mc ms : Nat) (free : Addr → Prop) : Array Value → State → Outcome → State → Prop := fun a st o t =>
  (Qc a st o t ∧ ∃ L, FrameEnd st o t L mc ms ∧ ∀ q ∈ L, free q.base) ∨ ∃ q, o = .threw q ∧ vx_T XC st q t mc ms free
/-- a callee that returns or throws -/
def vx_Met (l : Launch) (y : MethodName) (ws : List Cond) (rm : Room) (Pc : Array Value → State → Prop) (Qc : Array Value → State → Outcome → State → Prop) (XC : String → State → State → Prop) (mc ms : Nat) (free : Addr → Prop) : Prop :=
  MetFree l y (headSpec ws rm) Pc (fun _ _ _ _ _ => True) (vx_Q Qc XC mc ms free)
def vx_Post (XC : String → State → State → Prop) (mc ms : Nat) (free : Addr → Prop) : Pt → Array Value → Addr → Pt → Prop := fun A a q B =>
  ∃ (g : JFrame) (mk : MethodId) (t : State) (L : List Loc) (E : String) (ce : Cell), B.U.heap = t.heap ∧ B.U.vm = t.vm ∧ XC E (A.U.calling g mk a) t ∧ t.heap[q]? = some ce ∧ ce.vm = .none ∧ A.U.vm.findClass E = some ce.cls ∧ B.locs = A.locs ++ L ∧ (∀ z ∈ L, free z.base) ∧ B.cells = A.cells + mc ∧ B.slots = A.slots + ms
def vx_Back (l : Launch) (R : Room) (p : Program) (e : Env) (below : List Frame) (s : State) (sargs : Array Value) (y : MethodName) (len W9 : Nat)
    (Pre : Pt → Array Value → Prop) (Post : Pt → Array Value → Option Value → Pt → Prop) (PostX : Pt → Array Value → Addr → Pt → Prop) : Prop :=
  ∀ (m : MethodId) (meth : Method) (c : Code) (A : Pt) (g : JFrame) (ig : Instr) (mk : MethodId) (a : Array Value),
    Stand p l e R s m sargs below meth c A.U A.locs A.cells A.slots → g.method = m → g.locals.size = c.maxLocals → decode c.code g.pc = .ok (ig, len) →
    2 * g.monitorRoom + (g.stack.map fun v => v.category).sum ≤ W9 → A.U.methodNamed? y = some mk → Pre A a →
    (∃ (v : Option Value) (B : Pt), Stand p l e R s m sargs below meth c B.U B.locs B.cells B.slots ∧ Post A a v B ∧
      Steps p.tables e below (doInvoke e (A.U.setTop g) [] mk a).1 (B.U.setTop { g with pc := g.pc + len, stack := v.toList ++ g.stack })) ∨
    (∃ (q : Addr) (B : Pt), Stand p l e R s m sargs below meth c B.U B.locs B.cells B.slots ∧ PostX A a q B ∧
      Steps p.tables e below (doInvoke e (A.U.setTop g) [] mk a).1 ((B.U.setTop g).pushFrame (.throwing q)))
section Payer
variable {l : Launch} {R : Room} {p : Program} {e : Env} {below : List Frame} {s : State} {sargs : Array Value} {y : MethodName} {len W9 : Nat}
theorem vx_back {ws : List Cond} {rm : Room} {Pc : Array Value → State → Prop} {Qc : Array Value → State → Outcome → State → Prop} {XC : String → State → State → Prop} {mc ms : Nat} {free : Addr → Prop} {bytes : ByteArray} {maxL : Nat} {ret : Option FieldType}
    (hM : vx_Met l y ws rm Pc Qc XC mc ms free) (hblind : FrameBlind Pc) (hrc : rm.cells = mc) (hrs : rm.slots = ms)
    (hframes : rm.frames + 1 ≤ R.frames) (hlocals : W9 + (maxL + 11) + rm.locals ≤ R.locals)
    (hws : ∀ w ∈ ws, ∀ a' U, s.WarmedH U.vm → w.before a' U = true) (hcode : Cond.code y bytes maxL ret ∈ ws) (hinit : ∀ a' U, s.WarmedH U.vm → (Cond.initialized y.cls).before a' U = true) :
    vx_Back l R p e below s sargs y len W9 (PreOf R mc ms Pc) (PostOf Qc mc ms free) (vx_Post XC mc ms free) := by
  intro m meth c A g ig mk a X hg hsize hdg hW hn hp
  have h1 : (headSpec ws rm).pre.before a A.U = true := atoms_intro fun w hw => hws w hw _ _ X.warmed
  have h2 : (Cond.code y bytes maxL ret).before a A.U = true := hws _ hcode _ _ X.warmed
  have h3 : (Cond.initialized y.cls).before a A.U = true := hinit _ _ X.warmed
  have h4 : A.cells + (headSpec ws rm).room.cells ≤ R.cells := by rw [show (headSpec ws rm).room.cells = mc from hrc]; exact hp.1
  have h5 : A.slots + (headSpec ws rm).room.slots ≤ R.slots := by rw [show (headSpec ws rm).room.slots = ms from hrs]; exact hp.2.1
  have hPc : Pc a (A.U.calling g mk a) := hblind _ _ _ _ hp.2.2
  obtain ⟨U, Ls, c0, s0⟩ := A
  dsimp only [Pt.U, Pt.locs, Pt.cells, Pt.slots] at h1 h2 h3 h4 h5 X hn hPc ⊢
  obtain ⟨methY, cY, hmY, hcY, -, hlY, -, -, -, -⟩ := Cond.code_spec hn h2
  obtain ⟨kY, hkY, -⟩ := className_of_methodNamed hn
  have hinitY : kY.init = .initialized := Cond.initialized_spec (findClass_of_methodNamed hn) hkY h3
  have h : At U g.method c below := by rw [hg]; exact X.here
  have hlocals9 : W9 + (maxL + 11) + (headSpec ws rm).room.locals ≤ R.locals := hlocals
  have happ : (headSpec ws rm).appliesLoose y e.platform (U.calling g mk a) = true :=
    Spec.appliesLoose_calling (g := g) h hdg hn hkY hinitY
      (X.room_calling (g := g) (R' := (headSpec ws rm).room) hsize hmY hcY hframes (by rw [hlY]; omega) h4 h5) h1
  obtain ⟨mid, hmid⟩ := h.above
  have hfr : (U.setTop g).frames = (.java g :: mid) ++ below := by rw [State.frames_setTop' g h.top, hmid]; rfl
  obtain ⟨o, s₂, hsteps, -, hend, hq⟩ := Steps.callFree hM p X.admits X.cas X.clock (acts := []) hfr happ hPc trivial
  have hq' : vx_Q Qc XC mc ms free a (U.calling g mk a) o s₂ := hq
  rw [State.frames_setTop' g h.top] at hend
  obtain ⟨g₀, hg0⟩ := Option.isSome_iff_exists.mp h.top
  obtain ⟨r, hr⟩ := State.topJava?_eq_some.mp hg0
  have hr' : (({ U with heap := s₂.heap, slotsUsed := s₂.slotsUsed } : State).setVm s₂.vm).frames = .java g₀ :: r := hr
  rcases hq' with ⟨hqc, L, hfe, hL⟩ | ⟨q, rfl, E, ce, L, hx, hce, hcv, hcl, hW₂, hsm, hL⟩
  · obtain ⟨⟨v, rfl⟩, hW₂, e2, q2, q3, q4, q5, q6⟩ := id hfe
    have e3 : s₂ = ({ (U.calling g mk a).setFrames s₂.frames with heap := s₂.heap, slotsUsed := s₂.slotsUsed } : State).setVm s₂.vm := by
      have : s₂ = ({ s₂ with vm := (U.calling g mk a).vm } : State).setVm s₂.vm := rfl
      rw [e2] at this
      exact this
    obtain ⟨c₂, i₂, len₂, hc₂, hd₂, hf₂⟩ := hend
    have hW' : U.WarmedH s₂.vm := hW₂
    have hcc : c₂ = c := by
      have h1 : s₂.code? g.method = U.code? g.method := by
        rw [State.code?_eq, State.code?_eq, hW'.alike.method?]
      exact Option.some.inj (hc₂.symm.trans (h1.trans h.code))
    subst hcc
    have hlen : len₂ = len := by rw [hdg] at hd₂; cases hd₂; rfl
    subst hlen
    have hs₂ : s₂ = (({ U with heap := s₂.heap, slotsUsed := s₂.slotsUsed } : State).setVm s₂.vm).setTop { g with pc := g.pc + len₂, stack := v.toList ++ g.stack } := by
      refine e3.trans ?_
      rw [hf₂, State.calling_eq h.top, State.setFrames_setFrames, State.setTop_of_frames _ hr', hr]
      rfl
    have hsame : U.sameButNew ({ U with heap := s₂.heap, slotsUsed := s₂.slotsUsed } : State) L mc ms := by
      refine ⟨?_, q2, q3, q4, q5, q6⟩
      obtain ⟨t, ht, -⟩ := State.frames_cons hr
      show ({ U with heap := s₂.heap, slotsUsed := s₂.slotsUsed } : State) = { U.setFrames U.frames with heap := s₂.heap, slotsUsed := s₂.slotsUsed }
      rw [State.setFrames_self ht]
    subst hg
    refine Or.inl ⟨v, ⟨(({ U with heap := s₂.heap, slotsUsed := s₂.slotsUsed } : State).setVm s₂.vm), Ls ++ L, c0 + mc, s0 + ms⟩,
      ⟨X.admits, X.cas, X.clock, X.frames, X.room, X.hears, X.method, X.code, (X.here.setHeapUsed s₂.heap s₂.slotsUsed).setVm hW'.alike, X.tail, State.WarmedH.trans X.warmed hW', X.limits, X.bytes, X.same.trans (hsame.setVm s.vm)⟩,
      ⟨g, mk, s₂, L, rfl, rfl, hqc, rfl, hL, rfl, rfl⟩, ?_⟩
    show Steps p.tables e below _ ((({ U with heap := s₂.heap, slotsUsed := s₂.slotsUsed } : State).setVm s₂.vm).setTop { g with pc := g.pc + len₂, stack := v.toList ++ g.stack })
    rw [← hs₂]
    exact hsteps
  · obtain ⟨e2, q2, q3, q4, q5, q6⟩ := id hsm
    have e3 : s₂ = ({ (U.calling g mk a).setFrames s₂.frames with heap := s₂.heap, slotsUsed := s₂.slotsUsed } : State).setVm s₂.vm := by
      have : s₂ = ({ s₂ with vm := (U.calling g mk a).vm } : State).setVm s₂.vm := rfl
      rw [e2] at this
      exact this
    have hf₂ : s₂.frames = .throwing q :: .java g :: U.frames.tail := hend
    have hW' : U.WarmedH s₂.vm := hW₂
    have hs₂ : s₂ = ((({ U with heap := s₂.heap, slotsUsed := s₂.slotsUsed } : State).setVm s₂.vm).setTop g).pushFrame (.throwing q) := by
      refine e3.trans ?_
      rw [hf₂, State.calling_eq h.top, State.setFrames_setFrames, State.pushFrame, State.frames_setTop _ hr', State.setTop_of_frames _ hr', State.setFrames_setFrames, hr]
      rfl
    have hsame : U.sameButNew ({ U with heap := s₂.heap, slotsUsed := s₂.slotsUsed } : State) L mc ms := by
      refine ⟨?_, q2, q3, q4, q5, q6⟩
      obtain ⟨t, ht, -⟩ := State.frames_cons hr
      show ({ U with heap := s₂.heap, slotsUsed := s₂.slotsUsed } : State) = { U.setFrames U.frames with heap := s₂.heap, slotsUsed := s₂.slotsUsed }
      rw [State.setFrames_self ht]
    subst hg
    refine Or.inr ⟨q, ⟨(({ U with heap := s₂.heap, slotsUsed := s₂.slotsUsed } : State).setVm s₂.vm), Ls ++ L, c0 + mc, s0 + ms⟩,
      ⟨X.admits, X.cas, X.clock, X.frames, X.room, X.hears, X.method, X.code, (X.here.setHeapUsed s₂.heap s₂.slotsUsed).setVm hW'.alike, X.tail, State.WarmedH.trans X.warmed hW', X.limits, X.bytes, X.same.trans (hsame.setVm s.vm)⟩,
      ⟨g, mk, s₂, L, E, ce, rfl, rfl, hx, hce, hcv, hcl, rfl, hL, rfl, rfl⟩, ?_⟩
    show Steps p.tables e below _ (((({ U with heap := s₂.heap, slotsUsed := s₂.slotsUsed } : State).setVm s₂.vm).setTop g).pushFrame (.throwing q))
    rw [← hs₂]
    exact hsteps
end Payer
section Calls
variable {p : Program} {l : Launch} {e : Env} {R : Room} {s : State} {m : MethodId} {args : Array Value} {below : List Frame} {meth : Method} {c : Code} {T : State} {locs : List Loc} {cells slots : Nat}
theorem vx_callV (X : Stand p l e R s m args below meth c T locs cells slots) (hexec : p.tables.exec = Jvm.exec) {own C : String} {index : Nat} {y : MethodName} {bytes : ByteArray} {maxL : Nat} {ret : Option FieldType}
    (hown : s.vm.findClass own = some m.cls) (hlink : (Cond.methodLink own index y).before args s = true) (hinst : (Cond.instanceMethod y).before args s = true) (hsel : (Cond.selects C y y).before args s = true)
    (hcode : (Cond.code y bytes maxL ret).before args s = true) (hy : y.cls ≠ "java/lang/invoke/MethodHandle" ∧ y.cls ≠ "java/lang/invoke/VarHandle")
    {W9 : Nat} {Pre : Pt → Array Value → Prop} {Post : Pt → Array Value → Option Value → Pt → Prop} {PostX : Pt → Array Value → Addr → Pt → Prop} (hK : vx_Back l R p e below s args y 3 W9 Pre Post PostX)
    {b : Addr} {cellB : Cell} (hcell : T.heap[b]? = some cellB) (hobj : cellB.vm.isStatics = false) (hcls : s.vm.findClass C = some cellB.cls)
    {g : JFrame} (hg : g.method = m) (hsize : g.locals.size = c.maxLocals) {argsL rest : List Value} (hlen : ∀ sig, parseMethodDescriptor y.desc = some sig → argsL.length = sig.parameters.length)
    (hstack : g.stack = argsL.reverse ++ .ref b :: rest) (hW : 2 * g.monitorRoom + (rest.map fun v => v.category).sum ≤ W9) (hdg : decode c.code g.pc = .ok (.invokevirtual index, 3))
    (hpre : ∀ vm₁, s.WarmedH vm₁ → Pre ⟨T.setVm vm₁, locs, cells, slots⟩ (Value.ref b :: argsL).toArray) :
    (∃ (v : Option Value) (vm₁ : Vm) (B : Pt), s.WarmedH vm₁ ∧ Stand p l e R s m args below meth c B.U B.locs B.cells B.slots ∧ Post ⟨T.setVm vm₁, locs, cells, slots⟩ (Value.ref b :: argsL).toArray v B ∧
      ∀ target, Steps p.tables e below (B.U.setTop { g with pc := g.pc + 3, stack := v.toList ++ rest }) target → Steps p.tables e below (T.setTop g) target) ∨
    (∃ (q : Addr) (vm₁ : Vm) (B : Pt), s.WarmedH vm₁ ∧ Stand p l e R s m args below meth c B.U B.locs B.cells B.slots ∧ PostX ⟨T.setVm vm₁, locs, cells, slots⟩ (Value.ref b :: argsL).toArray q B ∧
      Steps p.tables e below (T.setTop g) ((B.U.setTop { g with stack := rest }).pushFrame (.throwing q))) := by
  obtain ⟨mk, methM, hnamed, hmethM, hstM, habM⟩ := Cond.instanceMethod_spec hinst
  obtain ⟨methM', cM, hmethM', -, -, -, -, -, -, hsigM⟩ := Cond.code_spec hnamed hcode
  cases hmethM.symm.trans hmethM'
  obtain ⟨c2, r2, m2, q1, q2, q3, q4, kP, hkP, hkPi⟩ := Cond.selects_spec hsel
  cases hcls.symm.trans q1
  cases (State.methodFound?_of_named hnamed hy).symm.trans q2
  cases hnamed.symm.trans q3
  have hselP : selectMethod e.platform s.vm cellB.cls mk = .method mk := by rw [Launch.admits_selectMethod X.admits]; exact q4
  obtain ⟨vm₁, X₁, hstep₁⟩ := X.invokevirtual hexec hown hlink hnamed hmethM hstM hkP hkPi hy (a := b) (cell := cellB) hcell
    (fun z h => by rw [h] at hobj; cases hobj) hselP hmethM habM hkP hkPi (g := g) hg (argsL := argsL) (rest := rest) (hlen _ hsigM) hstack hdg
  rcases hK m meth c ⟨T.setVm vm₁, locs, cells, slots⟩ { g with stack := rest } (.invokevirtual index) mk (Value.ref b :: argsL).toArray X₁ hg hsize hdg hW (X₁.named hnamed) (hpre vm₁ X₁.warmed) with ⟨v, B, X', hpost, hsteps⟩ | ⟨q, B, X', hpost, hsteps⟩
  · exact Or.inl ⟨v, vm₁, B, X₁.warmed, X', hpost, fun target h => hstep₁ _ fun acts => by rw [doInvoke_state]; exact hsteps.trans h⟩
  · exact Or.inr ⟨q, vm₁, B, X₁.warmed, X', hpost, hstep₁ _ fun acts => by rw [doInvoke_state]; exact hsteps⟩
theorem vx_callS (X : Stand p l e R s m args below meth c T locs cells slots) (hexec : p.tables.exec = Jvm.exec) {own : String} {index : Nat} {y : MethodName} {bytes : ByteArray} {maxL : Nat} {ret : Option FieldType}
    (hown : s.vm.findClass own = some m.cls) (hlink : (Cond.methodLink own index y).before args s = true) (hstat : (Cond.static y).before args s = true) (hinit : (Cond.initialized y.cls).before args s = true)
    (hcode : (Cond.code y bytes maxL ret).before args s = true) (hy : y.cls ≠ "java/lang/invoke/MethodHandle" ∧ y.cls ≠ "java/lang/invoke/VarHandle")
    {W9 : Nat} {Pre : Pt → Array Value → Prop} {Post : Pt → Array Value → Option Value → Pt → Prop} {PostX : Pt → Array Value → Addr → Pt → Prop} (hK : vx_Back l R p e below s args y 3 W9 Pre Post PostX)
    {g : JFrame} (hg : g.method = m) (hsize : g.locals.size = c.maxLocals) {argsL rest : List Value} (hlen : ∀ sig, parseMethodDescriptor y.desc = some sig → argsL.length = sig.parameters.length)
    (hstack : g.stack = argsL.reverse ++ rest) (hW : 2 * g.monitorRoom + (rest.map fun v => v.category).sum ≤ W9) (hdg : decode c.code g.pc = .ok (.invokestatic index, 3))
    (hpre : ∀ vm₁, s.WarmedH vm₁ → Pre ⟨T.setVm vm₁, locs, cells, slots⟩ argsL.toArray) :
    (∃ (v : Option Value) (vm₁ : Vm) (B : Pt), s.WarmedH vm₁ ∧ Stand p l e R s m args below meth c B.U B.locs B.cells B.slots ∧ Post ⟨T.setVm vm₁, locs, cells, slots⟩ argsL.toArray v B ∧
      ∀ target, Steps p.tables e below (B.U.setTop { g with pc := g.pc + 3, stack := v.toList ++ rest }) target → Steps p.tables e below (T.setTop g) target) ∨
    (∃ (q : Addr) (vm₁ : Vm) (B : Pt), s.WarmedH vm₁ ∧ Stand p l e R s m args below meth c B.U B.locs B.cells B.slots ∧ PostX ⟨T.setVm vm₁, locs, cells, slots⟩ argsL.toArray q B ∧
      Steps p.tables e below (T.setTop g) ((B.U.setTop { g with stack := rest }).pushFrame (.throwing q))) := by
  obtain ⟨mk, hnamed⟩ := Cond.code_named hcode
  obtain ⟨methM, cM, hmethM, -, -, -, -, -, -, hsigM⟩ := Cond.code_spec hnamed hcode
  have hstatic : methM.isStatic = true := Cond.static_spec hnamed hmethM hstat
  obtain ⟨kP, hkP, -⟩ := className_of_methodNamed hnamed
  have hinitP : kP.init = .initialized := Cond.initialized_spec (findClass_of_methodNamed hnamed) hkP hinit
  obtain ⟨vm₁, X₁, hstep₁⟩ := X.invokestatic hexec hown hlink hnamed hmethM hstatic hkP hinitP hy (g := g) hg (argsL := argsL) (rest := rest) (hlen _ hsigM) hstack hdg
  rcases hK m meth c ⟨T.setVm vm₁, locs, cells, slots⟩ { g with stack := rest } (.invokestatic index) mk argsL.toArray X₁ hg hsize hdg hW (X₁.named hnamed) (hpre vm₁ X₁.warmed) with ⟨v, B, X', hpost, hsteps⟩ | ⟨q, B, X', hpost, hsteps⟩
  · exact Or.inl ⟨v, vm₁, B, X₁.warmed, X', hpost, fun target h => hstep₁ _ fun acts => by rw [doInvoke_state]; exact hsteps.trans h⟩
  · exact Or.inr ⟨q, vm₁, B, X₁.warmed, X', hpost, hstep₁ _ fun acts => by rw [doInvoke_state]; exact hsteps⟩
end Calls
theorem vx_cls {s : State} {T : State} {vm₁ : Vm} {E : String} {k : ClassId} (hW : s.WarmedH vm₁) (h : (T.setVm vm₁).vm.findClass E = some k) : s.vm.findClass E = some k := by
  have h1 : vm₁.findClass E = some k := h
  rw [hW.alike.findClass] at h1
  exact h1
/-- the method's frame g, with q thrown over it -/
def vx_W (p : Program) (l : Launch) (e : Env) (R : Room) (s : State) (m : MethodId) (args : Array Value) (below : List Frame) (meth : Method) (c : Code) (H : Heap) (locs : List Loc) (cells slots : Nat) (Q : State → Prop) (g : JFrame) (q : Addr) : Prop :=
  ∀ T : State, T.heap = H → Stand p l e R s m args below meth c T locs cells slots → ∃ t, Steps p.tables e below ((T.setTop g).pushFrame (.throwing q)) t ∧ Q t
def vx_Run (p : Program) (l : Launch) (e : Env) (R : Room) (s : State) (m : MethodId) (args : Array Value) (below : List Frame) (meth : Method) (c : Code) (H : Heap) (locs : List Loc) (cells slots mc ms : Nat) (g : JFrame) (rest : List Value) (Qa : State → Outcome → State → Prop) (XC : String → State → State → Prop) (free : Addr → Prop) : Prop :=
  ∀ T : State, T.heap = H → Stand p l e R s m args below meth c T locs cells slots →
    (∃ (v : Option Value) (st₀ t T' : State) (L : List Loc), st₀.heap = H ∧ Stand p l e R s m args below meth c T' (locs ++ L) (cells + mc) (slots + ms) ∧ (∀ q ∈ L, free q.base) ∧ T'.heap = t.heap ∧ T'.vm = t.vm ∧ Qa st₀ (.returned v) t ∧
      Goes p e below T g T' { g with pc := g.pc + 3, stack := v.toList ++ rest }) ∨
    (∃ (q : Addr) (st₀ t T' : State) (L : List Loc) (E : String) (ce : Cell), st₀.heap = H ∧ Stand p l e R s m args below meth c T' (locs ++ L) (cells + mc) (slots + ms) ∧ (∀ z ∈ L, free z.base) ∧ T'.heap = t.heap ∧ T'.vm = t.vm ∧ XC E st₀ t ∧ t.heap[q]? = some ce ∧ ce.vm = .none ∧ s.vm.findClass E = some ce.cls ∧
      Steps p.tables e below (T.setTop g) ((T'.setTop { g with stack := rest }).pushFrame (.throwing q)))
def vx_X {S : Type} (px : S → Prop) (B : String → S → State → Prop) (A : Nat → Prop) : String → State → State → Prop := fun E st t => ∃ u : S, px u ∧ B E u t ∧ va_F A st t
section Runs
variable {p : Program} {l : Launch} {e : Env} {R : Room} {s : State} {m : MethodId} {args : Array Value} {below : List Frame} {meth : Method} {c : Code} {H : Heap} {locs : List Loc} {cells slots : Nat}
variable {y : MethodName} {bytes cc : ByteArray} {maxL nL mc ms n index : Nat} {ret : Option FieldType} {ws : List Cond} {rm : Room} {Pc : Array Value → State → Prop} {Qc : Array Value → State → Outcome → State → Prop} {XC : String → State → State → Prop} {free : Addr → Prop} {Ts : List Cond} {own C : String} {b : Addr} {As rest : List Value} {g : JFrame}
theorem vx_callBack (cb : CallB R s args own index y bytes maxL ret ws rm mc ms n) (hM : vx_Met l y ws rm Pc Qc XC mc ms free) (hbl : FrameBlind Pc) : vx_Back l R p e below s args y 3 8 (PreOf R mc ms Pc) (PostOf Qc mc ms free) (vx_Post XC mc ms free) := by
  obtain ⟨hrc, hrs, hfr, hlo, hws, hcw, -, hini, -⟩ := cb
  exact vx_back (bytes := bytes) (maxL := maxL) (ret := ret) hM hbl hrc hrs hfr hlo hws hcw (fun a' U hW => word_at hW (Or.inl (by first | rfl | simp [Cond.onTables, Cond.keeps, Cond.steady])) hini)
theorem vx_runV (S : CallFix p m c cc nL s args Ts own) (hM : vx_Met l y ws rm Pc Qc XC mc ms free) (cw : CallW R s args own C index y bytes maxL ret ws rm mc ms n) (hp : PreV s H C b Pc As)
    (hg : g.method = m) (hn : As.length = n) (hsize : g.locals.size = nL) (hstack : g.stack = As.reverse ++ .ref b :: rest) (hW : 2 * g.monitorRoom + (rest.map fun v => v.category).sum ≤ 8) (hdg : decode cc g.pc = .ok (.invokevirtual index, 3)) (hf : cells + mc ≤ R.cells ∧ slots + ms ≤ R.slots) :
    vx_Run p l e R s m args below meth c H locs cells slots mc ms g rest (Qc (Value.ref b :: As).toArray) XC free := by
  have hK : vx_Back l R p e below s args y 3 8 (PreOf R mc ms Pc) (PostOf Qc mc ms free) (vx_Post XC mc ms free) := vx_callBack cw.1 hM hp.1
  obtain ⟨⟨-, -, -, -, -, -, hcode, -, hy, hlen, hl⟩, hin, hse⟩ := cw
  obtain ⟨hx, hb, hml, ho, -⟩ := S
  obtain ⟨-, ⟨cellB, hcB, hoB, hclB⟩, hPc⟩ := hp
  intro T hT X
  rcases vx_callV X hx (C := C) (bytes := bytes) (maxL := maxL) (ret := ret) ho hl hin hse hcode hy hK (by rw [hT]; exact hcB) hoB hclB hg (hsize.trans hml.symm) (argsL := As) (rest := rest) (fun sig h => hn.trans (hlen sig h)) hstack hW (by rw [hb]; exact hdg)
    (fun vm₁ hW₁ => ⟨hf.1, hf.2, hPc (T.setVm vm₁) hT hW₁⟩) with ⟨v, vm₁, ⟨U', l2, c2, s2⟩, hW₁, X', ⟨g', mk, t, L, e1, e2, hq, h1, hL, h2, h3⟩, st⟩ | ⟨q, vm₁, ⟨U', l2, c2, s2⟩, hW₁, X', ⟨g', mk, t, L, E, ce, e1, e2, hq, hce, hcv, hcl, h1, hL, h2, h3⟩, st⟩
  · dsimp only [Pt.U, Pt.locs, Pt.cells, Pt.slots] at X' e1 e2 h1 h2 h3 st
    subst h1; subst h2; subst h3
    exact Or.inl ⟨v, (T.setVm vm₁).calling g' mk (Value.ref b :: As).toArray, t, U', L, hT, X', hL, e1, e2, hq, st⟩
  · dsimp only [Pt.U, Pt.locs, Pt.cells, Pt.slots] at X' e1 e2 h1 h2 h3 st hcl
    subst h1; subst h2; subst h3
    exact Or.inr ⟨q, (T.setVm vm₁).calling g' mk (Value.ref b :: As).toArray, t, U', L, E, ce, hT, X', hL, e1, e2, hq, hce, hcv, vx_cls hW₁ hcl, st⟩
theorem vx_runS (S : CallFix p m c cc nL s args Ts own) (hM : vx_Met l y ws rm Pc Qc XC mc ms free) (cw : CallB R s args own index y bytes maxL ret ws rm mc ms n ∧ (Cond.static y).before args s = true) (hp : PreS s H Pc As)
    (hg : g.method = m) (hn : As.length = n) (hsize : g.locals.size = nL) (hstack : g.stack = As.reverse ++ rest) (hW : 2 * g.monitorRoom + (rest.map fun v => v.category).sum ≤ 8) (hdg : decode cc g.pc = .ok (.invokestatic index, 3)) (hf : cells + mc ≤ R.cells ∧ slots + ms ≤ R.slots) :
    vx_Run p l e R s m args below meth c H locs cells slots mc ms g rest (Qc As.toArray) XC free := by
  have hK : vx_Back l R p e below s args y 3 8 (PreOf R mc ms Pc) (PostOf Qc mc ms free) (vx_Post XC mc ms free) := vx_callBack cw.1 hM hp.1
  obtain ⟨⟨-, -, -, -, -, -, hcode, hini, hy, hlen, hl⟩, hstt⟩ := cw
  obtain ⟨hx, hb, hml, ho, -⟩ := S
  intro T hT X
  rcases vx_callS X hx (bytes := bytes) (maxL := maxL) (ret := ret) ho hl hstt hini hcode hy hK hg (hsize.trans hml.symm) (argsL := As) (rest := rest) (fun sig h => hn.trans (hlen sig h)) hstack hW (by rw [hb]; exact hdg)
    (fun vm₁ hW₁ => ⟨hf.1, hf.2, hp.2 (T.setVm vm₁) hT hW₁⟩) with ⟨v, vm₁, ⟨U', l2, c2, s2⟩, hW₁, X', ⟨g', mk, t, L, e1, e2, hq, h1, hL, h2, h3⟩, st⟩ | ⟨q, vm₁, ⟨U', l2, c2, s2⟩, hW₁, X', ⟨g', mk, t, L, E, ce, e1, e2, hq, hce, hcv, hcl, h1, hL, h2, h3⟩, st⟩
  · dsimp only [Pt.U, Pt.locs, Pt.cells, Pt.slots] at X' e1 e2 h1 h2 h3 st
    subst h1; subst h2; subst h3
    exact Or.inl ⟨v, (T.setVm vm₁).calling g' mk As.toArray, t, U', L, hT, X', hL, e1, e2, hq, st⟩
  · dsimp only [Pt.U, Pt.locs, Pt.cells, Pt.slots] at X' e1 e2 h1 h2 h3 st hcl
    subst h1; subst h2; subst h3
    exact Or.inr ⟨q, (T.setVm vm₁).calling g' mk As.toArray, t, U', L, E, ce, hT, X', hL, e1, e2, hq, hce, hcv, vx_cls hW₁ hcl, st⟩
end Runs
section Rows
variable {p : Program} {l : Launch} {e : Env} {R : Room} {s : State} {m : MethodId} {args : Array Value} {below : List Frame} {meth : Method} {c : Code} {H : Heap} {locs : List Loc} {cells slots : Nat} {Q : State → Prop}
variable {mc ms : Nat} {free : Addr → Prop} {A0 A1 : Nat → Prop} {H0 : Heap} {a : Array Value} {pc : Nat} {ls : Array Slot} {st0 rest : List Value}
theorem vx_keep {st₀ t T' : State} {L : List Loc} (h0 : st₀.heap = H) (e1 : T'.heap = t.heap) (hS : va_S A0 H0 H locs) (hA : ∀ q, q < H.size → A1 q → A0 q) (hf : ∀ q, free q → A0 q) (hL : ∀ q ∈ L, free q.base) (hF : va_F A1 st₀ t) :
    H.size ≤ T'.heap.size ∧ (∀ q : Nat, q < H.size → ¬ A1 q → T'.heap[q]? = H[q]?) ∧ va_S A0 H0 T'.heap (locs ++ L) := by
  obtain ⟨hz, hk⟩ := hF
  rw [h0] at hz hk
  exact ⟨by rw [e1]; exact hz, fun q h1 h2 => by rw [e1]; exact hk q h1 h2,
    ⟨Nat.le_trans hS.1 (by rw [e1]; exact hz), fun q h1 h2 => by rw [e1, hk q (Nat.lt_of_lt_of_le h1 hS.1) (fun z => h2 (hA q (Nat.lt_of_lt_of_le h1 hS.1) z))]; exact hS.2.1 q h1 h2, fun q hq => by
      rcases List.mem_append.mp hq with h | h
      · exact hS.2.2 q h
      · exact hf _ (hL q h)⟩⟩
theorem vx_calli {S SX : Type} {post : Int32 → S → Prop} {px : SX → Prop} {B : S → State → Prop} {BX : String → SX → State → Prop} {AX : Nat → Prop} (hr : vx_Run p l e R s m args below meth c H locs cells slots mc ms (F0 m pc ls st0) rest (va_Qi post B A1 a) (vx_X px BX AX) free) (hS : va_S A0 H0 H locs) (hA : ∀ q, q < H.size → A1 q → A0 q) (hf : ∀ q, free q → A0 q) (hAX : ∀ q, q < H.size → AX q → A0 q)
    (kx : ∀ (E : String) (ce : Cell) (q9 : Addr) (u : SX) (t : State) (H1 : Heap) (locs1 : List Loc), t.heap = H1 → s.vm.Alike t.vm → px u → BX E u t → H.size ≤ H1.size → (∀ q : Nat, q < H.size → ¬ AX q → H1[q]? = H[q]?) → va_S A0 H0 H1 locs1 → H1[q9]? = some ce → ce.vm = .none → s.vm.findClass E = some ce.cls → vx_W p l e R s m args below meth c H1 locs1 (cells + mc) (slots + ms) Q (F0 m pc ls rest) q9)
    (kk : ∀ (r : Int32) (u : S) (t : State) (H1 : Heap) (locs1 : List Loc), t.heap = H1 → s.vm.Alike t.vm → post r u → B u t → H.size ≤ H1.size → (∀ q : Nat, q < H.size → ¬ A1 q → H1[q]? = H[q]?) → va_S A0 H0 H1 locs1 → W p l e R s m args below meth c H1 locs1 (cells + mc) (slots + ms) Q (F0 m (pc + 3) ls (.int r :: rest))) : W p l e R s m args below meth c H locs cells slots Q (F0 m pc ls st0) := by
  intro T hT X
  rcases hr T hT X with ⟨v, st₀, t, T', L, h0, X', hL, e1, e2, ⟨⟨r, u, hv, hp, hb⟩, hF⟩, st⟩ | ⟨q, st₀, t, T', L, E, ce, h0, X', hL, e1, e2, ⟨u, hp, hb, hF⟩, hce, hcv, hcl, st⟩
  · cases hv
    obtain ⟨k1, k2, k3⟩ := vx_keep h0 e1 hS hA hf hL hF
    obtain ⟨t2, a1, b1⟩ := kk r u t T'.heap (locs ++ L) e1.symm (by rw [← e2]; exact X'.warmed.alike) hp hb k1 k2 k3 T' rfl X'
    exact ⟨t2, st t2 a1, b1⟩
  · obtain ⟨k1, k2, k3⟩ := vx_keep h0 e1 hS hAX hf hL hF
    obtain ⟨t2, a1, b1⟩ := kx E ce q u t T'.heap (locs ++ L) e1.symm (by rw [← e2]; exact X'.warmed.alike) hp hb k1 k2 k3 (by rw [e1]; exact hce) hcv hcl T' rfl X'
    exact ⟨t2, st.trans a1, b1⟩
theorem vx_calll {S SX : Type} {post : Int64 → S → Prop} {px : SX → Prop} {B : S → State → Prop} {BX : String → SX → State → Prop} {AX : Nat → Prop} (hr : vx_Run p l e R s m args below meth c H locs cells slots mc ms (F0 m pc ls st0) rest (va_Ql post B A1 a) (vx_X px BX AX) free) (hS : va_S A0 H0 H locs) (hA : ∀ q, q < H.size → A1 q → A0 q) (hf : ∀ q, free q → A0 q) (hAX : ∀ q, q < H.size → AX q → A0 q)
    (kx : ∀ (E : String) (ce : Cell) (q9 : Addr) (u : SX) (t : State) (H1 : Heap) (locs1 : List Loc), t.heap = H1 → s.vm.Alike t.vm → px u → BX E u t → H.size ≤ H1.size → (∀ q : Nat, q < H.size → ¬ AX q → H1[q]? = H[q]?) → va_S A0 H0 H1 locs1 → H1[q9]? = some ce → ce.vm = .none → s.vm.findClass E = some ce.cls → vx_W p l e R s m args below meth c H1 locs1 (cells + mc) (slots + ms) Q (F0 m pc ls rest) q9)
    (kk : ∀ (r : Int64) (u : S) (t : State) (H1 : Heap) (locs1 : List Loc), t.heap = H1 → s.vm.Alike t.vm → post r u → B u t → H.size ≤ H1.size → (∀ q : Nat, q < H.size → ¬ A1 q → H1[q]? = H[q]?) → va_S A0 H0 H1 locs1 → W p l e R s m args below meth c H1 locs1 (cells + mc) (slots + ms) Q (F0 m (pc + 3) ls (.long r :: rest))) : W p l e R s m args below meth c H locs cells slots Q (F0 m pc ls st0) := by
  intro T hT X
  rcases hr T hT X with ⟨v, st₀, t, T', L, h0, X', hL, e1, e2, ⟨⟨r, u, hv, hp, hb⟩, hF⟩, st⟩ | ⟨q, st₀, t, T', L, E, ce, h0, X', hL, e1, e2, ⟨u, hp, hb, hF⟩, hce, hcv, hcl, st⟩
  · cases hv
    obtain ⟨k1, k2, k3⟩ := vx_keep h0 e1 hS hA hf hL hF
    obtain ⟨t2, a1, b1⟩ := kk r u t T'.heap (locs ++ L) e1.symm (by rw [← e2]; exact X'.warmed.alike) hp hb k1 k2 k3 T' rfl X'
    exact ⟨t2, st t2 a1, b1⟩
  · obtain ⟨k1, k2, k3⟩ := vx_keep h0 e1 hS hAX hf hL hF
    obtain ⟨t2, a1, b1⟩ := kx E ce q u t T'.heap (locs ++ L) e1.symm (by rw [← e2]; exact X'.warmed.alike) hp hb k1 k2 k3 (by rw [e1]; exact hce) hcv hcl T' rfl X'
    exact ⟨t2, st.trans a1, b1⟩
theorem vx_callf {S SX : Type} {post : UInt32 → S → Prop} {px : SX → Prop} {B : S → State → Prop} {BX : String → SX → State → Prop} {AX : Nat → Prop} (hr : vx_Run p l e R s m args below meth c H locs cells slots mc ms (F0 m pc ls st0) rest (va_Qf post B A1 a) (vx_X px BX AX) free) (hS : va_S A0 H0 H locs) (hA : ∀ q, q < H.size → A1 q → A0 q) (hf : ∀ q, free q → A0 q) (hAX : ∀ q, q < H.size → AX q → A0 q)
    (kx : ∀ (E : String) (ce : Cell) (q9 : Addr) (u : SX) (t : State) (H1 : Heap) (locs1 : List Loc), t.heap = H1 → s.vm.Alike t.vm → px u → BX E u t → H.size ≤ H1.size → (∀ q : Nat, q < H.size → ¬ AX q → H1[q]? = H[q]?) → va_S A0 H0 H1 locs1 → H1[q9]? = some ce → ce.vm = .none → s.vm.findClass E = some ce.cls → vx_W p l e R s m args below meth c H1 locs1 (cells + mc) (slots + ms) Q (F0 m pc ls rest) q9)
    (kk : ∀ (r : UInt32) (u : S) (t : State) (H1 : Heap) (locs1 : List Loc), t.heap = H1 → s.vm.Alike t.vm → post r u → B u t → H.size ≤ H1.size → (∀ q : Nat, q < H.size → ¬ A1 q → H1[q]? = H[q]?) → va_S A0 H0 H1 locs1 → W p l e R s m args below meth c H1 locs1 (cells + mc) (slots + ms) Q (F0 m (pc + 3) ls (.float r :: rest))) : W p l e R s m args below meth c H locs cells slots Q (F0 m pc ls st0) := by
  intro T hT X
  rcases hr T hT X with ⟨v, st₀, t, T', L, h0, X', hL, e1, e2, ⟨⟨r, u, hv, hp, hb⟩, hF⟩, st⟩ | ⟨q, st₀, t, T', L, E, ce, h0, X', hL, e1, e2, ⟨u, hp, hb, hF⟩, hce, hcv, hcl, st⟩
  · cases hv
    obtain ⟨k1, k2, k3⟩ := vx_keep h0 e1 hS hA hf hL hF
    obtain ⟨t2, a1, b1⟩ := kk r u t T'.heap (locs ++ L) e1.symm (by rw [← e2]; exact X'.warmed.alike) hp hb k1 k2 k3 T' rfl X'
    exact ⟨t2, st t2 a1, b1⟩
  · obtain ⟨k1, k2, k3⟩ := vx_keep h0 e1 hS hAX hf hL hF
    obtain ⟨t2, a1, b1⟩ := kx E ce q u t T'.heap (locs ++ L) e1.symm (by rw [← e2]; exact X'.warmed.alike) hp hb k1 k2 k3 (by rw [e1]; exact hce) hcv hcl T' rfl X'
    exact ⟨t2, st.trans a1, b1⟩
theorem vx_calld {S SX : Type} {post : UInt64 → S → Prop} {px : SX → Prop} {B : S → State → Prop} {BX : String → SX → State → Prop} {AX : Nat → Prop} (hr : vx_Run p l e R s m args below meth c H locs cells slots mc ms (F0 m pc ls st0) rest (va_Qd post B A1 a) (vx_X px BX AX) free) (hS : va_S A0 H0 H locs) (hA : ∀ q, q < H.size → A1 q → A0 q) (hf : ∀ q, free q → A0 q) (hAX : ∀ q, q < H.size → AX q → A0 q)
    (kx : ∀ (E : String) (ce : Cell) (q9 : Addr) (u : SX) (t : State) (H1 : Heap) (locs1 : List Loc), t.heap = H1 → s.vm.Alike t.vm → px u → BX E u t → H.size ≤ H1.size → (∀ q : Nat, q < H.size → ¬ AX q → H1[q]? = H[q]?) → va_S A0 H0 H1 locs1 → H1[q9]? = some ce → ce.vm = .none → s.vm.findClass E = some ce.cls → vx_W p l e R s m args below meth c H1 locs1 (cells + mc) (slots + ms) Q (F0 m pc ls rest) q9)
    (kk : ∀ (r : UInt64) (u : S) (t : State) (H1 : Heap) (locs1 : List Loc), t.heap = H1 → s.vm.Alike t.vm → post r u → B u t → H.size ≤ H1.size → (∀ q : Nat, q < H.size → ¬ A1 q → H1[q]? = H[q]?) → va_S A0 H0 H1 locs1 → W p l e R s m args below meth c H1 locs1 (cells + mc) (slots + ms) Q (F0 m (pc + 3) ls (.double r :: rest))) : W p l e R s m args below meth c H locs cells slots Q (F0 m pc ls st0) := by
  intro T hT X
  rcases hr T hT X with ⟨v, st₀, t, T', L, h0, X', hL, e1, e2, ⟨⟨r, u, hv, hp, hb⟩, hF⟩, st⟩ | ⟨q, st₀, t, T', L, E, ce, h0, X', hL, e1, e2, ⟨u, hp, hb, hF⟩, hce, hcv, hcl, st⟩
  · cases hv
    obtain ⟨k1, k2, k3⟩ := vx_keep h0 e1 hS hA hf hL hF
    obtain ⟨t2, a1, b1⟩ := kk r u t T'.heap (locs ++ L) e1.symm (by rw [← e2]; exact X'.warmed.alike) hp hb k1 k2 k3 T' rfl X'
    exact ⟨t2, st t2 a1, b1⟩
  · obtain ⟨k1, k2, k3⟩ := vx_keep h0 e1 hS hAX hf hL hF
    obtain ⟨t2, a1, b1⟩ := kx E ce q u t T'.heap (locs ++ L) e1.symm (by rw [← e2]; exact X'.warmed.alike) hp hb k1 k2 k3 (by rw [e1]; exact hce) hcv hcl T' rfl X'
    exact ⟨t2, st.trans a1, b1⟩
theorem vx_callv {S SX : Type} {post : S → Prop} {px : SX → Prop} {B : S → State → Prop} {BX : String → SX → State → Prop} {AX : Nat → Prop} (hr : vx_Run p l e R s m args below meth c H locs cells slots mc ms (F0 m pc ls st0) rest (va_Qv post B A1 a) (vx_X px BX AX) free) (hS : va_S A0 H0 H locs) (hA : ∀ q, q < H.size → A1 q → A0 q) (hf : ∀ q, free q → A0 q) (hAX : ∀ q, q < H.size → AX q → A0 q)
    (kx : ∀ (E : String) (ce : Cell) (q9 : Addr) (u : SX) (t : State) (H1 : Heap) (locs1 : List Loc), t.heap = H1 → s.vm.Alike t.vm → px u → BX E u t → H.size ≤ H1.size → (∀ q : Nat, q < H.size → ¬ AX q → H1[q]? = H[q]?) → va_S A0 H0 H1 locs1 → H1[q9]? = some ce → ce.vm = .none → s.vm.findClass E = some ce.cls → vx_W p l e R s m args below meth c H1 locs1 (cells + mc) (slots + ms) Q (F0 m pc ls rest) q9)
    (kk : ∀ (u : S) (t : State) (H1 : Heap) (locs1 : List Loc), t.heap = H1 → s.vm.Alike t.vm → post u → B u t → H.size ≤ H1.size → (∀ q : Nat, q < H.size → ¬ A1 q → H1[q]? = H[q]?) → va_S A0 H0 H1 locs1 → W p l e R s m args below meth c H1 locs1 (cells + mc) (slots + ms) Q (F0 m (pc + 3) ls (rest))) : W p l e R s m args below meth c H locs cells slots Q (F0 m pc ls st0) := by
  intro T hT X
  rcases hr T hT X with ⟨v, st₀, t, T', L, h0, X', hL, e1, e2, ⟨⟨u, hv, hp, hb⟩, hF⟩, st⟩ | ⟨q, st₀, t, T', L, E, ce, h0, X', hL, e1, e2, ⟨u, hp, hb, hF⟩, hce, hcv, hcl, st⟩
  · cases hv
    obtain ⟨k1, k2, k3⟩ := vx_keep h0 e1 hS hA hf hL hF
    obtain ⟨t2, a1, b1⟩ := kk u t T'.heap (locs ++ L) e1.symm (by rw [← e2]; exact X'.warmed.alike) hp hb k1 k2 k3 T' rfl X'
    exact ⟨t2, st t2 a1, b1⟩
  · obtain ⟨k1, k2, k3⟩ := vx_keep h0 e1 hS hAX hf hL hF
    obtain ⟨t2, a1, b1⟩ := kx E ce q u t T'.heap (locs ++ L) e1.symm (by rw [← e2]; exact X'.warmed.alike) hp hb k1 k2 k3 (by rw [e1]; exact hce) hcv hcl T' rfl X'
    exact ⟨t2, st.trans a1, b1⟩
/-- caught by the row x of this method's table; the rows ahead don't take it -/
theorem vx_catch {own name : String} {E : String} {ce : Cell} {q : Addr} (hown : s.vm.findClass own = some m.cls) (pre : List ExceptionTableEntry) (x : ExceptionTableEntry) (suf : List ExceptionTableEntry) (hsplit : c.exceptionTable.toList = pre ++ x :: suf)
    (hpass : ∀ z ∈ pre, covers z pc = false ∨ (z.catchType ≠ 0 ∧ ∃ nm : String, (Cond.classLink own z.catchType nm).before args s = true ∧ va_Nc E nm s)) (hx : covers x pc = true) (h0 : x.catchType ≠ 0)
    (hlink : (Cond.classLink own x.catchType name).before args s = true) (hcast : (Cond.castable E name).before args s = true) (hcell : H[q]? = some ce) (hv : ce.vm = .none) (hcl : s.vm.findClass E = some ce.cls)
    (kk : W p l e R s m args below meth c H locs cells slots Q (F0 m x.handlerPc ls [.ref q])) : vx_W p l e R s m args below meth c H locs cells slots Q (F0 m pc ls rest) q := by
  intro T hT X
  have hpl : e.platform.magicAccessors = ({} : Platform).magicAccessors := by rw [X.admits.platform]
  obtain ⟨c3, c4, hc3, hc4, hasg⟩ := Cond.castable_spec hcast
  cases Option.some.inj (hc3.symm.trans hcl)
  obtain ⟨c5, hc5, hcl5⟩ := Cond.classLink_spec hown hlink e.platform hpl
  cases Option.some.inj (hc4.symm.trans hc5)
  obtain ⟨vm', X', st⟩ := X.thenCaughtThrough q (g := F0 m pc ls rest) rfl (Steps.refl _) (by rw [hT]; exact hcell) (by rw [hv]; rfl) (by obtain ⟨k9, h9, -⟩ := Vm.findClass_spec hcl; exact ⟨k9, h9⟩) pre x suf hsplit
    (fun z hz => by
      rcases hpass z hz with h | ⟨hz0, nm, hl1, hn1⟩
      · exact Or.inl h
      · obtain ⟨c6, hc6, hcl6⟩ := Cond.classLink_spec hown hl1 e.platform hpl
        obtain ⟨a8, b8, h1, h2, h3⟩ := hn1
        cases Option.some.inj (h1.symm.trans hcl)
        cases Option.some.inj (h2.symm.trans hc6)
        exact Or.inr ⟨hz0, _, hcl6, h3⟩) hx (Or.inr ⟨h0, c4, hcl5, hasg⟩)
  obtain ⟨t, a1, b1⟩ := kk (T.setVm vm') hT X'
  exact ⟨t, st.trans a1, b1⟩
end Rows
section Ends
variable {p : Program} {l : Launch} {e : Env} {R : Room} {s : State} {m : MethodId} {args : Array Value} {below : List Frame} {meth : Method} {c : Code} {H : Heap} {locs : List Loc} {cells slots : Nat} {Q : State → Prop}
variable {mc ms : Nat} {free : Addr → Prop} {A0 A1 : Nat → Prop} {H0 : Heap} {a : Array Value} {ls : Array Slot} {st0 rest : List Value}
variable {Qc : Array Value → State → Outcome → State → Prop} {XC : String → State → State → Prop}
/-- what a body that may throw owes at its end -/
def vx_MQ (below : List Frame) (Qc : Array Value → State → Outcome → State → Prop) (XC : String → State → State → Prop) (a : Array Value) (s : State) (mc ms : Nat) (free : Addr → Prop) : State → Prop := fun t =>
  ∃ o, t.status = .running ∧ Ended t below o ∧ vx_Q Qc XC mc ms free a s o t
theorem vx_ret {g : JFrame} {mc ms : Nat} (k : W p l e R s m args below meth c H locs cells slots (MQ below Qc args s mc ms free) g) : W p l e R s m args below meth c H locs cells slots (vx_MQ below Qc XC args s mc ms free) g := by
  intro T hT X
  obtain ⟨t, a1, o, b1, b2, b3, b4⟩ := k T hT X
  exact ⟨t, a1, o, b1, b2, Or.inl ⟨b3, b4⟩⟩
/-- not caught here: it goes on to the caller -/
theorem vx_widen {g : JFrame} {q : Addr} {k n : Nat} (h1 : cells ≤ k) (h2 : slots ≤ n) (kk : vx_W p l e R s m args below meth c H locs k n Q g q) : vx_W p l e R s m args below meth c H locs cells slots Q g q := fun T hT X => kk T hT (stand_widen X h1 h2)
theorem vx_out {pc : Nat} {E : String} {ce : Cell} {q : Addr} {mc ms : Nat} (hout : ∀ x ∈ c.exceptionTable.toList, covers x pc = false) (hlocks : meth.locks = false) (hcell : H[q]? = some ce) (hv : ce.vm = .none) (hcl : s.vm.findClass E = some ce.cls)
    (hx : ∀ t : State, t.heap = H → s.vm.Alike t.vm → XC E s t) (hf : ∀ z ∈ locs, free z.base) (hc : cells ≤ mc) (hs : slots ≤ ms) :
    vx_W p l e R s m args below meth c H locs cells slots (vx_MQ below Qc XC args s mc ms free) (F0 m pc ls rest) q := by
  intro T hT X
  obtain ⟨st1, hrun, hend, hW, hsm⟩ := X.leaveThrown q (g := F0 m pc ls rest) rfl rfl rfl hout hlocks
  have hcell9 : (T.setFrames (.throwing q :: below)).heap[q]? = some ce := by
    show T.heap[q]? = some ce
    rw [hT]; exact hcell
  exact ⟨_, st1, .threw q, hrun, hend, Or.inr ⟨q, rfl, E, ce, locs, hx _ hT hW.alike, hcell9, hv, hcl, hW, hsm.mono hc hs, hf⟩⟩
theorem vx_frame {U : State} {k n : Nat} (h : s.sameButNew ({ U with vm := s.vm } : State) locs k n) : s.heap.size ≤ U.heap.size ∧ ∀ q : Nat, q < s.heap.size → (∀ z ∈ locs, z.base ≠ q) → U.heap[q]? = s.heap[q]? := by
  obtain ⟨-, h2, -, -, -, h6⟩ := h
  refine ⟨h2, fun q hq hz => ?_⟩
  obtain ⟨c9, e1, e2, e3, e4⟩ := h6 q _ (Array.getElem?_eq_getElem hq)
  have hs : c9.slots = (s.heap[q]).slots := Array.ext_getElem? fun i => e4 i fun hm => hz _ hm rfl
  have h9 : c9 = s.heap[q] := by
    rw [hs] at e2
    exact e2
  have e5 : U.heap[q]? = some c9 := e1
  rw [e5, h9, Array.getElem?_eq_getElem hq]
/-- the words of a throw but the four that speak of the heap -/
def vx_no (w : Cond) : Bool := decide (w ≠ .isRef (.static Bundle.tN "UNASSIGNED_STACK" Bundle.steD)) && decide (w ≠ .isRef (.static Bundle.tN "SUPPRESSED_SENTINEL" Bundle.listD)) && decide (w ≠ .laysStatic Bundle.tN "UNASSIGNED_STACK" Bundle.steD) && decide (w ≠ .laysStatic Bundle.tN "SUPPRESSED_SENTINEL" Bundle.listD)
def vx_at0 (own : String) (ic : Nat) (X : String) (names : List String) : List Cond := (Bundle.ownAtoms0 own ic X names).filter vx_no
def vx_atS (own : String) (ic : Nat) (X : String) (names : List String) : List Cond := (Bundle.ownAtoms own ic X names).filter vx_no
/-- a word that the tables alone decide, or a good one -/
def vx_ot (w : Cond) : Bool := w.onTables || goodWord w
theorem vx_ot_at {args a' : Array Value} {s U : State} {w : Cond} (hW : s.WarmedH U.vm) (hvm : s.vm = U.vm) (hg : vx_ot w = true) (h : w.before args s = true) : w.before a' U = true := by
  simp only [vx_ot, Bool.or_eq_true] at hg
  rcases hg with hg | hg
  · exact va_tabs hg hvm h
  · exact word_at hW (good_of_word hg) h
/-- a list's words: the good ones out of the method's own list, the others by premises of their own -/
theorem vx_hat {args : Array Value} {s : State} {L B : List Cond} (h1 : ∀ w ∈ L.filter goodWord, w.before args s = true) (h2 : ∀ w ∈ L.filter (fun w => !goodWord w), w ∈ B) (h3 : ∀ w ∈ B, w.before args s = true) : ∀ w ∈ L, w.before args s = true := by
  intro w hw
  by_cases g : goodWord w = true
  · exact h1 w (List.mem_filter.mpr ⟨hw, g⟩)
  · refine h3 w (h2 w (List.mem_filter.mpr ⟨hw, ?_⟩))
    show (!goodWord w) = true
    cases hgw : goodWord w
    · rfl
    · exact absurd hgw g
theorem vx_c {args : Array Value} {s : State} {w : Cond} {B : List Cond} (h : w.before args s = true) (t : ∀ w ∈ B, w.before args s = true) : ∀ w' ∈ w :: B, w'.before args s = true := fun w' h' => (List.mem_cons.mp h').elim (fun e => by rw [e]; exact h) (t w')
theorem vx_n {args : Array Value} {s : State} : ∀ w ∈ ([] : List Cond), w.before args s = true := fun _ h => nomatch h
theorem vx_own {args : Array Value} {s : State} {L : List Cond} (h1 : ∀ w ∈ L.filter vx_no, w.before args s = true)
    (hU : (Cond.isRef (.static Bundle.tN "UNASSIGNED_STACK" Bundle.steD)).before args s = true) (hN : (Cond.isRef (.static Bundle.tN "SUPPRESSED_SENTINEL" Bundle.listD)).before args s = true)
    (lU : (Cond.laysStatic Bundle.tN "UNASSIGNED_STACK" Bundle.steD).before args s = true) (lN : (Cond.laysStatic Bundle.tN "SUPPRESSED_SENTINEL" Bundle.listD).before args s = true) : ∀ w ∈ L, w.before args s = true := by
  intro w hw
  by_cases e1 : w = .isRef (.static Bundle.tN "UNASSIGNED_STACK" Bundle.steD)
  · rw [e1]; exact hU
  · by_cases e2 : w = .isRef (.static Bundle.tN "SUPPRESSED_SENTINEL" Bundle.listD)
    · rw [e2]; exact hN
    · by_cases e3 : w = .laysStatic Bundle.tN "UNASSIGNED_STACK" Bundle.steD
      · rw [e3]; exact lU
      · by_cases e4 : w = .laysStatic Bundle.tN "SUPPRESSED_SENTINEL" Bundle.listD
        · rw [e4]; exact lN
        · exact h1 w (List.mem_filter.mpr ⟨hw, by unfold vx_no; rw [decide_eq_true e1, decide_eq_true e2, decide_eq_true e3, decide_eq_true e4]; rfl⟩)
/-- where a static field lies, its class's statics cell in H -/
def vx_L (C n d : String) (A : Nat → Prop) (U : State) (H : Heap) : Prop := ∃ (c : ClassId) (k : Class) (i : Nat) (f : Field) (a : Nat) (cell : Cell), U.vm.findClass C = some c ∧ U.fieldFound? C n d = some (c, k, i, f) ∧ f.isStatic = true ∧ k.statics = some a ∧ H[a]? = some cell ∧ cell.vm.isStatics = true ∧ cell.cls = c ∧ f.slot < cell.slots.size ∧ k.staticTypes[f.slot]? = some f.type ∧ ¬ A a
theorem vx_L.moved {C n d : String} {A : Nat → Prop} {u U : State} {H : Heap} (hvm : u.vm.Alike U.vm) (h : vx_L C n d A u H) : vx_L C n d A U H := by
  obtain ⟨c, k, i, f, a, cell, h1, h2, h3, h4, h5, h6, h7, h8, h9, h10⟩ := h
  obtain ⟨k', hi', he⟩ := State.fieldFound?_setVm hvm h2
  exact ⟨c, k', i, f, a, cell, by rw [hvm.findClass]; exact h1, hi', h3, by rw [he]; exact h4, h5, h6, h7, h8, by rw [he]; exact h9, h10⟩
theorem vx_L.kept {C n d : String} {A : Nat → Prop} {U : State} {H H1 : Heap} (h : vx_L C n d A U H) (hq : ∀ a : Nat, a < H.size → ¬ A a → H1[a]? = H[a]?) : vx_L C n d A U H1 := by
  obtain ⟨c, k, i, f, a, cell, h1, h2, h3, h4, h5, h6, h7, h8, h9, h10⟩ := h
  exact ⟨c, k, i, f, a, cell, h1, h2, h3, h4, by rw [hq a (Array.getElem?_eq_some_iff.mp h5).1 h10]; exact h5, h6, h7, h8, h9, h10⟩
theorem vx_L.narrow {C n d : String} {A B : Nat → Prop} {U : State} {H : Heap} (h : vx_L C n d A U H) (hAB : ∀ q, B q → A q) : vx_L C n d B U H := by
  obtain ⟨c, k, i, f, a, cell, h1, h2, h3, h4, h5, h6, h7, h8, h9, h10⟩ := h
  exact ⟨c, k, i, f, a, cell, h1, h2, h3, h4, h5, h6, h7, h8, h9, fun z => h10 (hAB _ z)⟩
theorem vx_L.word {C n d : String} {A : Nat → Prop} {s : State} {args : Array Value} (h : vx_L C n d A s s.heap) : (Cond.laysStatic C n d).before args s = true := by
  obtain ⟨c, k, i, f, a, cell, h1, h2, h3, h4, h5, h6, h7, h8, h9, -⟩ := h
  show (Cond.laysStatic C n d).holds args s none s [] = true
  exact Cond.laysStatic_of h1 h2 h3 h4 h5 h6 h7 h8 h9
/-- .. and what it holds: null or some reference -/
def vx_Zq (C n d : String) (A : Nat → Prop) (U : State) (H : Heap) : Prop := va_Zq C n d A U H ∧ vx_L C n d A U H
theorem vx_Zq.moved {C n d : String} {A : Nat → Prop} {u U : State} {H : Heap} (hvm : u.vm.Alike U.vm) (h : vx_Zq C n d A u H) : vx_Zq C n d A U H := ⟨va_Zq.moved hvm h.1, vx_L.moved hvm h.2⟩
theorem vx_Zq.kept {C n d : String} {A : Nat → Prop} {U : State} {H H1 : Heap} (h : vx_Zq C n d A U H) (hq : ∀ a : Nat, a < H.size → ¬ A a → H1[a]? = H[a]?) : vx_Zq C n d A U H1 := ⟨va_Zq.kept h.1 hq, vx_L.kept h.2 hq⟩
theorem vx_Zq.narrow {C n d : String} {A B : Nat → Prop} {U : State} {H : Heap} (h : vx_Zq C n d A U H) (hAB : ∀ q, B q → A q) : vx_Zq C n d B U H := ⟨va_Zq.narrow h.1 hAB, vx_L.narrow h.2 hAB⟩
theorem vx_Zqof {args : Array Value} {s : State} {C n d : String} {A : Nat → Prop} (hl : (Cond.laysStatic C n d).before args s = true) (hini : (Cond.initialized C).before args s = true) (h : (Cond.isRef (.static C n d)).before args s = true) (hA : ∀ a : Nat, a < s.heap.size → ¬ A a) : vx_Zq C n d A s s.heap := by
  refine ⟨va_Zqof hl hini h hA, ?_⟩
  obtain ⟨c, k, i, f, a, cell, h1, h2, h3, h4, h5, h6, h7, h8, h9⟩ := Cond.laysStatic_spec hl
  exact ⟨c, k, i, f, a, cell, h1, h2, h3, h4, h5, h6, h7, h8, h9, hA a (Array.getElem?_eq_some_iff.mp h5).1⟩
theorem vx_isRef {C n d : String} {v : Value} {A : Nat → Prop} {s : State} {args : Array Value} (h : va_Z C n d v A s s.heap) (hv : v.isRef = true) : (Cond.isRef (.static C n d)).before args s = true := by
  obtain ⟨cf, kf, fi, f, a, cell, h1, h2, h3, h4, h5, h6, h7, -⟩ := h
  have he : (Term.static C n d).eval args s none [] s = some v := by
    simp [Term.eval, State.fieldNamed?, h1, h2, h4, h5, h6, h7]
  simp only [Cond.before, Cond.holds, Cond.value, he]
  cases v <;> simp_all [Value.isRef]
theorem vx_isRefq {C n d : String} {A : Nat → Prop} {s : State} {args : Array Value} (h : va_Zq C n d A s s.heap) : (Cond.isRef (.static C n d)).before args s = true := by
  rcases h with h | ⟨t, h⟩
  · exact vx_isRef h rfl
  · exact vx_isRef h rfl
/-- the same frame, seen from here: as if the method were called anew in this heap -/
theorem vx_rebase {T : State} (X : Stand p l e R s m args below meth c T locs cells slots) {R' : Room} (hf : R'.frames ≤ R.frames) (hl : R'.locals ≤ R.locals) (hc : cells + R'.cells ≤ R.cells) (hs : slots + R'.slots ≤ R.slots) :
    Stand p l e R' ((T.setVm s.vm).setFrames (.invoking m args :: below)) m args below meth c T [] 0 0 := by
  have htop : (T.setVm s.vm).topJava?.isSome := X.here.top
  have hF : ((T.setVm s.vm).setFrames (.invoking m args :: below)).frames = .invoking m args :: below := State.frames_setFrames _ (State.cur_lt_of_top htop)
  obtain ⟨g₀, hg0⟩ := Option.isSome_iff_exists.mp htop
  obtain ⟨r, hr⟩ := State.topJava?_eq_some.mp hg0
  have hl9 : e.platform.stackLimits (T.setVm s.vm).me = e.platform.stackLimits s.me := X.limits
  have hb9 : (T.setVm s.vm).me.stackBytes = s.me.stackBytes := X.bytes
  refine ⟨X.admits, X.cas, X.clock, hF, ?_, X.hears, X.method, X.code, X.here, X.tail, X.warmed, ?_, ?_, ?_⟩
  · have h := X.room
    have hU : ((T.setVm s.vm).setFrames (.invoking m args :: below)).localsInUse = s.localsInUse := by
      rw [State.localsInUse_invoking hF (meth := meth) (c := c) X.method X.code, State.localsInUse_invoking X.frames X.method X.code]
    simp only [State.hasRoom, Bool.and_eq_true, decide_eq_true_eq] at h ⊢
    obtain ⟨⟨⟨⟨h1, h2, h3, h4, h5, h6⟩, h7⟩, h8⟩, h9⟩ := h
    rw [X.frames, List.length_cons] at h2 h3
    have q1 := X.heapSize
    have q2 := X.used
    simp only [hF, hU, List.length_cons, State.stackLimits_setFrames, State.stackBytes_setFrames, hl9, hb9]
    refine ⟨⟨⟨⟨by omega, by omega, by omega, by omega, by omega, h6⟩, ?_⟩, ?_⟩, X.book⟩
    · show T.heap.size + R'.cells ≤ e.platform.maxCells
      omega
    · show T.slotsUsed + R'.slots ≤ e.platform.maxSlots
      omega
  · rw [State.stackLimits_setFrames]; rfl
  · rw [State.stackBytes_setFrames]; rfl
  · refine ⟨?_, Nat.le_refl _, Nat.le_refl _, ?_, ?_, fun a c9 h9 => ⟨c9, h9, rfl, rfl, fun _ _ => rfl⟩⟩
    · obtain ⟨t, ht, -⟩ := State.frames_cons hr
      show T.setVm s.vm = { ((T.setVm s.vm).setFrames (.invoking m args :: below)).setFrames (T.setVm s.vm).frames with heap := T.heap, slotsUsed := T.slotsUsed }
      rw [State.setFrames_setFrames, State.setFrames_self ht]
      rfl
    · show T.slotsUsed = T.slotsUsed + ((T.heap.toList.drop T.heap.size).map (·.slots.size)).sum
      rw [List.drop_eq_nil_of_le (Nat.le_of_eq Array.length_toList)]
      rfl
    · show ((T.heap.toList.drop T.heap.size).map (·.slots.size)).sum ≤ 0
      rw [List.drop_eq_nil_of_le (Nat.le_of_eq Array.length_toList)]
      exact Nat.le_refl _
/-- 'throw new E()': new; dup; invokespecial; athrow -/
theorem vx_throw0 {cc : ByteArray} {pc : Nat} (hexec : p.tables.exec = Jvm.exec) (hb : c.code = cc) (hl : l.stackTraces = false) {own cls : String} {names : List String} {ik ic mc ms : Nat} {A : Nat → Prop}
    (hown : s.vm.findClass own = some m.cls) (hcls : Bundle.fit cls = true) (hnames : ∀ n ∈ names, Bundle.fit n = true)
    (hk : (Cond.classLink own ik cls).before args s = true) (hini : (Cond.initialized cls).before args s = true) (hat : ∀ w ∈ vx_at0 own ic cls names, w.before args s = true)
    (hgood : ∀ w ∈ Cond.classLink own ik cls :: Cond.initialized cls :: vx_at0 own ic cls names, vx_ot w = true)
    (hU : vx_Zq Bundle.tN "UNASSIGNED_STACK" Bundle.steD A s s.heap) (hN : vx_Zq Bundle.tN "SUPPRESSED_SENTINEL" Bundle.listD A s s.heap) (hS : va_S A s.heap H locs) (hsize : ls.size = c.maxLocals)
    (d0 : decode cc pc = .ok (.new ik, 3)) (d3 : decode cc (pc + 3) = .ok (.dup, 1)) (d4 : decode cc (pc + 4) = .ok (.invokespecial ic, 3)) (d7 : decode cc (pc + 7) = .ok (.athrow, 1))
    (hout : ∀ x ∈ c.exceptionTable.toList, covers x (pc + 7) = false)
    (hRframes : names.length + 3 < R.frames) (hRlocals : (rest.map fun v => v.category).sum + (13 * (names.length + 1) + 42) ≤ R.locals) (hRcells : cells + 1 ≤ R.cells) (hRslots : slots + 6 ≤ R.slots) (hlocks : meth.locks = false)
    (hx : ∀ t : State, s.vm.Alike t.vm → H.size ≤ t.heap.size → (∀ q : Nat, q < H.size → t.heap[q]? = H[q]?) → XC cls s t)
    (hf : ∀ z ∈ locs, free z.base) (hc : cells + 1 ≤ mc) (hs : slots + 6 ≤ ms) :
    W p l e R s m args below meth c H locs cells slots (vx_MQ below Qc XC args s mc ms free) (F0 m pc ls rest) := by
  intro T hT X
  have htr : e.platform.stackTraces = false := (show e.platform.stackTraces = l.stackTraces by rw [X.admits.platform]).trans hl
  have Y := vx_rebase X (R' := { frames := R.frames, locals := R.locals, cells := 1, slots := 6 }) (Nat.le_refl _) (Nat.le_refl _) hRcells hRslots
  obtain ⟨s', hA⟩ : ∃ z, z = (T.setVm s.vm).setFrames (.invoking m args :: below) := ⟨_, rfl⟩
  rw [← hA] at Y
  have hvm : s'.vm = s.vm := by rw [hA]; rfl
  have hhp : s'.heap = H := by rw [hA]; exact hT
  have hW0 : s.WarmedH s'.vm := by rw [hvm]; exact State.WarmedH.refl s
  have hat' : ∀ w ∈ vx_at0 own ic cls names, w.before args s' = true := fun w hw => vx_ot_at hW0 hvm.symm (hgood w (List.mem_cons_of_mem _ (List.mem_cons_of_mem _ hw))) (hat w hw)
  have hk' : (Cond.classLink own ik cls).before args s' = true := vx_ot_at hW0 hvm.symm (hgood _ List.mem_cons_self) hk
  have hini' : (Cond.initialized cls).before args s' = true := vx_ot_at hW0 hvm.symm (hgood _ (List.mem_cons_of_mem _ List.mem_cons_self)) hini
  have hU' : vx_Zq Bundle.tN "UNASSIGNED_STACK" Bundle.steD A s' s'.heap := by rw [hhp]; exact vx_Zq.moved hW0.alike (hU.kept hS.2.1)
  have hN' : vx_Zq Bundle.tN "SUPPRESSED_SENTINEL" Bundle.listD A s' s'.heap := by rw [hhp]; exact vx_Zq.moved hW0.alike (hN.kept hS.2.1)
  have h : ∀ w ∈ Bundle.ownAtoms0 own ic cls names, w.before args s' = true := vx_own hat' (vx_isRefq hU'.1) (vx_isRefq hN'.1) hU'.2.word hN'.2.word
  have hown' : s'.vm.findClass own = some m.cls := by rw [hvm]; exact hown
  have hins : (Cond.instantiable cls 6).before args s' = true := h _ (by simp [Bundle.ownAtoms0])
  obtain ⟨vm₁, cX, kX, hfX, hkX, -, -, X₁, st1⟩ := Y.newCold hexec (own := own) (C := cls) (index := ik) (n := 6) hown' hk' hins hini'
    (g := F0 m pc ls rest) rfl (by rw [hb]; exact d0) (Nat.le_refl _) (Nat.le_refl _)
  generalize hT1 : (T.setVm vm₁).pushCell { cls := cX, slots := kX.instanceTypes.map defaultValue, vm := .none } = T1 at X₁ st1
  have hcat : (Value.ref T.heap.size).category = 1 := rfl
  have hcellA : T1.heap[T.heap.size]? = some (freshCell cX kX) := by rw [← hT1]; exact State.heap_pushCell_size _ _
  have d3' : decode c.code (pc + 3) = .ok (.dup, 1) := by rw [hb]; exact d3
  obtain ⟨U, hsteps, hrun, hend, hW, hsame, ce, hce, hO⟩ := X₁.ctorThrow0 hexec htr (own := own) (cls := cls) (names := names) (ic := ic) hown' hcls hnames h (fun x hx => nomatch hx) hfX hkX hcellA (by rw [hhp, hT]; exact Nat.le_refl _)
    (g := { method := m, pc := pc + 4, locals := ls, stack := .ref T.heap.size :: .ref T.heap.size :: rest, locked := none }) rfl hsize rfl rfl (rest := rest) rfl
    (by rw [hb]; exact d4) (by rw [hb]; exact d7) hout hRframes (by simp only [List.map_cons, List.sum_cons, hcat]; omega) hlocks
  obtain ⟨f1, f2⟩ := vx_frame hsame
  rw [hhp] at f1 f2
  have hWs : s.WarmedH U.vm := State.WarmedH.trans hW0 hW
  have hcl : s.vm.findClass cls = some ce.cls := by
    have h9 := hO.cls
    rw [hvm] at h9
    exact h9
  have hall : s.sameButNew ({ U with vm := s.vm } : State) locs mc ms := by
    subst hA
    obtain ⟨e1, e2⟩ := hsame
    rw [State.setFrames_setFrames] at e1
    have h2 : (T.setVm s.vm).sameButNew ({ U with vm := s.vm } : State) [] (0 + 1) (0 + 6) := ⟨e1, e2⟩
    have h3 := X.same.trans h2
    rw [List.append_nil] at h3
    exact h3.mono hc hs
  refine ⟨U, ?_, .threw T.heap.size, hrun, hend, Or.inr ⟨T.heap.size, rfl, cls, ce, locs, hx U hWs.alike f1 (fun q hq => f2 q hq (fun z hz => nomatch hz)), hce, hO.vm, hcl, hWs, hall, hf⟩⟩
  refine st1 _ ?_
  show Steps p.tables e below (T1.setTop { method := m, pc := pc + 3, locals := ls, stack := .ref T.heap.size :: rest, locked := none }) _
  jvm_step X₁.here [X₁.here.top, hexec, d3', Value.category]
  exact hsteps
/-- 'throw new E("text")': new; dup; ldc; invokespecial; athrow -/
theorem vx_throwS {cc : ByteArray} {pc : Nat} (hexec : p.tables.exec = Jvm.exec) (hb : c.code = cc) (hl : l.stackTraces = false) {own cls text : String} {names : List String} {ik is ic mc ms sa : Nat} {A : Nat → Prop}
    (hown : s.vm.findClass own = some m.cls) (hcls : Bundle.fit cls = true) (hnames : ∀ n ∈ names, Bundle.fit n = true)
    (hk : (Cond.classLink own ik cls).before args s = true) (hini : (Cond.initialized cls).before args s = true) (hstr : vk_R own is text sa s) (hat : ∀ w ∈ vx_atS own ic cls names, w.before args s = true)
    (hgood : ∀ w ∈ Cond.classLink own ik cls :: Cond.initialized cls :: vx_atS own ic cls names, vx_ot w = true)
    (hU : vx_Zq Bundle.tN "UNASSIGNED_STACK" Bundle.steD A s s.heap) (hN : vx_Zq Bundle.tN "SUPPRESSED_SENTINEL" Bundle.listD A s s.heap) (hS : va_S A s.heap H locs) (hsize : ls.size = c.maxLocals)
    (d0 : decode cc pc = .ok (.new ik, 3)) (d3 : decode cc (pc + 3) = .ok (.dup, 1)) (d4 : decode cc (pc + 4) = .ok (.ldc is, 2)) (d6 : decode cc (pc + 6) = .ok (.invokespecial ic, 3)) (d9 : decode cc (pc + 9) = .ok (.athrow, 1))
    (hout : ∀ x ∈ c.exceptionTable.toList, covers x (pc + 9) = false)
    (hRframes : names.length + 3 < R.frames) (hRlocals : (rest.map fun v => v.category).sum + (13 * (names.length + 1) + 43) ≤ R.locals) (hRcells : cells + 1 ≤ R.cells) (hRslots : slots + 6 ≤ R.slots) (hlocks : meth.locks = false)
    (hx : ∀ t : State, s.vm.Alike t.vm → H.size ≤ t.heap.size → (∀ q : Nat, q < H.size → t.heap[q]? = H[q]?) → XC cls s t)
    (hf : ∀ z ∈ locs, free z.base) (hc : cells + 1 ≤ mc) (hs : slots + 6 ≤ ms) :
    W p l e R s m args below meth c H locs cells slots (vx_MQ below Qc XC args s mc ms free) (F0 m pc ls rest) := by
  intro T hT X
  have htr : e.platform.stackTraces = false := (show e.platform.stackTraces = l.stackTraces by rw [X.admits.platform]).trans hl
  have Y := vx_rebase X (R' := { frames := R.frames, locals := R.locals, cells := 1, slots := 6 }) (Nat.le_refl _) (Nat.le_refl _) hRcells hRslots
  obtain ⟨s', hA⟩ : ∃ z, z = (T.setVm s.vm).setFrames (.invoking m args :: below) := ⟨_, rfl⟩
  rw [← hA] at Y
  have hvm : s'.vm = s.vm := by rw [hA]; rfl
  have hhp : s'.heap = H := by rw [hA]; exact hT
  have hW0 : s.WarmedH s'.vm := by rw [hvm]; exact State.WarmedH.refl s
  have hat' : ∀ w ∈ vx_atS own ic cls names, w.before args s' = true := fun w hw => vx_ot_at hW0 hvm.symm (hgood w (List.mem_cons_of_mem _ (List.mem_cons_of_mem _ hw))) (hat w hw)
  have hk' : (Cond.classLink own ik cls).before args s' = true := vx_ot_at hW0 hvm.symm (hgood _ List.mem_cons_self) hk
  have hini' : (Cond.initialized cls).before args s' = true := vx_ot_at hW0 hvm.symm (hgood _ (List.mem_cons_of_mem _ List.mem_cons_self)) hini
  have hU' : vx_Zq Bundle.tN "UNASSIGNED_STACK" Bundle.steD A s' s'.heap := by rw [hhp]; exact vx_Zq.moved hW0.alike (hU.kept hS.2.1)
  have hN' : vx_Zq Bundle.tN "SUPPRESSED_SENTINEL" Bundle.listD A s' s'.heap := by rw [hhp]; exact vx_Zq.moved hW0.alike (hN.kept hS.2.1)
  have h : ∀ w ∈ Bundle.ownAtoms own ic cls names, w.before args s' = true := vx_own hat' (vx_isRefq hU'.1) (vx_isRefq hN'.1) hU'.2.word hN'.2.word
  have hown' : s'.vm.findClass own = some m.cls := by rw [hvm]; exact hown
  have hins : (Cond.instantiable cls 6).before args s' = true := h _ (by simp [Bundle.ownAtoms])
  obtain ⟨vm₁, cX, kX, hfX, hkX, -, -, X₁, st1⟩ := Y.newCold hexec (own := own) (C := cls) (index := ik) (n := 6) hown' hk' hins hini'
    (g := F0 m pc ls rest) rfl (by rw [hb]; exact d0) (Nat.le_refl _) (Nat.le_refl _)
  generalize hT1 : (T.setVm vm₁).pushCell { cls := cX, slots := kX.instanceTypes.map defaultValue, vm := .none } = T1 at X₁ st1
  have hcat : (Value.ref T.heap.size).category = 1 := rfl
  have hcellA : T1.heap[T.heap.size]? = some (freshCell cX kX) := by rw [← hT1]; exact State.heap_pushCell_size _ _
  have d3' : decode c.code (pc + 3) = .ok (.dup, 1) := by rw [hb]; exact d3
  have d4' : decode c.code (pc + 4) = .ok (.ldc is, 2) := by rw [hb]; exact d4
  have hstr' : vk_R own is text sa s' := vk_R.warm hW0 hstr
  obtain ⟨U, hsteps, hrun, hend, hW, hsame, ce, hce, hO⟩ := X₁.ctorThrowS hexec htr (own := own) (cls := cls) (names := names) (ic := ic) hown' hcls hnames h (fun x hx => nomatch hx) hfX hkX hcellA (by rw [hhp, hT]; exact Nat.le_refl _) (msg := .ref sa) rfl
    (g := { method := m, pc := pc + 6, locals := ls, stack := .ref sa :: .ref T.heap.size :: .ref T.heap.size :: rest, locked := none }) rfl hsize rfl rfl (rest := rest) rfl
    (by rw [hb]; exact d6) (by rw [hb]; exact d9) hout hRframes (by simp only [List.map_cons, List.sum_cons, hcat]; omega) hlocks
  obtain ⟨f1, f2⟩ := vx_frame hsame
  rw [hhp] at f1 f2
  have hWs : s.WarmedH U.vm := State.WarmedH.trans hW0 hW
  have hcl : s.vm.findClass cls = some ce.cls := by
    have h9 := hO.cls
    rw [hvm] at h9
    exact h9
  have hall : s.sameButNew ({ U with vm := s.vm } : State) locs mc ms := by
    subst hA
    obtain ⟨e1, e2⟩ := hsame
    rw [State.setFrames_setFrames] at e1
    have h2 : (T.setVm s.vm).sameButNew ({ U with vm := s.vm } : State) [] (0 + 1) (0 + 6) := ⟨e1, e2⟩
    have h3 := X.same.trans h2
    rw [List.append_nil] at h3
    exact h3.mono hc hs
  refine ⟨U, ?_, .threw T.heap.size, hrun, hend, Or.inr ⟨T.heap.size, rfl, cls, ce, locs, hx U hWs.alike f1 (fun q hq => f2 q hq (fun z hz => nomatch hz)), hce, hO.vm, hcl, hWs, hall, hf⟩⟩
  refine st1 _ ?_
  show Steps p.tables e below (T1.setTop { method := m, pc := pc + 3, locals := ls, stack := .ref T.heap.size :: rest, locked := none }) _
  jvm_step X₁.here [X₁.here.top, hexec, d3', Value.category]
  exact X₁.ldcString hexec (own := own) (text := text) (index := is) (a := sa) hown' hstr'.1 hstr'.2
    (g := { method := m, pc := pc + 4, locals := ls, stack := .ref T.heap.size :: .ref T.heap.size :: rest, locked := none }) rfl d4' _ hsteps
/-- 'throw new E("text")', the text by a wide index -/
theorem vx_throwSW {cc : ByteArray} {pc : Nat} (hexec : p.tables.exec = Jvm.exec) (hb : c.code = cc) (hl : l.stackTraces = false) {own cls text : String} {names : List String} {ik is ic mc ms sa : Nat} {A : Nat → Prop}
    (hown : s.vm.findClass own = some m.cls) (hcls : Bundle.fit cls = true) (hnames : ∀ n ∈ names, Bundle.fit n = true)
    (hk : (Cond.classLink own ik cls).before args s = true) (hini : (Cond.initialized cls).before args s = true) (hstr : vk_R own is text sa s) (hat : ∀ w ∈ vx_atS own ic cls names, w.before args s = true)
    (hgood : ∀ w ∈ Cond.classLink own ik cls :: Cond.initialized cls :: vx_atS own ic cls names, vx_ot w = true)
    (hU : vx_Zq Bundle.tN "UNASSIGNED_STACK" Bundle.steD A s s.heap) (hN : vx_Zq Bundle.tN "SUPPRESSED_SENTINEL" Bundle.listD A s s.heap) (hS : va_S A s.heap H locs) (hsize : ls.size = c.maxLocals)
    (d0 : decode cc pc = .ok (.new ik, 3)) (d3 : decode cc (pc + 3) = .ok (.dup, 1)) (d4 : decode cc (pc + 4) = .ok (.ldc_w is, 3)) (d7 : decode cc (pc + 7) = .ok (.invokespecial ic, 3)) (d10 : decode cc (pc + 10) = .ok (.athrow, 1))
    (hout : ∀ x ∈ c.exceptionTable.toList, covers x (pc + 10) = false)
    (hRframes : names.length + 3 < R.frames) (hRlocals : (rest.map fun v => v.category).sum + (13 * (names.length + 1) + 43) ≤ R.locals) (hRcells : cells + 1 ≤ R.cells) (hRslots : slots + 6 ≤ R.slots) (hlocks : meth.locks = false)
    (hx : ∀ t : State, s.vm.Alike t.vm → H.size ≤ t.heap.size → (∀ q : Nat, q < H.size → t.heap[q]? = H[q]?) → XC cls s t)
    (hf : ∀ z ∈ locs, free z.base) (hc : cells + 1 ≤ mc) (hs : slots + 6 ≤ ms) :
    W p l e R s m args below meth c H locs cells slots (vx_MQ below Qc XC args s mc ms free) (F0 m pc ls rest) := by
  intro T hT X
  have htr : e.platform.stackTraces = false := (show e.platform.stackTraces = l.stackTraces by rw [X.admits.platform]).trans hl
  have Y := vx_rebase X (R' := { frames := R.frames, locals := R.locals, cells := 1, slots := 6 }) (Nat.le_refl _) (Nat.le_refl _) hRcells hRslots
  obtain ⟨s', hA⟩ : ∃ z, z = (T.setVm s.vm).setFrames (.invoking m args :: below) := ⟨_, rfl⟩
  rw [← hA] at Y
  have hvm : s'.vm = s.vm := by rw [hA]; rfl
  have hhp : s'.heap = H := by rw [hA]; exact hT
  have hW0 : s.WarmedH s'.vm := by rw [hvm]; exact State.WarmedH.refl s
  have hat' : ∀ w ∈ vx_atS own ic cls names, w.before args s' = true := fun w hw => vx_ot_at hW0 hvm.symm (hgood w (List.mem_cons_of_mem _ (List.mem_cons_of_mem _ hw))) (hat w hw)
  have hk' : (Cond.classLink own ik cls).before args s' = true := vx_ot_at hW0 hvm.symm (hgood _ List.mem_cons_self) hk
  have hini' : (Cond.initialized cls).before args s' = true := vx_ot_at hW0 hvm.symm (hgood _ (List.mem_cons_of_mem _ List.mem_cons_self)) hini
  have hU' : vx_Zq Bundle.tN "UNASSIGNED_STACK" Bundle.steD A s' s'.heap := by rw [hhp]; exact vx_Zq.moved hW0.alike (hU.kept hS.2.1)
  have hN' : vx_Zq Bundle.tN "SUPPRESSED_SENTINEL" Bundle.listD A s' s'.heap := by rw [hhp]; exact vx_Zq.moved hW0.alike (hN.kept hS.2.1)
  have h : ∀ w ∈ Bundle.ownAtoms own ic cls names, w.before args s' = true := vx_own hat' (vx_isRefq hU'.1) (vx_isRefq hN'.1) hU'.2.word hN'.2.word
  have hown' : s'.vm.findClass own = some m.cls := by rw [hvm]; exact hown
  have hins : (Cond.instantiable cls 6).before args s' = true := h _ (by simp [Bundle.ownAtoms])
  obtain ⟨vm₁, cX, kX, hfX, hkX, -, -, X₁, st1⟩ := Y.newCold hexec (own := own) (C := cls) (index := ik) (n := 6) hown' hk' hins hini'
    (g := F0 m pc ls rest) rfl (by rw [hb]; exact d0) (Nat.le_refl _) (Nat.le_refl _)
  generalize hT1 : (T.setVm vm₁).pushCell { cls := cX, slots := kX.instanceTypes.map defaultValue, vm := .none } = T1 at X₁ st1
  have hcat : (Value.ref T.heap.size).category = 1 := rfl
  have hcellA : T1.heap[T.heap.size]? = some (freshCell cX kX) := by rw [← hT1]; exact State.heap_pushCell_size _ _
  have d3' : decode c.code (pc + 3) = .ok (.dup, 1) := by rw [hb]; exact d3
  have d4' : decode c.code (pc + 4) = .ok (.ldc_w is, 3) := by rw [hb]; exact d4
  have hstr' : vk_R own is text sa s' := vk_R.warm hW0 hstr
  obtain ⟨U, hsteps, hrun, hend, hW, hsame, ce, hce, hO⟩ := X₁.ctorThrowS hexec htr (own := own) (cls := cls) (names := names) (ic := ic) hown' hcls hnames h (fun x hx => nomatch hx) hfX hkX hcellA (by rw [hhp, hT]; exact Nat.le_refl _) (msg := .ref sa) rfl
    (g := { method := m, pc := pc + 7, locals := ls, stack := .ref sa :: .ref T.heap.size :: .ref T.heap.size :: rest, locked := none }) rfl hsize rfl rfl (rest := rest) rfl
    (by rw [hb]; exact d7) (by rw [hb]; exact d10) hout hRframes (by simp only [List.map_cons, List.sum_cons, hcat]; omega) hlocks
  obtain ⟨f1, f2⟩ := vx_frame hsame
  rw [hhp] at f1 f2
  have hWs : s.WarmedH U.vm := State.WarmedH.trans hW0 hW
  have hcl : s.vm.findClass cls = some ce.cls := by
    have h9 := hO.cls
    rw [hvm] at h9
    exact h9
  have hall : s.sameButNew ({ U with vm := s.vm } : State) locs mc ms := by
    subst hA
    obtain ⟨e1, e2⟩ := hsame
    rw [State.setFrames_setFrames] at e1
    have h2 : (T.setVm s.vm).sameButNew ({ U with vm := s.vm } : State) [] (0 + 1) (0 + 6) := ⟨e1, e2⟩
    have h3 := X.same.trans h2
    rw [List.append_nil] at h3
    exact h3.mono hc hs
  refine ⟨U, ?_, .threw T.heap.size, hrun, hend, Or.inr ⟨T.heap.size, rfl, cls, ce, locs, hx U hWs.alike f1 (fun q hq => f2 q hq (fun z hz => nomatch hz)), hce, hO.vm, hcl, hWs, hall, hf⟩⟩
  refine st1 _ ?_
  show Steps p.tables e below (T1.setTop { method := m, pc := pc + 3, locals := ls, stack := .ref T.heap.size :: rest, locked := none }) _
  jvm_step X₁.here [X₁.here.top, hexec, d3', Value.category]
  exact X₁.ldcStringW hexec (own := own) (text := text) (index := is) (a := sa) hown' hstr'.1 hstr'.2
    (g := { method := m, pc := pc + 4, locals := ls, stack := .ref T.heap.size :: .ref T.heap.size :: rest, locked := none }) rfl d4' _ hsteps
end Ends
section Bodies
variable {l : Launch}
theorem vx_ofW {y : MethodName} {ws ws' : List Cond} {rm : Room} {Pc : Array Value → State → Prop} {Qc : Array Value → State → Outcome → State → Prop} {XC : String → State → State → Prop} {mc ms : Nat} {free : Addr → Prop} {cc : ByteArray} {maxL : Nat} {ret : Option FieldType}
    (hy : plainName y.cls = true) (hw : ws = Cond.code y cc maxL ret :: ws')
    (body : ∀ p e s m args below meth c s₁, BodyLoose p l y (headSpec ws rm) cc maxL ret e s m args below meth c s₁ → c.maxLocals = maxL → (∀ x ∈ c.exceptionTable.toList, False) → Pc args s →
      W p l e (headSpec ws rm).room s m args below meth c s.heap [] 0 0 (vx_MQ below Qc XC args s mc ms free) (entryFrame m args maxL)) : vx_Met l y ws rm Pc Qc XC mc ms free := by
  refine MetFree.of_bodyS (code := cc) (maxLocals := maxL) (ret := ret) hy ?_ ?_
  · intro args s m h hn
    obtain ⟨meth, c, h1, h2, h3, h4, h5, h6, -, -⟩ := Cond.code_spec hn (atoms_spec (ws := ws) h _ (by rw [hw]; exact List.mem_cons_self))
    exact ⟨meth, c, h1, h2, h3, h4, h5, h6⟩
  · intro p e s m args below meth c s₁ B hml hP _
    have hh0 : s₁.heap = s.heap := by rw [B.state]; rfl
    have ht : ∀ x ∈ c.exceptionTable.toList, False := by
      obtain ⟨meth9, c9, h1, h2, -, -, -, -, h7, -⟩ := Cond.code_spec B.named (atoms_spec (ws := ws) B.pre _ (by rw [hw]; exact List.mem_cons_self))
      cases Option.some.inj (h1.symm.trans B.method)
      cases Option.some.inj (h2.symm.trans (Stand.of_body B).code)
      intro x hx
      rw [Array.isEmpty_iff.mp h7] at hx
      cases hx
    obtain ⟨t, a1, o, b1, b2, b3⟩ := body p e s m args below meth c s₁ B hml ht hP s₁ hh0 (Stand.of_body B)
    exact ⟨t, o, a1, b1, b2, b3⟩
/-- the table of a body with handlers -/
theorem vx_table {p : Program} {x y : MethodName} {S : Spec} {cc bytes : ByteArray} {maxL maxL' : Nat} {ret ret' : Option FieldType} {e : Env} {s s₁ : State} {m : MethodId} {args : Array Value} {below : List Frame} {meth : Method} {c : Code} {hh : List (Nat × Nat × Nat × Nat)}
    (B : BodyLoose p l y S cc maxL ret e s m args below meth c s₁) (h : (Cond.codeWith y bytes maxL' ret' hh).before args s = true) : c.exceptionTable.toList = tableOf hh := by
  obtain ⟨m9, meth9, c9, hn9, h1, h2, -, -, h6, -⟩ := Cond.codeWith_spec h
  cases Option.some.inj (hn9.symm.trans B.named)
  cases Option.some.inj (h1.symm.trans B.method)
  cases Option.some.inj (h2.symm.trans (Stand.of_body B).code)
  rw [← h6, table_eq]
end Bodies
end VXA
/-! ===== END ===== -/
/-! ===== BEGIN a static call of a method with an exception table ===== -/
section VXS
variable {p : Program} {l : Launch} {e : Env} {R : Room} {s : State} {m : MethodId} {args : Array Value} {below : List Frame} {meth : Method} {c : Code} {T : State} {H : Heap} {locs : List Loc} {cells slots : Nat}
abbrev vx_CSW (R : Room) (s : State) (args : Array Value) (own : String) (index : Nat) (y : MethodName) (bytes : ByteArray) (maxL : Nat) (ret : Option FieldType) (hh : List (Nat × Nat × Nat × Nat)) (ws : List Cond) (rm : Room) (mc ms n : Nat) : Prop :=
  (rm.cells = mc ∧ rm.slots = ms ∧ rm.frames + 1 ≤ R.frames ∧ 8 + (maxL + 11) + rm.locals ≤ R.locals ∧ (∀ w ∈ ws, ∀ (a' : Array Value) (U : State), s.WarmedH U.vm → w.before a' U = true) ∧ Cond.codeWith y bytes maxL ret hh ∈ ws) ∧
  (Cond.codeWith y bytes maxL ret hh).before args s = true ∧ (Cond.initialized y.cls).before args s = true ∧ (y.cls ≠ "java/lang/invoke/MethodHandle" ∧ y.cls ≠ "java/lang/invoke/VarHandle") ∧
  (∀ sig, parseMethodDescriptor y.desc = some sig → n = sig.parameters.length) ∧ (Cond.methodLink own index y).before args s = true ∧ (Cond.static y).before args s = true
theorem vx_cwSW {own : String} {index maxL mc ms : Nat} {y : MethodName} {bytes : ByteArray} {ret : Option FieldType} {hh : List (Nat × Nat × Nat × Nat)} {Ts ws ws' : List Cond} {rm : Room} (n : Nat) (ht : ∀ w ∈ Ts, w.before args s = true) (hT : GoodIn Ts (va_wsS own index y ws)) (hw : ws = Cond.codeWith y bytes maxL ret hh :: ws') (hrc : rm.cells = mc) (hrs : rm.slots = ms)
    (hd : y.cls ≠ "java/lang/invoke/MethodHandle" ∧ y.cls ≠ "java/lang/invoke/VarHandle" ∧ (parseMethodDescriptor y.desc).map (fun d => d.parameters.length) = some n) (hR : rm.frames + 1 ≤ R.frames ∧ 8 + (maxL + 11) + rm.locals ≤ R.locals) :
    vx_CSW R s args own index y bytes maxL ret hh ws rm mc ms n := by
  have ok : ∀ w ∈ va_wsS own index y ws, w.before args s = true := fun w h => ht w (hT w h).1
  have hG : GoodIn Ts ws := fun w h => hT w (by unfold va_wsS; exact List.mem_append_right _ h)
  have hc : Cond.codeWith y bytes maxL ret hh ∈ ws := by rw [hw]; exact List.mem_cons_self
  refine ⟨⟨hrc, hrs, hR.1, hR.2, pay_in ht hG, hc⟩, ht _ (hG _ hc).1, ok _ (by simp [va_wsS]), ⟨hd.1, hd.2.1⟩, fun sig h => ?_, ok _ (by simp [va_wsS]), ok _ (by simp [va_wsS])⟩
  have h2 := hd.2.2
  rw [h] at h2
  exact (Option.some.inj h2).symm
theorem vx_callSW (X : Stand p l e R s m args below meth c T locs cells slots) (hexec : p.tables.exec = Jvm.exec) {own : String} {index : Nat} {y : MethodName} {bytes : ByteArray} {maxL : Nat} {ret : Option FieldType} {hh : List (Nat × Nat × Nat × Nat)}
    (hown : s.vm.findClass own = some m.cls) (hlink : (Cond.methodLink own index y).before args s = true) (hstat : (Cond.static y).before args s = true) (hinit : (Cond.initialized y.cls).before args s = true)
    (hcode : (Cond.codeWith y bytes maxL ret hh).before args s = true) (hy : y.cls ≠ "java/lang/invoke/MethodHandle" ∧ y.cls ≠ "java/lang/invoke/VarHandle")
    {W9 : Nat} {Pre : Pt → Array Value → Prop} {Post : Pt → Array Value → Option Value → Pt → Prop} (hK : Back l R p e below s args y 3 W9 Pre Post)
    {g : JFrame} (hg : g.method = m) (hsize : g.locals.size = c.maxLocals) {argsL rest : List Value} (hlen : ∀ sig, parseMethodDescriptor y.desc = some sig → argsL.length = sig.parameters.length)
    (hstack : g.stack = argsL.reverse ++ rest) (hW : 2 * g.monitorRoom + (rest.map fun v => v.category).sum ≤ W9) (hdg : decode c.code g.pc = .ok (.invokestatic index, 3))
    (hpre : ∀ vm₁, s.WarmedH vm₁ → Pre ⟨T.setVm vm₁, locs, cells, slots⟩ argsL.toArray) :
    ∃ (v : Option Value) (vm₁ : Vm) (B : Pt), s.WarmedH vm₁ ∧ Stand p l e R s m args below meth c B.U B.locs B.cells B.slots ∧ Post ⟨T.setVm vm₁, locs, cells, slots⟩ argsL.toArray v B ∧
      ∀ target, Steps p.tables e below (B.U.setTop { g with pc := g.pc + 3, stack := v.toList ++ rest }) target → Steps p.tables e below (T.setTop g) target := by
  obtain ⟨mk, methM, cM, hnamed, hmethM, -, -, -, -, -, -, hsigM⟩ := Cond.codeWith_spec hcode
  have hstatic : methM.isStatic = true := Cond.static_spec hnamed hmethM hstat
  obtain ⟨kP, hkP, -⟩ := className_of_methodNamed hnamed
  have hinitP : kP.init = .initialized := Cond.initialized_spec (findClass_of_methodNamed hnamed) hkP hinit
  obtain ⟨vm₁, X₁, hstep₁⟩ := X.invokestatic hexec hown hlink hnamed hmethM hstatic hkP hinitP hy (g := g) hg (argsL := argsL) (rest := rest) (hlen _ hsigM) hstack hdg
  obtain ⟨v, B, X', hpost, hsteps⟩ := hK m meth c ⟨T.setVm vm₁, locs, cells, slots⟩ { g with stack := rest } (.invokestatic index) mk argsL.toArray X₁ hg hsize hdg hW (X₁.named hnamed) (hpre vm₁ X₁.warmed)
  exact ⟨v, vm₁, B, X₁.warmed, X', hpost, fun target h => hstep₁ _ fun acts => by rw [doInvoke_state]; exact hsteps.trans h⟩
theorem vx_runSW {y : MethodName} {bytes cc : ByteArray} {maxL nL mc ms n index : Nat} {ret : Option FieldType} {hh : List (Nat × Nat × Nat × Nat)} {ws : List Cond} {rm : Room} {Pc : Array Value → State → Prop} {Qc : Array Value → State → Outcome → State → Prop} {free : Addr → Prop} {Ts : List Cond} {own : String} {As rest : List Value} {g : JFrame}
    (S : CallFix p m c cc nL s args Ts own) (hM : Met l y ws rm Pc Qc mc ms free) (cw : vx_CSW R s args own index y bytes maxL ret hh ws rm mc ms n) (hp : PreS s H Pc As)
    (hg : g.method = m) (hn : As.length = n) (hsize : g.locals.size = nL) (hstack : g.stack = As.reverse ++ rest) (hW : 2 * g.monitorRoom + (rest.map fun v => v.category).sum ≤ 8) (hdg : decode cc g.pc = .ok (.invokestatic index, 3)) (hf : cells + mc ≤ R.cells ∧ slots + ms ≤ R.slots) :
    va_Run p l e R s m args below meth c H locs cells slots mc ms g rest (Qc As.toArray) (free) := by
  obtain ⟨⟨hrc, hrs, hfr, hlo, hws, hcw⟩, hcode, hini, hy, hlen, hl, hstt⟩ := cw
  have hK : Back l R p e below s args y 3 8 (PreOf R mc ms Pc) (PostOf Qc mc ms free) := va_backW (hh := hh) (bytes := bytes) (maxL := maxL) (ret := ret) hM hp.1 hrc hrs hfr hlo hws hcw (fun a' U hW => word_at hW (Or.inl (by first | rfl | simp [Cond.onTables, Cond.keeps, Cond.steady])) hini)
  obtain ⟨hx, hb, hml, ho, -⟩ := S
  intro T hT X
  obtain ⟨v, vm₁, ⟨U', l2, c2, s2⟩, hW₁, X', ⟨g', mk, t, L, e1, e2, hq, h1, hL, h2, h3⟩, st⟩ := vx_callSW X hx (hh := hh) (bytes := bytes) (maxL := maxL) (ret := ret) ho hl hstt hini hcode hy hK hg (hsize.trans hml.symm) (argsL := As) (rest := rest) (fun sig h => hn.trans (hlen sig h)) hstack hW (by rw [hb]; exact hdg)
    (fun vm₁ hW₁ => ⟨hf.1, hf.2, hp.2 (T.setVm vm₁) hT hW₁⟩)
  dsimp only [Pt.U, Pt.locs, Pt.cells, Pt.slots] at X' e1 e2 h1 h2 h3 st
  subst h1; subst h2; subst h3
  exact ⟨v, (T.setVm vm₁).calling g' mk As.toArray, t, U', L, hT, X', hL, e1, e2, hq, st⟩
/-- not caught here, past rows that name other classes: it goes on to the caller -/
theorem vx_outP {p : Program} {l : Launch} {e : Env} {R : Room} {s : State} {m : MethodId} {args : Array Value} {below : List Frame} {meth : Method} {c : Code} {H : Heap} {locs : List Loc} {cells slots : Nat} {free : Addr → Prop} {ls : Array Slot} {rest : List Value} {Qc : Array Value → State → Outcome → State → Prop} {XC : String → State → State → Prop}
    {pc : Nat} {own E : String} {ce : Cell} {q : Addr} {mc ms : Nat} (hown : s.vm.findClass own = some m.cls) (hlocks : meth.locks = false)
    (hpass : ∀ z ∈ c.exceptionTable.toList, covers z pc = false ∨ (z.catchType ≠ 0 ∧ ∃ nm : String, (Cond.classLink own z.catchType nm).before args s = true ∧ va_Nc E nm s)) (hcell : H[q]? = some ce) (hv : ce.vm = .none) (hcl : s.vm.findClass E = some ce.cls)
    (hx : ∀ t : State, t.heap = H → s.vm.Alike t.vm → XC E s t) (hf : ∀ z ∈ locs, free z.base) (hc : cells ≤ mc) (hs : slots ≤ ms) :
    vx_W p l e R s m args below meth c H locs cells slots (vx_MQ below Qc XC args s mc ms free) (F0 m pc ls rest) q := by
  intro T hT X
  have hpl : e.platform.magicAccessors = ({} : Platform).magicAccessors := by rw [X.admits.platform]
  obtain ⟨vm', hW', X', st⟩ := X.outThrough hlocks q (g := F0 m pc ls rest) rfl rfl rfl (cell := ce) (by rw [hT]; exact hcell) (by rw [hv]; rfl)
    (by obtain ⟨k9, h9, -⟩ := Vm.findClass_spec hcl; exact ⟨k9, h9⟩) (fun z hz => by
      rcases hpass z hz with h | ⟨hz0, nm, hl1, hn1⟩
      · exact Or.inl h
      · obtain ⟨c6, hc6, hcl6⟩ := Cond.classLink_spec hown hl1 e.platform hpl
        obtain ⟨a8, b8, h1, h2, h3⟩ := hn1
        cases Option.some.inj (h1.symm.trans hcl)
        cases Option.some.inj (h2.symm.trans hc6)
        exact Or.inr ⟨hz0, _, hcl6, h3⟩)
  obtain ⟨g₀, hfr⟩ := X'.frames_eq
  have hcell9 : ((T.setVm vm').setFrames (.throwing q :: below)).heap[q]? = some ce := by
    show T.heap[q]? = some ce
    rw [hT]; exact hcell
  have hend : Ended ((T.setVm vm').setFrames (.throwing q :: below)) below (.threw q) := State.frames_setFrames _ (State.cur_lt_of_frames hfr)
  refine ⟨(T.setVm vm').setFrames (.throwing q :: below), ?_, .threw q, X'.here.running, hend, Or.inr ⟨q, rfl, E, ce, locs, hx _ hT (X'.ends _).1.alike, hcell9, hv, hcl, (X'.ends _).1, (X'.ends _).2.mono hc hs, hf⟩⟩
  rw [X.pushThrowing_eq]
  exact st
/-- a thing of a world lies in the heap -/
theorem vx_lt {D : va_G} {cl : List vw_C} {ws : va_W} {H1 : Heap} (h : va_P D cl ws H1) {k : Nat} {q : Nat × va_E} (hk : ws[k]? = some q) : q.1 < H1.size := (h k q hk).lt
end VXS
/-! ===== END ===== -/
/-! ===== BEGIN methods with a table of their own: called by a name, returning or throwing ===== -/
section VXH
/-! vx_backW, vx_callVX, vx_callSX, vx_callVW, vx_runVW, vx_runVX, vx_runSX, vx_ofWH follow the same proofs as their sisters above (Free/Laws.lean, Shelf42/LK1.lean); vx_outP calls Shelf42/NT130.lean (outThrough). -/
section
variable {l : Launch} {R : Room} {p : Program} {e : Env} {below : List Frame} {s : State} {sargs : Array Value} {y : MethodName} {len W9 : Nat}
theorem vx_backW {ws : List Cond} {rm : Room} {Pc : Array Value → State → Prop} {Qc : Array Value → State → Outcome → State → Prop} {XC : String → State → State → Prop} {mc ms : Nat} {free : Addr → Prop} {bytes : ByteArray} {maxL : Nat} {ret : Option FieldType} {hh : List (Nat × Nat × Nat × Nat)}
    (hM : vx_Met l y ws rm Pc Qc XC mc ms free) (hblind : FrameBlind Pc) (hrc : rm.cells = mc) (hrs : rm.slots = ms)
    (hframes : rm.frames + 1 ≤ R.frames) (hlocals : W9 + (maxL + 11) + rm.locals ≤ R.locals)
    (hws : ∀ w ∈ ws, ∀ a' U, s.WarmedH U.vm → w.before a' U = true) (hcode : Cond.codeWith y bytes maxL ret hh ∈ ws) (hinit : ∀ a' U, s.WarmedH U.vm → (Cond.initialized y.cls).before a' U = true) :
    vx_Back l R p e below s sargs y len W9 (PreOf R mc ms Pc) (PostOf Qc mc ms free) (vx_Post XC mc ms free) := by
  intro m meth c A g ig mk a X hg hsize hdg hW hn hp
  have h1 : (headSpec ws rm).pre.before a A.U = true := atoms_intro fun w hw => hws w hw _ _ X.warmed
  have h2 : (Cond.codeWith y bytes maxL ret hh).before a A.U = true := hws _ hcode _ _ X.warmed
  have h3 : (Cond.initialized y.cls).before a A.U = true := hinit _ _ X.warmed
  have h4 : A.cells + (headSpec ws rm).room.cells ≤ R.cells := by rw [show (headSpec ws rm).room.cells = mc from hrc]; exact hp.1
  have h5 : A.slots + (headSpec ws rm).room.slots ≤ R.slots := by rw [show (headSpec ws rm).room.slots = ms from hrs]; exact hp.2.1
  have hPc : Pc a (A.U.calling g mk a) := hblind _ _ _ _ hp.2.2
  obtain ⟨U, Ls, c0, s0⟩ := A
  dsimp only [Pt.U, Pt.locs, Pt.cells, Pt.slots] at h1 h2 h3 h4 h5 X hn hPc ⊢
  obtain ⟨m9, methY, cY, hn9, hmY, hcY, -, hlY, -⟩ := Cond.codeWith_spec h2
  cases Option.some.inj (hn9.symm.trans hn)
  obtain ⟨kY, hkY, -⟩ := className_of_methodNamed hn
  have hinitY : kY.init = .initialized := Cond.initialized_spec (findClass_of_methodNamed hn) hkY h3
  have h : At U g.method c below := by rw [hg]; exact X.here
  have hlocals9 : W9 + (maxL + 11) + (headSpec ws rm).room.locals ≤ R.locals := hlocals
  have happ : (headSpec ws rm).appliesLoose y e.platform (U.calling g mk a) = true :=
    Spec.appliesLoose_calling (g := g) h hdg hn hkY hinitY
      (X.room_calling (g := g) (R' := (headSpec ws rm).room) hsize hmY hcY hframes (by rw [hlY]; omega) h4 h5) h1
  obtain ⟨mid, hmid⟩ := h.above
  have hfr : (U.setTop g).frames = (.java g :: mid) ++ below := by rw [State.frames_setTop' g h.top, hmid]; rfl
  obtain ⟨o, s₂, hsteps, -, hend, hq⟩ := Steps.callFree hM p X.admits X.cas X.clock (acts := []) hfr happ hPc trivial
  have hq' : vx_Q Qc XC mc ms free a (U.calling g mk a) o s₂ := hq
  rw [State.frames_setTop' g h.top] at hend
  obtain ⟨g₀, hg0⟩ := Option.isSome_iff_exists.mp h.top
  obtain ⟨r, hr⟩ := State.topJava?_eq_some.mp hg0
  have hr' : (({ U with heap := s₂.heap, slotsUsed := s₂.slotsUsed } : State).setVm s₂.vm).frames = .java g₀ :: r := hr
  rcases hq' with ⟨hqc, L, hfe, hL⟩ | ⟨q, rfl, E, ce, L, hx, hce, hcv, hcl, hW₂, hsm, hL⟩
  · obtain ⟨⟨v, rfl⟩, hW₂, e2, q2, q3, q4, q5, q6⟩ := id hfe
    have e3 : s₂ = ({ (U.calling g mk a).setFrames s₂.frames with heap := s₂.heap, slotsUsed := s₂.slotsUsed } : State).setVm s₂.vm := by
      have : s₂ = ({ s₂ with vm := (U.calling g mk a).vm } : State).setVm s₂.vm := rfl
      rw [e2] at this
      exact this
    obtain ⟨c₂, i₂, len₂, hc₂, hd₂, hf₂⟩ := hend
    have hW' : U.WarmedH s₂.vm := hW₂
    have hcc : c₂ = c := by
      have h1 : s₂.code? g.method = U.code? g.method := by
        rw [State.code?_eq, State.code?_eq, hW'.alike.method?]
      exact Option.some.inj (hc₂.symm.trans (h1.trans h.code))
    subst hcc
    have hlen : len₂ = len := by rw [hdg] at hd₂; cases hd₂; rfl
    subst hlen
    have hs₂ : s₂ = (({ U with heap := s₂.heap, slotsUsed := s₂.slotsUsed } : State).setVm s₂.vm).setTop { g with pc := g.pc + len₂, stack := v.toList ++ g.stack } := by
      refine e3.trans ?_
      rw [hf₂, State.calling_eq h.top, State.setFrames_setFrames, State.setTop_of_frames _ hr', hr]
      rfl
    have hsame : U.sameButNew ({ U with heap := s₂.heap, slotsUsed := s₂.slotsUsed } : State) L mc ms := by
      refine ⟨?_, q2, q3, q4, q5, q6⟩
      obtain ⟨t, ht, -⟩ := State.frames_cons hr
      show ({ U with heap := s₂.heap, slotsUsed := s₂.slotsUsed } : State) = { U.setFrames U.frames with heap := s₂.heap, slotsUsed := s₂.slotsUsed }
      rw [State.setFrames_self ht]
    subst hg
    refine Or.inl ⟨v, ⟨(({ U with heap := s₂.heap, slotsUsed := s₂.slotsUsed } : State).setVm s₂.vm), Ls ++ L, c0 + mc, s0 + ms⟩,
      ⟨X.admits, X.cas, X.clock, X.frames, X.room, X.hears, X.method, X.code, (X.here.setHeapUsed s₂.heap s₂.slotsUsed).setVm hW'.alike, X.tail, State.WarmedH.trans X.warmed hW', X.limits, X.bytes, X.same.trans (hsame.setVm s.vm)⟩,
      ⟨g, mk, s₂, L, rfl, rfl, hqc, rfl, hL, rfl, rfl⟩, ?_⟩
    show Steps p.tables e below _ ((({ U with heap := s₂.heap, slotsUsed := s₂.slotsUsed } : State).setVm s₂.vm).setTop { g with pc := g.pc + len₂, stack := v.toList ++ g.stack })
    rw [← hs₂]
    exact hsteps
  · obtain ⟨e2, q2, q3, q4, q5, q6⟩ := id hsm
    have e3 : s₂ = ({ (U.calling g mk a).setFrames s₂.frames with heap := s₂.heap, slotsUsed := s₂.slotsUsed } : State).setVm s₂.vm := by
      have : s₂ = ({ s₂ with vm := (U.calling g mk a).vm } : State).setVm s₂.vm := rfl
      rw [e2] at this
      exact this
    have hf₂ : s₂.frames = .throwing q :: .java g :: U.frames.tail := hend
    have hW' : U.WarmedH s₂.vm := hW₂
    have hs₂ : s₂ = ((({ U with heap := s₂.heap, slotsUsed := s₂.slotsUsed } : State).setVm s₂.vm).setTop g).pushFrame (.throwing q) := by
      refine e3.trans ?_
      rw [hf₂, State.calling_eq h.top, State.setFrames_setFrames, State.pushFrame, State.frames_setTop _ hr', State.setTop_of_frames _ hr', State.setFrames_setFrames, hr]
      rfl
    have hsame : U.sameButNew ({ U with heap := s₂.heap, slotsUsed := s₂.slotsUsed } : State) L mc ms := by
      refine ⟨?_, q2, q3, q4, q5, q6⟩
      obtain ⟨t, ht, -⟩ := State.frames_cons hr
      show ({ U with heap := s₂.heap, slotsUsed := s₂.slotsUsed } : State) = { U.setFrames U.frames with heap := s₂.heap, slotsUsed := s₂.slotsUsed }
      rw [State.setFrames_self ht]
    subst hg
    refine Or.inr ⟨q, ⟨(({ U with heap := s₂.heap, slotsUsed := s₂.slotsUsed } : State).setVm s₂.vm), Ls ++ L, c0 + mc, s0 + ms⟩,
      ⟨X.admits, X.cas, X.clock, X.frames, X.room, X.hears, X.method, X.code, (X.here.setHeapUsed s₂.heap s₂.slotsUsed).setVm hW'.alike, X.tail, State.WarmedH.trans X.warmed hW', X.limits, X.bytes, X.same.trans (hsame.setVm s.vm)⟩,
      ⟨g, mk, s₂, L, E, ce, rfl, rfl, hx, hce, hcv, hcl, rfl, hL, rfl, rfl⟩, ?_⟩
    show Steps p.tables e below _ (((({ U with heap := s₂.heap, slotsUsed := s₂.slotsUsed } : State).setVm s₂.vm).setTop g).pushFrame (.throwing q))
    rw [← hs₂]
    exact hsteps
end
variable {p : Program} {l : Launch} {e : Env} {R : Room} {s : State} {m : MethodId} {args : Array Value} {below : List Frame} {meth : Method} {c : Code} {T : State} {H : Heap} {locs : List Loc} {cells slots : Nat}
theorem vx_callVX (X : Stand p l e R s m args below meth c T locs cells slots) (hexec : p.tables.exec = Jvm.exec) {own C : String} {index : Nat} {y : MethodName} {bytes : ByteArray} {maxL : Nat} {ret : Option FieldType} {hh : List (Nat × Nat × Nat × Nat)}
    (hown : s.vm.findClass own = some m.cls) (hlink : (Cond.methodLink own index y).before args s = true) (hinst : (Cond.instanceMethod y).before args s = true) (hsel : (Cond.selects C y y).before args s = true)
    (hcode : (Cond.codeWith y bytes maxL ret hh).before args s = true) (hy : y.cls ≠ "java/lang/invoke/MethodHandle" ∧ y.cls ≠ "java/lang/invoke/VarHandle")
    {W9 : Nat} {Pre : Pt → Array Value → Prop} {Post : Pt → Array Value → Option Value → Pt → Prop} {PostX : Pt → Array Value → Addr → Pt → Prop} (hK : vx_Back l R p e below s args y 3 W9 Pre Post PostX)
    {b : Addr} {cellB : Cell} (hcell : T.heap[b]? = some cellB) (hobj : cellB.vm.isStatics = false) (hcls : s.vm.findClass C = some cellB.cls)
    {g : JFrame} (hg : g.method = m) (hsize : g.locals.size = c.maxLocals) {argsL rest : List Value} (hlen : ∀ sig, parseMethodDescriptor y.desc = some sig → argsL.length = sig.parameters.length)
    (hstack : g.stack = argsL.reverse ++ .ref b :: rest) (hW : 2 * g.monitorRoom + (rest.map fun v => v.category).sum ≤ W9) (hdg : decode c.code g.pc = .ok (.invokevirtual index, 3))
    (hpre : ∀ vm₁, s.WarmedH vm₁ → Pre ⟨T.setVm vm₁, locs, cells, slots⟩ (Value.ref b :: argsL).toArray) :
    (∃ (v : Option Value) (vm₁ : Vm) (B : Pt), s.WarmedH vm₁ ∧ Stand p l e R s m args below meth c B.U B.locs B.cells B.slots ∧ Post ⟨T.setVm vm₁, locs, cells, slots⟩ (Value.ref b :: argsL).toArray v B ∧
      ∀ target, Steps p.tables e below (B.U.setTop { g with pc := g.pc + 3, stack := v.toList ++ rest }) target → Steps p.tables e below (T.setTop g) target) ∨
    (∃ (q : Addr) (vm₁ : Vm) (B : Pt), s.WarmedH vm₁ ∧ Stand p l e R s m args below meth c B.U B.locs B.cells B.slots ∧ PostX ⟨T.setVm vm₁, locs, cells, slots⟩ (Value.ref b :: argsL).toArray q B ∧
      Steps p.tables e below (T.setTop g) ((B.U.setTop { g with stack := rest }).pushFrame (.throwing q))) := by
  obtain ⟨mk, methM, hnamed, hmethM, hstM, habM⟩ := Cond.instanceMethod_spec hinst
  obtain ⟨m8, methM', cM, hn8, hmethM', -, -, -, -, -, -, hsigM⟩ := Cond.codeWith_spec hcode
  cases Option.some.inj (hn8.symm.trans hnamed)
  cases hmethM.symm.trans hmethM'
  obtain ⟨c2, r2, m2, q1, q2, q3, q4, kP, hkP, hkPi⟩ := Cond.selects_spec hsel
  cases hcls.symm.trans q1
  cases (State.methodFound?_of_named hnamed hy).symm.trans q2
  cases hnamed.symm.trans q3
  have hselP : selectMethod e.platform s.vm cellB.cls mk = .method mk := by rw [Launch.admits_selectMethod X.admits]; exact q4
  obtain ⟨vm₁, X₁, hstep₁⟩ := X.invokevirtual hexec hown hlink hnamed hmethM hstM hkP hkPi hy (a := b) (cell := cellB) hcell
    (fun z h => by rw [h] at hobj; cases hobj) hselP hmethM habM hkP hkPi (g := g) hg (argsL := argsL) (rest := rest) (hlen _ hsigM) hstack hdg
  rcases hK m meth c ⟨T.setVm vm₁, locs, cells, slots⟩ { g with stack := rest } (.invokevirtual index) mk (Value.ref b :: argsL).toArray X₁ hg hsize hdg hW (X₁.named hnamed) (hpre vm₁ X₁.warmed) with ⟨v, B, X', hpost, hsteps⟩ | ⟨q, B, X', hpost, hsteps⟩
  · exact Or.inl ⟨v, vm₁, B, X₁.warmed, X', hpost, fun target h => hstep₁ _ fun acts => by rw [doInvoke_state]; exact hsteps.trans h⟩
  · exact Or.inr ⟨q, vm₁, B, X₁.warmed, X', hpost, hstep₁ _ fun acts => by rw [doInvoke_state]; exact hsteps⟩
theorem vx_callSX (X : Stand p l e R s m args below meth c T locs cells slots) (hexec : p.tables.exec = Jvm.exec) {own : String} {index : Nat} {y : MethodName} {bytes : ByteArray} {maxL : Nat} {ret : Option FieldType} {hh : List (Nat × Nat × Nat × Nat)}
    (hown : s.vm.findClass own = some m.cls) (hlink : (Cond.methodLink own index y).before args s = true) (hstat : (Cond.static y).before args s = true) (hinit : (Cond.initialized y.cls).before args s = true)
    (hcode : (Cond.codeWith y bytes maxL ret hh).before args s = true) (hy : y.cls ≠ "java/lang/invoke/MethodHandle" ∧ y.cls ≠ "java/lang/invoke/VarHandle")
    {W9 : Nat} {Pre : Pt → Array Value → Prop} {Post : Pt → Array Value → Option Value → Pt → Prop} {PostX : Pt → Array Value → Addr → Pt → Prop} (hK : vx_Back l R p e below s args y 3 W9 Pre Post PostX)
    {g : JFrame} (hg : g.method = m) (hsize : g.locals.size = c.maxLocals) {argsL rest : List Value} (hlen : ∀ sig, parseMethodDescriptor y.desc = some sig → argsL.length = sig.parameters.length)
    (hstack : g.stack = argsL.reverse ++ rest) (hW : 2 * g.monitorRoom + (rest.map fun v => v.category).sum ≤ W9) (hdg : decode c.code g.pc = .ok (.invokestatic index, 3))
    (hpre : ∀ vm₁, s.WarmedH vm₁ → Pre ⟨T.setVm vm₁, locs, cells, slots⟩ argsL.toArray) :
    (∃ (v : Option Value) (vm₁ : Vm) (B : Pt), s.WarmedH vm₁ ∧ Stand p l e R s m args below meth c B.U B.locs B.cells B.slots ∧ Post ⟨T.setVm vm₁, locs, cells, slots⟩ argsL.toArray v B ∧
      ∀ target, Steps p.tables e below (B.U.setTop { g with pc := g.pc + 3, stack := v.toList ++ rest }) target → Steps p.tables e below (T.setTop g) target) ∨
    (∃ (q : Addr) (vm₁ : Vm) (B : Pt), s.WarmedH vm₁ ∧ Stand p l e R s m args below meth c B.U B.locs B.cells B.slots ∧ PostX ⟨T.setVm vm₁, locs, cells, slots⟩ argsL.toArray q B ∧
      Steps p.tables e below (T.setTop g) ((B.U.setTop { g with stack := rest }).pushFrame (.throwing q))) := by
  obtain ⟨mk, methM, cM, hnamed, hmethM, -, -, -, -, -, -, hsigM⟩ := Cond.codeWith_spec hcode
  have hstatic : methM.isStatic = true := Cond.static_spec hnamed hmethM hstat
  obtain ⟨kP, hkP, -⟩ := className_of_methodNamed hnamed
  have hinitP : kP.init = .initialized := Cond.initialized_spec (findClass_of_methodNamed hnamed) hkP hinit
  obtain ⟨vm₁, X₁, hstep₁⟩ := X.invokestatic hexec hown hlink hnamed hmethM hstatic hkP hinitP hy (g := g) hg (argsL := argsL) (rest := rest) (hlen _ hsigM) hstack hdg
  rcases hK m meth c ⟨T.setVm vm₁, locs, cells, slots⟩ { g with stack := rest } (.invokestatic index) mk argsL.toArray X₁ hg hsize hdg hW (X₁.named hnamed) (hpre vm₁ X₁.warmed) with ⟨v, B, X', hpost, hsteps⟩ | ⟨q, B, X', hpost, hsteps⟩
  · exact Or.inl ⟨v, vm₁, B, X₁.warmed, X', hpost, fun target h => hstep₁ _ fun acts => by rw [doInvoke_state]; exact hsteps.trans h⟩
  · exact Or.inr ⟨q, vm₁, B, X₁.warmed, X', hpost, hstep₁ _ fun acts => by rw [doInvoke_state]; exact hsteps⟩
theorem vx_callVW (X : Stand p l e R s m args below meth c T locs cells slots) (hexec : p.tables.exec = Jvm.exec) {own C : String} {index : Nat} {y : MethodName} {bytes : ByteArray} {maxL : Nat} {ret : Option FieldType} {hh : List (Nat × Nat × Nat × Nat)}
    (hown : s.vm.findClass own = some m.cls) (hlink : (Cond.methodLink own index y).before args s = true) (hinst : (Cond.instanceMethod y).before args s = true) (hsel : (Cond.selects C y y).before args s = true)
    (hcode : (Cond.codeWith y bytes maxL ret hh).before args s = true) (hy : y.cls ≠ "java/lang/invoke/MethodHandle" ∧ y.cls ≠ "java/lang/invoke/VarHandle")
    {W9 : Nat} {Pre : Pt → Array Value → Prop} {Post : Pt → Array Value → Option Value → Pt → Prop} (hK : Back l R p e below s args y 3 W9 Pre Post)
    {b : Addr} {cellB : Cell} (hcell : T.heap[b]? = some cellB) (hobj : cellB.vm.isStatics = false) (hcls : s.vm.findClass C = some cellB.cls)
    {g : JFrame} (hg : g.method = m) (hsize : g.locals.size = c.maxLocals) {argsL rest : List Value} (hlen : ∀ sig, parseMethodDescriptor y.desc = some sig → argsL.length = sig.parameters.length)
    (hstack : g.stack = argsL.reverse ++ .ref b :: rest) (hW : 2 * g.monitorRoom + (rest.map fun v => v.category).sum ≤ W9) (hdg : decode c.code g.pc = .ok (.invokevirtual index, 3))
    (hpre : ∀ vm₁, s.WarmedH vm₁ → Pre ⟨T.setVm vm₁, locs, cells, slots⟩ (Value.ref b :: argsL).toArray) :
    ∃ (v : Option Value) (vm₁ : Vm) (B : Pt), s.WarmedH vm₁ ∧ Stand p l e R s m args below meth c B.U B.locs B.cells B.slots ∧ Post ⟨T.setVm vm₁, locs, cells, slots⟩ (Value.ref b :: argsL).toArray v B ∧
      ∀ target, Steps p.tables e below (B.U.setTop { g with pc := g.pc + 3, stack := v.toList ++ rest }) target → Steps p.tables e below (T.setTop g) target := by
  obtain ⟨mk, methM, hnamed, hmethM, hstM, habM⟩ := Cond.instanceMethod_spec hinst
  obtain ⟨m8, methM', cM, hn8, hmethM', -, -, -, -, -, -, hsigM⟩ := Cond.codeWith_spec hcode
  cases Option.some.inj (hn8.symm.trans hnamed)
  cases hmethM.symm.trans hmethM'
  obtain ⟨c2, r2, m2, q1, q2, q3, q4, kP, hkP, hkPi⟩ := Cond.selects_spec hsel
  cases hcls.symm.trans q1
  cases (State.methodFound?_of_named hnamed hy).symm.trans q2
  cases hnamed.symm.trans q3
  have hselP : selectMethod e.platform s.vm cellB.cls mk = .method mk := by rw [Launch.admits_selectMethod X.admits]; exact q4
  obtain ⟨vm₁, X₁, hstep₁⟩ := X.invokevirtual hexec hown hlink hnamed hmethM hstM hkP hkPi hy (a := b) (cell := cellB) hcell
    (fun z h => by rw [h] at hobj; cases hobj) hselP hmethM habM hkP hkPi (g := g) hg (argsL := argsL) (rest := rest) (hlen _ hsigM) hstack hdg
  obtain ⟨v, B, X', hpost, hsteps⟩ := hK m meth c ⟨T.setVm vm₁, locs, cells, slots⟩ { g with stack := rest } (.invokevirtual index) mk (Value.ref b :: argsL).toArray X₁ hg hsize hdg hW (X₁.named hnamed) (hpre vm₁ X₁.warmed)
  exact ⟨v, vm₁, B, X₁.warmed, X', hpost, fun target h => hstep₁ _ fun acts => by rw [doInvoke_state]; exact hsteps.trans h⟩
abbrev vx_CVW (R : Room) (s : State) (args : Array Value) (own C : String) (index : Nat) (y : MethodName) (bytes : ByteArray) (maxL : Nat) (ret : Option FieldType) (hh : List (Nat × Nat × Nat × Nat)) (ws : List Cond) (rm : Room) (mc ms n : Nat) : Prop :=
  (rm.cells = mc ∧ rm.slots = ms ∧ rm.frames + 1 ≤ R.frames ∧ 8 + (maxL + 11) + rm.locals ≤ R.locals ∧ (∀ w ∈ ws, ∀ (a' : Array Value) (U : State), s.WarmedH U.vm → w.before a' U = true) ∧ Cond.codeWith y bytes maxL ret hh ∈ ws) ∧
  (Cond.codeWith y bytes maxL ret hh).before args s = true ∧ (Cond.initialized y.cls).before args s = true ∧ (y.cls ≠ "java/lang/invoke/MethodHandle" ∧ y.cls ≠ "java/lang/invoke/VarHandle") ∧
  (∀ sig, parseMethodDescriptor y.desc = some sig → n = sig.parameters.length) ∧ (Cond.methodLink own index y).before args s = true ∧ (Cond.instanceMethod y).before args s = true ∧ (Cond.selects C y y).before args s = true
theorem vx_cwVW {own C : String} {index maxL mc ms : Nat} {y : MethodName} {bytes : ByteArray} {ret : Option FieldType} {hh : List (Nat × Nat × Nat × Nat)} {Ts ws ws' : List Cond} {rm : Room} (n : Nat) (ht : ∀ w ∈ Ts, w.before args s = true) (hT : GoodIn Ts (wsV own index C y ws)) (hw : ws = Cond.codeWith y bytes maxL ret hh :: ws') (hrc : rm.cells = mc) (hrs : rm.slots = ms)
    (hd : y.cls = C ∧ y.cls ≠ "java/lang/invoke/MethodHandle" ∧ y.cls ≠ "java/lang/invoke/VarHandle" ∧ (parseMethodDescriptor y.desc).map (fun d => d.parameters.length) = some n) (hR : rm.frames + 1 ≤ R.frames ∧ 8 + (maxL + 11) + rm.locals ≤ R.locals) :
    vx_CVW R s args own C index y bytes maxL ret hh ws rm mc ms n := by
  obtain ⟨hC, hd⟩ := hd
  subst hC
  have ok : ∀ w ∈ wsV own index y.cls y ws, w.before args s = true := fun w h => ht w (hT w h).1
  have hG : GoodIn Ts ws := fun w h => hT w (by unfold wsV; exact List.mem_append_right _ h)
  have hc : Cond.codeWith y bytes maxL ret hh ∈ ws := by rw [hw]; exact List.mem_cons_self
  refine ⟨⟨hrc, hrs, hR.1, hR.2, pay_in ht hG, hc⟩, ht _ (hG _ hc).1, ok _ (by simp [wsV]), ⟨hd.1, hd.2.1⟩, fun sig h => ?_, ok _ (by simp [wsV]), ok _ (by simp [wsV]), ok _ (by simp [wsV])⟩
  have h2 := hd.2.2
  rw [h] at h2
  exact (Option.some.inj h2).symm
theorem vx_runVW {y : MethodName} {bytes cc : ByteArray} {maxL nL mc ms n index : Nat} {ret : Option FieldType} {hh : List (Nat × Nat × Nat × Nat)} {ws : List Cond} {rm : Room} {Pc : Array Value → State → Prop} {Qc : Array Value → State → Outcome → State → Prop} {free : Addr → Prop} {Ts : List Cond} {own C : String} {b : Addr} {As rest : List Value} {g : JFrame}
    (S : CallFix p m c cc nL s args Ts own) (hM : Met l y ws rm Pc Qc mc ms free) (cw : vx_CVW R s args own C index y bytes maxL ret hh ws rm mc ms n) (hp : PreV s H C b Pc As)
    (hg : g.method = m) (hn : As.length = n) (hsize : g.locals.size = nL) (hstack : g.stack = As.reverse ++ .ref b :: rest) (hW : 2 * g.monitorRoom + (rest.map fun v => v.category).sum ≤ 8) (hdg : decode cc g.pc = .ok (.invokevirtual index, 3)) (hf : cells + mc ≤ R.cells ∧ slots + ms ≤ R.slots) :
    va_Run p l e R s m args below meth c H locs cells slots mc ms g rest (Qc (Value.ref b :: As).toArray) free := by
  obtain ⟨⟨hrc, hrs, hfr, hlo, hws, hcw⟩, hcode, hini, hy, hlen, hl, hin, hse⟩ := cw
  have hK : Back l R p e below s args y 3 8 (PreOf R mc ms Pc) (PostOf Qc mc ms free) := va_backW (hh := hh) (bytes := bytes) (maxL := maxL) (ret := ret) hM hp.1 hrc hrs hfr hlo hws hcw (fun a' U hW => word_at hW (Or.inl (by first | rfl | simp [Cond.onTables, Cond.keeps, Cond.steady])) hini)
  obtain ⟨hx, hb, hml, ho, -⟩ := S
  obtain ⟨-, ⟨cellB, hcB, hoB, hclB⟩, hPc⟩ := hp
  intro T hT X
  obtain ⟨v, vm₁, ⟨U', l2, c2, s2⟩, hW₁, X', ⟨g', mk, t, L, e1, e2, hq, h1, hL, h2, h3⟩, st⟩ := vx_callVW X hx (C := C) (hh := hh) (bytes := bytes) (maxL := maxL) (ret := ret) ho hl hin hse hcode hy hK (by rw [hT]; exact hcB) hoB hclB hg (hsize.trans hml.symm) (argsL := As) (rest := rest) (fun sig h => hn.trans (hlen sig h)) hstack hW (by rw [hb]; exact hdg)
    (fun vm₁ hW₁ => ⟨hf.1, hf.2, hPc (T.setVm vm₁) hT hW₁⟩)
  dsimp only [Pt.U, Pt.locs, Pt.cells, Pt.slots] at X' e1 e2 h1 h2 h3 st
  subst h1; subst h2; subst h3
  exact ⟨v, (T.setVm vm₁).calling g' mk (Value.ref b :: As).toArray, t, U', L, hT, X', hL, e1, e2, hq, st⟩
section
variable {y : MethodName} {bytes cc : ByteArray} {maxL nL mc ms n index : Nat} {ret : Option FieldType} {ws : List Cond} {rm : Room} {Pc : Array Value → State → Prop} {Qc : Array Value → State → Outcome → State → Prop} {XC : String → State → State → Prop} {free : Addr → Prop} {Ts : List Cond} {own C : String} {b : Addr} {As rest : List Value} {g : JFrame}
theorem vx_runVX {hh : List (Nat × Nat × Nat × Nat)} (S : CallFix p m c cc nL s args Ts own) (hM : vx_Met l y ws rm Pc Qc XC mc ms free) (cw : vx_CVW R s args own C index y bytes maxL ret hh ws rm mc ms n) (hp : PreV s H C b Pc As)
    (hg : g.method = m) (hn : As.length = n) (hsize : g.locals.size = nL) (hstack : g.stack = As.reverse ++ .ref b :: rest) (hW : 2 * g.monitorRoom + (rest.map fun v => v.category).sum ≤ 8) (hdg : decode cc g.pc = .ok (.invokevirtual index, 3)) (hf : cells + mc ≤ R.cells ∧ slots + ms ≤ R.slots) :
    vx_Run p l e R s m args below meth c H locs cells slots mc ms g rest (Qc (Value.ref b :: As).toArray) XC free := by
  obtain ⟨⟨hrc, hrs, hfr, hlo, hws, hcw⟩, hcode, hini, hy, hlen, hl, hin, hse⟩ := cw
  have hK : vx_Back l R p e below s args y 3 8 (PreOf R mc ms Pc) (PostOf Qc mc ms free) (vx_Post XC mc ms free) := vx_backW (hh := hh) (bytes := bytes) (maxL := maxL) (ret := ret) hM hp.1 hrc hrs hfr hlo hws hcw (fun a' U hW => word_at hW (Or.inl (by first | rfl | simp [Cond.onTables, Cond.keeps, Cond.steady])) hini)
  obtain ⟨hx, hb, hml, ho, -⟩ := S
  obtain ⟨-, ⟨cellB, hcB, hoB, hclB⟩, hPc⟩ := hp
  intro T hT X
  rcases vx_callVX X hx (C := C) (hh := hh) (bytes := bytes) (maxL := maxL) (ret := ret) ho hl hin hse hcode hy hK (by rw [hT]; exact hcB) hoB hclB hg (hsize.trans hml.symm) (argsL := As) (rest := rest) (fun sig h => hn.trans (hlen sig h)) hstack hW (by rw [hb]; exact hdg)
    (fun vm₁ hW₁ => ⟨hf.1, hf.2, hPc (T.setVm vm₁) hT hW₁⟩) with ⟨v, vm₁, ⟨U', l2, c2, s2⟩, hW₁, X', ⟨g', mk, t, L, e1, e2, hq, h1, hL, h2, h3⟩, st⟩ | ⟨q, vm₁, ⟨U', l2, c2, s2⟩, hW₁, X', ⟨g', mk, t, L, E, ce, e1, e2, hq, hce, hcv, hcl, h1, hL, h2, h3⟩, st⟩
  · dsimp only [Pt.U, Pt.locs, Pt.cells, Pt.slots] at X' e1 e2 h1 h2 h3 st
    subst h1; subst h2; subst h3
    exact Or.inl ⟨v, (T.setVm vm₁).calling g' mk (Value.ref b :: As).toArray, t, U', L, hT, X', hL, e1, e2, hq, st⟩
  · dsimp only [Pt.U, Pt.locs, Pt.cells, Pt.slots] at X' e1 e2 h1 h2 h3 st hcl
    subst h1; subst h2; subst h3
    exact Or.inr ⟨q, (T.setVm vm₁).calling g' mk (Value.ref b :: As).toArray, t, U', L, E, ce, hT, X', hL, e1, e2, hq, hce, hcv, vx_cls hW₁ hcl, st⟩
theorem vx_runSX {hh : List (Nat × Nat × Nat × Nat)} (S : CallFix p m c cc nL s args Ts own) (hM : vx_Met l y ws rm Pc Qc XC mc ms free) (cw : vx_CSW R s args own index y bytes maxL ret hh ws rm mc ms n) (hp : PreS s H Pc As)
    (hg : g.method = m) (hn : As.length = n) (hsize : g.locals.size = nL) (hstack : g.stack = As.reverse ++ rest) (hW : 2 * g.monitorRoom + (rest.map fun v => v.category).sum ≤ 8) (hdg : decode cc g.pc = .ok (.invokestatic index, 3)) (hf : cells + mc ≤ R.cells ∧ slots + ms ≤ R.slots) :
    vx_Run p l e R s m args below meth c H locs cells slots mc ms g rest (Qc As.toArray) XC free := by
  obtain ⟨⟨hrc, hrs, hfr, hlo, hws, hcw⟩, hcode, hini, hy, hlen, hl, hstt⟩ := cw
  have hK : vx_Back l R p e below s args y 3 8 (PreOf R mc ms Pc) (PostOf Qc mc ms free) (vx_Post XC mc ms free) := vx_backW (hh := hh) (bytes := bytes) (maxL := maxL) (ret := ret) hM hp.1 hrc hrs hfr hlo hws hcw (fun a' U hW => word_at hW (Or.inl (by first | rfl | simp [Cond.onTables, Cond.keeps, Cond.steady])) hini)
  obtain ⟨hx, hb, hml, ho, -⟩ := S
  intro T hT X
  rcases vx_callSX X hx (hh := hh) (bytes := bytes) (maxL := maxL) (ret := ret) ho hl hstt hini hcode hy hK hg (hsize.trans hml.symm) (argsL := As) (rest := rest) (fun sig h => hn.trans (hlen sig h)) hstack hW (by rw [hb]; exact hdg)
    (fun vm₁ hW₁ => ⟨hf.1, hf.2, hp.2 (T.setVm vm₁) hT hW₁⟩) with ⟨v, vm₁, ⟨U', l2, c2, s2⟩, hW₁, X', ⟨g', mk, t, L, e1, e2, hq, h1, hL, h2, h3⟩, st⟩ | ⟨q, vm₁, ⟨U', l2, c2, s2⟩, hW₁, X', ⟨g', mk, t, L, E, ce, e1, e2, hq, hce, hcv, hcl, h1, hL, h2, h3⟩, st⟩
  · dsimp only [Pt.U, Pt.locs, Pt.cells, Pt.slots] at X' e1 e2 h1 h2 h3 st
    subst h1; subst h2; subst h3
    exact Or.inl ⟨v, (T.setVm vm₁).calling g' mk As.toArray, t, U', L, hT, X', hL, e1, e2, hq, st⟩
  · dsimp only [Pt.U, Pt.locs, Pt.cells, Pt.slots] at X' e1 e2 h1 h2 h3 st hcl
    subst h1; subst h2; subst h3
    exact Or.inr ⟨q, (T.setVm vm₁).calling g' mk As.toArray, t, U', L, E, ce, hT, X', hL, e1, e2, hq, hce, hcv, vx_cls hW₁ hcl, st⟩
end
end VXH
theorem vx_ofWH {l : Launch} {y : MethodName} {ws ws' : List Cond} {rm : Room} {Pc : Array Value → State → Prop} {Qc : Array Value → State → Outcome → State → Prop} {XC : String → State → State → Prop} {mc ms : Nat} {free : Addr → Prop} {cc : ByteArray} {maxL : Nat} {ret : Option FieldType} {hh : List (Nat × Nat × Nat × Nat)}
    (hy : plainName y.cls = true) (hw : ws = Cond.codeWith y cc maxL ret hh :: ws')
    (body : ∀ p e s m args below meth c s₁, BodyLoose p l y (headSpec ws rm) cc maxL ret e s m args below meth c s₁ → c.maxLocals = maxL → Pc args s →
      W p l e (headSpec ws rm).room s m args below meth c s.heap [] 0 0 (vx_MQ below Qc XC args s mc ms free) (entryFrame m args maxL)) : vx_Met l y ws rm Pc Qc XC mc ms free := by
  refine MetFree.of_bodyS (code := cc) (maxLocals := maxL) (ret := ret) hy ?_ ?_
  · intro args s m h hn
    obtain ⟨m9, meth, c, hn9, h1, h2, h3, h4, -, h5, h6, -⟩ := Cond.codeWith_spec (atoms_spec (ws := ws) h _ (by rw [hw]; exact List.mem_cons_self))
    cases hn.symm.trans hn9
    exact ⟨meth, c, h1, h2, h3, h4, h5, h6⟩
  · intro p e s m args below meth c s₁ B hml hP _
    have hh0 : s₁.heap = s.heap := by rw [B.state]; rfl
    obtain ⟨t, a1, o, b1, b2, b3⟩ := body p e s m args below meth c s₁ B hml hP s₁ hh0 (Stand.of_body B)
    exact ⟨t, o, a1, b1, b2, b3⟩
/-! ===== END ===== -/
end
section
/-! ===== BEGIN printed: names, fields, word lists, decode rows ===== -/
def RX0 : String := "BootStage$Unit"
def TX0 : u_T := fun k => match k with
  | 0 => ("BootStage$Unit", "number", "I", true)
  | 1 => ("BootStage$Unit", "time", "I", false)
  | 2 => ("BootStage$Unit", "retries", "I", false)
  | 3 => ("BootStage$Unit", "learned", "I", false)
  | 4 => ("BootStage$Unit", "faults", "I", false)
  | 5 => ("BootStage$Unit", "isHeld", "Z", false)
  | 6 => ("BootStage$Unit", "substitute", "LBootStage$Unit;", false)
  | 7 => ("BootStage$Unit", "needs", "I", false)
  | 8 => ("BootStage$Unit", "keptWishes", "I", false)
  | 9 => ("BootStage$Unit", "state", "I", false)
  | 10 => ("BootStage$Unit", "ticksStarting", "I", false)
  | 11 => ("BootStage$Unit", "retriesUsed", "I", false)
  | _ => ("BootStage$Unit", "learnedAtBegin", "I", false)
def tyX0 : Nat → FieldType := fun k => match k with
  | 0 => .int
  | 1 => .int
  | 2 => .int
  | 3 => .int
  | 4 => .int
  | 5 => .boolean
  | 6 => .object "BootStage$Unit"
  | 7 => .int
  | 8 => .int
  | 9 => .int
  | 10 => .int
  | 11 => .int
  | _ => .int
abbrev wsX00 : List Cond := u_ws RX0 TX0 13
theorem nmX0 : ∀ a, a < 13 → ∀ b, b < 13 → a ≠ b → (TX0 a).2.1 ≠ (TX0 b).2.1 := by decide +kernel
theorem tyX0_ok : ∀ k, k < 13 → parseFieldDescriptor (TX0 k).2.2.1 = some (tyX0 k) := by decide +kernel
abbrev cX0_init : ByteArray := prog_2_method_1_code
def yX0_init : MethodName := ⟨RX0, "<init>", "(I)V"⟩
abbrev cX0_bit : ByteArray := prog_2_method_2_code
def yX0_bit : MethodName := ⟨RX0, "bit", "()I"⟩
abbrev cX0_resetForStart : ByteArray := prog_2_method_3_code
def yX0_resetForStart : MethodName := ⟨RX0, "resetForStart", "()I"⟩
abbrev cX0_isGone : ByteArray := prog_2_method_4_code
def yX0_isGone : MethodName := ⟨RX0, "isGone", "()Z"⟩
abbrev cX0_isNeedMet : ByteArray := prog_2_method_5_code
def yX0_isNeedMet : MethodName := ⟨RX0, "isNeedMet", "()Z"⟩
abbrev cX0_isNeedLost : ByteArray := prog_2_method_6_code
def yX0_isNeedLost : MethodName := ⟨RX0, "isNeedLost", "()Z"⟩
abbrev cX0_isWishDone : ByteArray := prog_2_method_7_code
def yX0_isWishDone : MethodName := ⟨RX0, "isWishDone", "()Z"⟩
abbrev cX0_comeToEnd : ByteArray := prog_2_method_8_code
def yX0_comeToEnd : MethodName := ⟨RX0, "comeToEnd", "()V"⟩
abbrev cX0_timeDone : ByteArray := prog_2_method_9_code
def yX0_timeDone : MethodName := ⟨RX0, "timeDone", "()I"⟩
def RX1 : String := "BootStage$Wish"
def TX1 : u_T := fun k => match k with
  | 0 => ("BootStage$Wish", "wishing", "LBootStage$Unit;", true)
  | 1 => ("BootStage$Wish", "wished", "LBootStage$Unit;", true)
  | _ => ("BootStage$Wish", "weight", "I", false)
def tyX1 : Nat → FieldType := fun k => match k with
  | 0 => .object "BootStage$Unit"
  | 1 => .object "BootStage$Unit"
  | _ => .int
abbrev wsX10 : List Cond := u_ws RX1 TX1 3
theorem nmX1 : ∀ a, a < 3 → ∀ b, b < 3 → a ≠ b → (TX1 a).2.1 ≠ (TX1 b).2.1 := by decide +kernel
theorem tyX1_ok : ∀ k, k < 3 → parseFieldDescriptor (TX1 k).2.2.1 = some (tyX1 k) := by decide +kernel
abbrev cX1_init : ByteArray := prog_3_method_1_code
def yX1_init : MethodName := ⟨RX1, "<init>", "(LBootStage$Unit;LBootStage$Unit;I)V"⟩
def RX2 : String := "BootStage"
def TX2 : u_T := fun k => match k with
  | 0 => ("BootStage", "rows", "[LBootStage$Unit;", true)
  | 1 => ("BootStage", "count", "I", false)
  | 2 => ("BootStage", "wishes", "Ljava/util/ArrayList;", true)
  | 3 => ("BootStage", "isGoingOn", "Z", false)
  | 4 => ("BootStage", "bound", "I", false)
  | 5 => ("BootStage", "total", "I", false)
  | _ => ("BootStage", "reachedBar", "I", false)
def tyX2 : Nat → FieldType := fun k => match k with
  | 0 => .array (.object "BootStage$Unit")
  | 1 => .int
  | 2 => .object "java/util/ArrayList"
  | 3 => .boolean
  | 4 => .int
  | 5 => .int
  | _ => .int
abbrev wsX20 : List Cond := u_ws RX2 TX2 7
theorem nmX2 : ∀ a, a < 7 → ∀ b, b < 7 → a ≠ b → (TX2 a).2.1 ≠ (TX2 b).2.1 := by decide +kernel
theorem tyX2_ok : ∀ k, k < 7 → parseFieldDescriptor (TX2 k).2.2.1 = some (tyX2 k) := by decide +kernel
abbrev cX2_init : ByteArray := prog_1_method_1_code
def yX2_init : MethodName := ⟨RX2, "<init>", "()V"⟩
abbrev cX2_add : ByteArray := prog_1_method_2_code
def yX2_add : MethodName := ⟨RX2, "add", "(II)I"⟩
abbrev cX2_need : ByteArray := prog_1_method_3_code
def yX2_need : MethodName := ⟨RX2, "need", "(II)Z"⟩
abbrev cX2_wish : ByteArray := prog_1_method_4_code
def yX2_wish : MethodName := ⟨RX2, "wish", "(III)I"⟩
abbrev cX2_standIn : ByteArray := prog_1_method_5_code
def yX2_standIn : MethodName := ⟨RX2, "standIn", "(II)I"⟩
abbrev cX2_hold : ByteArray := prog_1_method_6_code
def yX2_hold : MethodName := ⟨RX2, "hold", "(IZ)Z"⟩
abbrev cX2_setFaults : ByteArray := prog_1_method_7_code
def yX2_setFaults : MethodName := ⟨RX2, "setFaults", "(II)I"⟩
abbrev cX2_setTime : ByteArray := prog_1_method_8_code
def yX2_setTime : MethodName := ⟨RX2, "setTime", "(II)I"⟩
abbrev cX2_units : ByteArray := prog_1_method_9_code
def yX2_units : MethodName := ⟨RX2, "units", "()I"⟩
abbrev cX2_learned : ByteArray := prog_1_method_10_code
def yX2_learned : MethodName := ⟨RX2, "learned", "(I)I"⟩
abbrev cX2_faults : ByteArray := prog_1_method_11_code
def yX2_faults : MethodName := ⟨RX2, "faults", "(I)I"⟩
abbrev cX2_begin : ByteArray := prog_1_method_12_code
def yX2_begin : MethodName := ⟨RX2, "begin", "(I)I"⟩
abbrev cX2_tick : ByteArray := prog_1_method_13_code
def yX2_tick : MethodName := ⟨RX2, "tick", "(I)I"⟩
abbrev cX2_goesOn : ByteArray := prog_1_method_14_code
def yX2_goesOn : MethodName := ⟨RX2, "goesOn", "()Z"⟩
abbrev cX2_state : ByteArray := prog_1_method_15_code
def yX2_state : MethodName := ⟨RX2, "state", "(I)I"⟩
abbrev cX2_waitsFor : ByteArray := prog_1_method_16_code
def yX2_waitsFor : MethodName := ⟨RX2, "waitsFor", "(I)I"⟩
abbrev cX2_bar : ByteArray := prog_1_method_17_code
def yX2_bar : MethodName := ⟨RX2, "bar", "()I"⟩
abbrev cX2_ready : ByteArray := prog_1_method_18_code
def yX2_ready : MethodName := ⟨RX2, "ready", "()I"⟩
abbrev cX2_canRun : ByteArray := prog_1_method_19_code
def yX2_canRun : MethodName := ⟨RX2, "canRun", "()I"⟩
abbrev cX2_unitAt : ByteArray := prog_1_method_20_code
def yX2_unitAt : MethodName := ⟨RX2, "unitAt", "(I)LBootStage$Unit;"⟩
abbrev cX2_checkRange : ByteArray := prog_1_method_21_code
def yX2_checkRange : MethodName := ⟨RX2, "checkRange", "(III)V"⟩
abbrev cX2_checkDifferent : ByteArray := prog_1_method_22_code
def yX2_checkDifferent : MethodName := ⟨RX2, "checkDifferent", "(LBootStage$Unit;LBootStage$Unit;)V"⟩
abbrev cX2_checkNoStart : ByteArray := prog_1_method_23_code
def yX2_checkNoStart : MethodName := ⟨RX2, "checkNoStart", "()V"⟩
abbrev cX2_contains : ByteArray := prog_1_method_24_code
def yX2_contains : MethodName := ⟨RX2, "contains", "(ILBootStage$Unit;)Z"⟩
abbrev cX2_findWish : ByteArray := prog_1_method_25_code
def yX2_findWish : MethodName := ⟨RX2, "findWish", "(LBootStage$Unit;LBootStage$Unit;)LBootStage$Wish;"⟩
abbrev cX2_reaches : ByteArray := prog_1_method_26_code
def yX2_reaches : MethodName := ⟨RX2, "reaches", "(LBootStage$Unit;LBootStage$Unit;Z)Z"⟩
abbrev cX2_cutLoops : ByteArray := prog_1_method_27_code
def yX2_cutLoops : MethodName := ⟨RX2, "cutLoops", "()I"⟩
abbrev cX2_keepAllWishes : ByteArray := prog_1_method_28_code
def yX2_keepAllWishes : MethodName := ⟨RX2, "keepAllWishes", "()V"⟩
abbrev cX2_isAwaited : ByteArray := prog_1_method_29_code
def yX2_isAwaited : MethodName := ⟨RX2, "isAwaited", "(LBootStage$Unit;LBootStage$Unit;)Z"⟩
abbrev cX2_passOneTick : ByteArray := prog_1_method_30_code
def yX2_passOneTick : MethodName := ⟨RX2, "passOneTick", "()V"⟩
abbrev cX2_endStarts : ByteArray := prog_1_method_31_code
def yX2_endStarts : MethodName := ⟨RX2, "endStarts", "()V"⟩
abbrev cX2_failWithoutNeeds : ByteArray := prog_1_method_32_code
def yX2_failWithoutNeeds : MethodName := ⟨RX2, "failWithoutNeeds", "()V"⟩
abbrev cX2_startWaiting : ByteArray := prog_1_method_33_code
def yX2_startWaiting : MethodName := ⟨RX2, "startWaiting", "()I"⟩
abbrev cX2_countStarting : ByteArray := prog_1_method_34_code
def yX2_countStarting : MethodName := ⟨RX2, "countStarting", "()I"⟩
abbrev cX2_metNeeds : ByteArray := prog_1_method_35_code
def yX2_metNeeds : MethodName := ⟨RX2, "metNeeds", "()I"⟩
abbrev cX2_lostNeeds : ByteArray := prog_1_method_36_code
def yX2_lostNeeds : MethodName := ⟨RX2, "lostNeeds", "()I"⟩
abbrev cX2_doneWishes : ByteArray := prog_1_method_37_code
def yX2_doneWishes : MethodName := ⟨RX2, "doneWishes", "()I"⟩
abbrev cX2_raiseBar : ByteArray := prog_1_method_38_code
def yX2_raiseBar : MethodName := ⟨RX2, "raiseBar", "()V"⟩
abbrev cX2_timeDone : ByteArray := prog_1_method_39_code
def yX2_timeDone : MethodName := ⟨RX2, "timeDone", "()I"⟩
abbrev cX2_ableAlone : ByteArray := prog_1_method_40_code
def yX2_ableAlone : MethodName := ⟨RX2, "ableAlone", "()I"⟩
abbrev cX2_keepSupplied : ByteArray := prog_1_method_41_code
def yX2_keepSupplied : MethodName := ⟨RX2, "keepSupplied", "(I)I"⟩
def RX3 : String := "BootStageModel"
def TX3 : u_T := fun k => match k with
  | 0 => ("BootStageModel", "units", "I", false)
  | 1 => ("BootStageModel", "times", "[I", true)
  | 2 => ("BootStageModel", "learned", "[I", true)
  | 3 => ("BootStageModel", "retries", "[I", true)
  | 4 => ("BootStageModel", "faults", "[I", true)
  | 5 => ("BootStageModel", "standIns", "[I", true)
  | 6 => ("BootStageModel", "isHeld", "[Z", true)
  | 7 => ("BootStageModel", "needs", "[Z", true)
  | 8 => ("BootStageModel", "weights", "[I", true)
  | 9 => ("BootStageModel", "toldAt", "[I", true)
  | 10 => ("BootStageModel", "told", "I", false)
  | 11 => ("BootStageModel", "isCut", "[Z", true)
  | 12 => ("BootStageModel", "wasBegun", "Z", false)
  | 13 => ("BootStageModel", "goesOn", "Z", false)
  | 14 => ("BootStageModel", "bound", "I", false)
  | 15 => ("BootStageModel", "total", "I", false)
  | 16 => ("BootStageModel", "bar", "I", false)
  | 17 => ("BootStageModel", "states", "[I", true)
  | 18 => ("BootStageModel", "ticks", "[I", true)
  | 19 => ("BootStageModel", "used", "[I", true)
  | 20 => ("BootStageModel", "counted", "[I", true)
  | 21 => ("BootStageModel", "isReached", "[Z", true)
  | _ => ("BootStageModel", "thrown", "I", false)
def tyX3 : Nat → FieldType := fun k => match k with
  | 0 => .int
  | 1 => .array .int
  | 2 => .array .int
  | 3 => .array .int
  | 4 => .array .int
  | 5 => .array .int
  | 6 => .array .boolean
  | 7 => .array .boolean
  | 8 => .array .int
  | 9 => .array .int
  | 10 => .int
  | 11 => .array .boolean
  | 12 => .boolean
  | 13 => .boolean
  | 14 => .int
  | 15 => .int
  | 16 => .int
  | 17 => .array .int
  | 18 => .array .int
  | 19 => .array .int
  | 20 => .array .int
  | 21 => .array .boolean
  | _ => .int
abbrev wsX30 : List Cond := u_ws RX3 TX3 23
theorem nmX3 : ∀ a, a < 23 → ∀ b, b < 23 → a ≠ b → (TX3 a).2.1 ≠ (TX3 b).2.1 := by decide +kernel
theorem tyX3_ok : ∀ k, k < 23 → parseFieldDescriptor (TX3 k).2.2.1 = some (tyX3 k) := by decide +kernel
abbrev cX3_init : ByteArray := prog_5_method_1_code
def yX3_init : MethodName := ⟨RX3, "<init>", "()V"⟩
abbrev cX3_thrown : ByteArray := prog_5_method_2_code
def yX3_thrown : MethodName := ⟨RX3, "thrown", "()I"⟩
abbrev cX3_goes : ByteArray := prog_5_method_3_code
def yX3_goes : MethodName := ⟨RX3, "goes", "(I)Z"⟩
abbrev cX3_isIn : ByteArray := prog_5_method_4_code
def yX3_isIn : MethodName := ⟨RX3, "isIn", "(III)Z"⟩
abbrev cX3_isUnit : ByteArray := prog_5_method_5_code
def yX3_isUnit : MethodName := ⟨RX3, "isUnit", "(I)Z"⟩
abbrev cX3_edge : ByteArray := prog_5_method_6_code
def yX3_edge : MethodName := ⟨RX3, "edge", "(II)I"⟩
abbrev cX3_add : ByteArray := prog_5_method_7_code
def yX3_add : MethodName := ⟨RX3, "add", "(II)I"⟩
abbrev cX3_reaches : ByteArray := prog_5_method_8_code
def yX3_reaches : MethodName := ⟨RX3, "reaches", "(IIZ)Z"⟩
abbrev cX3_need : ByteArray := prog_5_method_9_code
def yX3_need : MethodName := ⟨RX3, "need", "(II)Z"⟩
abbrev cX3_wish : ByteArray := prog_5_method_10_code
def yX3_wish : MethodName := ⟨RX3, "wish", "(III)I"⟩
abbrev cX3_standIn : ByteArray := prog_5_method_11_code
def yX3_standIn : MethodName := ⟨RX3, "standIn", "(II)I"⟩
abbrev cX3_hold : ByteArray := prog_5_method_12_code
def yX3_hold : MethodName := ⟨RX3, "hold", "(IZ)Z"⟩
abbrev cX3_setFaults : ByteArray := prog_5_method_13_code
def yX3_setFaults : MethodName := ⟨RX3, "setFaults", "(II)I"⟩
abbrev cX3_setTime : ByteArray := prog_5_method_14_code
def yX3_setTime : MethodName := ⟨RX3, "setTime", "(II)I"⟩
abbrev cX3_units : ByteArray := prog_5_method_15_code
def yX3_units : MethodName := ⟨RX3, "units", "()I"⟩
abbrev cX3_asks : ByteArray := prog_5_method_16_code
def yX3_asks : MethodName := ⟨RX3, "asks", "(I)Z"⟩
abbrev cX3_learned : ByteArray := prog_5_method_17_code
def yX3_learned : MethodName := ⟨RX3, "learned", "(I)I"⟩
abbrev cX3_faults : ByteArray := prog_5_method_18_code
def yX3_faults : MethodName := ⟨RX3, "faults", "(I)I"⟩
abbrev cX3_weakest : ByteArray := prog_5_method_19_code
def yX3_weakest : MethodName := ⟨RX3, "weakest", "()I"⟩
abbrev cX3_begin : ByteArray := prog_5_method_20_code
def yX3_begin : MethodName := ⟨RX3, "begin", "(I)I"⟩
abbrev cX3_isOff : ByteArray := prog_5_method_21_code
def yX3_isOff : MethodName := ⟨RX3, "isOff", "(I)Z"⟩
abbrev cX3_isMet : ByteArray := prog_5_method_22_code
def yX3_isMet : MethodName := ⟨RX3, "isMet", "(I)Z"⟩
abbrev cX3_isLost : ByteArray := prog_5_method_23_code
def yX3_isLost : MethodName := ⟨RX3, "isLost", "(I)Z"⟩
abbrev cX3_waits : ByteArray := prog_5_method_24_code
def yX3_waits : MethodName := ⟨RX3, "waits", "(II)Z"⟩
abbrev cX3_starting : ByteArray := prog_5_method_25_code
def yX3_starting : MethodName := ⟨RX3, "starting", "()I"⟩
abbrev cX3_ends : ByteArray := prog_5_method_26_code
def yX3_ends : MethodName := ⟨RX3, "ends", "(I)V"⟩
abbrev cX3_isSo : ByteArray := prog_5_method_27_code
def yX3_isSo : MethodName := ⟨RX3, "isSo", "(II)Z"⟩
abbrev cX3_raised : ByteArray := prog_5_method_28_code
def yX3_raised : MethodName := ⟨RX3, "raised", "()I"⟩
abbrev cX3_passes : ByteArray := prog_5_method_29_code
def yX3_passes : MethodName := ⟨RX3, "passes", "()V"⟩
abbrev cX3_tick : ByteArray := prog_5_method_30_code
def yX3_tick : MethodName := ⟨RX3, "tick", "(I)I"⟩
abbrev cX3_goesOn : ByteArray := prog_5_method_31_code
def yX3_goesOn : MethodName := ⟨RX3, "goesOn", "()Z"⟩
abbrev cX3_state : ByteArray := prog_5_method_32_code
def yX3_state : MethodName := ⟨RX3, "state", "(I)I"⟩
abbrev cX3_waitsFor : ByteArray := prog_5_method_33_code
def yX3_waitsFor : MethodName := ⟨RX3, "waitsFor", "(I)I"⟩
abbrev cX3_bar : ByteArray := prog_5_method_34_code
def yX3_bar : MethodName := ⟨RX3, "bar", "()I"⟩
abbrev cX3_ready : ByteArray := prog_5_method_35_code
def yX3_ready : MethodName := ⟨RX3, "ready", "()I"⟩
abbrev cX3_canRunIn : ByteArray := prog_5_method_36_code
def yX3_canRunIn : MethodName := ⟨RX3, "canRunIn", "(II)Z"⟩
abbrev cX3_canRun : ByteArray := prog_5_method_37_code
def yX3_canRun : MethodName := ⟨RX3, "canRun", "()I"⟩
def RJx145de : String := "java/io/Serializable"
def TJx145de : u_T := fun k => match k with
  | _ => ("", "", "", false)
def tyJx145de : Nat → FieldType := fun k => match k with
  | _ => .int
abbrev wsJx145de0 : List Cond := u_ws RJx145de TJx145de 0
theorem nmJx145de : ∀ a, a < 0 → ∀ b, b < 0 → a ≠ b → (TJx145de a).2.1 ≠ (TJx145de b).2.1 := by decide +kernel
theorem tyJx145de_ok : ∀ k, k < 0 → parseFieldDescriptor (TJx145de k).2.2.1 = some (tyJx145de k) := by decide +kernel
def RJx8e188 : String := "java/lang/Cloneable"
def TJx8e188 : u_T := fun k => match k with
  | _ => ("", "", "", false)
def tyJx8e188 : Nat → FieldType := fun k => match k with
  | _ => .int
abbrev wsJx8e1880 : List Cond := u_ws RJx8e188 TJx8e188 0
theorem nmJx8e188 : ∀ a, a < 0 → ∀ b, b < 0 → a ≠ b → (TJx8e188 a).2.1 ≠ (TJx8e188 b).2.1 := by decide +kernel
theorem tyJx8e188_ok : ∀ k, k < 0 → parseFieldDescriptor (TJx8e188 k).2.2.1 = some (tyJx8e188 k) := by decide +kernel
def RJxab1ab : String := "java/lang/Iterable"
def TJxab1ab : u_T := fun k => match k with
  | _ => ("", "", "", false)
def tyJxab1ab : Nat → FieldType := fun k => match k with
  | _ => .int
abbrev wsJxab1ab0 : List Cond := u_ws RJxab1ab TJxab1ab 0
theorem nmJxab1ab : ∀ a, a < 0 → ∀ b, b < 0 → a ≠ b → (TJxab1ab a).2.1 ≠ (TJxab1ab b).2.1 := by decide +kernel
theorem tyJxab1ab_ok : ∀ k, k < 0 → parseFieldDescriptor (TJxab1ab k).2.2.1 = some (tyJxab1ab k) := by decide +kernel
def RJ9 : String := "java/lang/Math"
def TJ9 : u_T := fun k => match k with
  | _ => ("", "", "", false)
def tyJ9 : Nat → FieldType := fun k => match k with
  | _ => .int
abbrev wsJ90 : List Cond := u_ws RJ9 TJ9 0
theorem nmJ9 : ∀ a, a < 0 → ∀ b, b < 0 → a ≠ b → (TJ9 a).2.1 ≠ (TJ9 b).2.1 := by decide +kernel
theorem tyJ9_ok : ∀ k, k < 0 → parseFieldDescriptor (TJ9 k).2.2.1 = some (tyJ9 k) := by decide +kernel
abbrev cJ9_max_7cf53 : ByteArray := prog_13_method_65_code
def yJ9_max_7cf53 : MethodName := ⟨RJ9, "max", "(II)I"⟩
abbrev cJ9_min_7cf53 : ByteArray := prog_13_method_69_code
def yJ9_min_7cf53 : MethodName := ⟨RJ9, "min", "(II)I"⟩
def RJ0 : String := "java/lang/String"
def TJ0 : u_T := fun k => match k with
  | _ => ("", "", "", false)
def tyJ0 : Nat → FieldType := fun k => match k with
  | _ => .int
abbrev wsJ00 : List Cond := u_ws RJ0 TJ0 0
theorem nmJ0 : ∀ a, a < 0 → ∀ b, b < 0 → a ≠ b → (TJ0 a).2.1 ≠ (TJ0 b).2.1 := by decide +kernel
theorem tyJ0_ok : ∀ k, k < 0 → parseFieldDescriptor (TJ0 k).2.2.1 = some (tyJ0 k) := by decide +kernel
def RJ10 : String := "java/lang/System"
def TJ10 : u_T := fun k => match k with
  | _ => ("", "", "", false)
def tyJ10 : Nat → FieldType := fun k => match k with
  | _ => .int
abbrev wsJ100 : List Cond := u_ws RJ10 TJ10 0
theorem nmJ10 : ∀ a, a < 0 → ∀ b, b < 0 → a ≠ b → (TJ10 a).2.1 ≠ (TJ10 b).2.1 := by decide +kernel
theorem tyJ10_ok : ∀ k, k < 0 → parseFieldDescriptor (TJ10 k).2.2.1 = some (tyJ10 k) := by decide +kernel
def RJxa1e45 : String := "java/util/AbstractCollection"
def TJxa1e45 : u_T := fun k => match k with
  | _ => ("", "", "", false)
def tyJxa1e45 : Nat → FieldType := fun k => match k with
  | _ => .int
abbrev wsJxa1e450 : List Cond := u_ws RJxa1e45 TJxa1e45 0
theorem nmJxa1e45 : ∀ a, a < 0 → ∀ b, b < 0 → a ≠ b → (TJxa1e45 a).2.1 ≠ (TJxa1e45 b).2.1 := by decide +kernel
theorem tyJxa1e45_ok : ∀ k, k < 0 → parseFieldDescriptor (TJxa1e45 k).2.2.1 = some (tyJxa1e45 k) := by decide +kernel
abbrev cJxa1e45_init_da8c8 : ByteArray := prog_18_method_1_code
def yJxa1e45_init_da8c8 : MethodName := ⟨RJxa1e45, "<init>", "()V"⟩
def RJxc12de : String := "java/util/AbstractList"
def TJxc12de : u_T := fun k => match k with
  | _ => ("", "", "", false)
def tyJxc12de : Nat → FieldType := fun k => match k with
  | _ => .int
abbrev wsJxc12de0 : List Cond := u_ws RJxc12de TJxc12de 0
theorem nmJxc12de : ∀ a, a < 0 → ∀ b, b < 0 → a ≠ b → (TJxc12de a).2.1 ≠ (TJxc12de b).2.1 := by decide +kernel
theorem tyJxc12de_ok : ∀ k, k < 0 → parseFieldDescriptor (TJxc12de k).2.2.1 = some (tyJxc12de k) := by decide +kernel
abbrev cJxc12de_init_da8c8 : ByteArray := prog_19_method_1_code
def yJxc12de_init_da8c8 : MethodName := ⟨RJxc12de, "<init>", "()V"⟩
def RJx4a65c : String := "java/util/ArrayList"
def TJx4a65c : u_T := fun k => match k with
  | 0 => ("java/util/AbstractList", "modCount", "I", false)
  | 1 => ("java/util/ArrayList", "elementData", "[Ljava/lang/Object;", false)
  | _ => ("java/util/ArrayList", "size", "I", false)
def tyJx4a65c : Nat → FieldType := fun k => match k with
  | 0 => .int
  | 1 => .array (.object "java/lang/Object")
  | _ => .int
abbrev wsJx4a65c0 : List Cond := u_ws RJx4a65c TJx4a65c 3
theorem nmJx4a65c : ∀ a, a < 3 → ∀ b, b < 3 → a ≠ b → (TJx4a65c a).2.1 ≠ (TJx4a65c b).2.1 := by decide +kernel
theorem tyJx4a65c_ok : ∀ k, k < 3 → parseFieldDescriptor (TJx4a65c k).2.2.1 = some (tyJx4a65c k) := by decide +kernel
abbrev cJx4a65c_init_da8c8 : ByteArray := prog_20_method_2_code
def yJx4a65c_init_da8c8 : MethodName := ⟨RJx4a65c, "<init>", "()V"⟩
abbrev cJx4a65c_grow_92f84 : ByteArray := prog_20_method_6_code
def yJx4a65c_grow_92f84 : MethodName := ⟨RJx4a65c, "grow", "(I)[Ljava/lang/Object;"⟩
abbrev cJx4a65c_grow_d5877 : ByteArray := prog_20_method_7_code
def yJx4a65c_grow_d5877 : MethodName := ⟨RJx4a65c, "grow", "()[Ljava/lang/Object;"⟩
abbrev cJx4a65c_size_8abf5 : ByteArray := prog_20_method_8_code
def yJx4a65c_size_8abf5 : MethodName := ⟨RJx4a65c, "size", "()I"⟩
abbrev cJx4a65c_elementData_915e3 : ByteArray := prog_20_method_18_code
def yJx4a65c_elementData_915e3 : MethodName := ⟨RJx4a65c, "elementData", "(I)Ljava/lang/Object;"⟩
abbrev cJx4a65c_get_915e3 : ByteArray := prog_20_method_20_code
def yJx4a65c_get_915e3 : MethodName := ⟨RJx4a65c, "get", "(I)Ljava/lang/Object;"⟩
abbrev cJx4a65c_add_72be8 : ByteArray := prog_20_method_24_code
def yJx4a65c_add_72be8 : MethodName := ⟨RJx4a65c, "add", "(Ljava/lang/Object;[Ljava/lang/Object;I)V"⟩
abbrev cJx4a65c_add_9ea2d : ByteArray := prog_20_method_25_code
def yJx4a65c_add_9ea2d : MethodName := ⟨RJx4a65c, "add", "(Ljava/lang/Object;)Z"⟩
def RJ7 : String := "java/util/Arrays"
def TJ7 : u_T := fun k => match k with
  | _ => ("", "", "", false)
def tyJ7 : Nat → FieldType := fun k => match k with
  | _ => .int
abbrev wsJ70 : List Cond := u_ws RJ7 TJ7 0
theorem nmJ7 : ∀ a, a < 0 → ∀ b, b < 0 → a ≠ b → (TJ7 a).2.1 ≠ (TJ7 b).2.1 := by decide +kernel
theorem tyJ7_ok : ∀ k, k < 0 → parseFieldDescriptor (TJ7 k).2.2.1 = some (tyJ7 k) := by decide +kernel
abbrev cJ7_copyOf_1904c : ByteArray := prog_21_method_119_code
def yJ7_copyOf_1904c : MethodName := ⟨RJ7, "copyOf", "([Ljava/lang/Object;I)[Ljava/lang/Object;"⟩
abbrev cJ7_copyOf_6403c : ByteArray := prog_21_method_120_code
def yJ7_copyOf_6403c : MethodName := ⟨RJ7, "copyOf", "([Ljava/lang/Object;ILjava/lang/Class;)[Ljava/lang/Object;"⟩
def RJx5ef63 : String := "java/util/Collection"
def TJx5ef63 : u_T := fun k => match k with
  | _ => ("", "", "", false)
def tyJx5ef63 : Nat → FieldType := fun k => match k with
  | _ => .int
abbrev wsJx5ef630 : List Cond := u_ws RJx5ef63 TJx5ef63 0
theorem nmJx5ef63 : ∀ a, a < 0 → ∀ b, b < 0 → a ≠ b → (TJx5ef63 a).2.1 ≠ (TJx5ef63 b).2.1 := by decide +kernel
theorem tyJx5ef63_ok : ∀ k, k < 0 → parseFieldDescriptor (TJx5ef63 k).2.2.1 = some (tyJx5ef63 k) := by decide +kernel
def RJxbd725 : String := "java/util/List"
def TJxbd725 : u_T := fun k => match k with
  | _ => ("", "", "", false)
def tyJxbd725 : Nat → FieldType := fun k => match k with
  | _ => .int
abbrev wsJxbd7250 : List Cond := u_ws RJxbd725 TJxbd725 0
theorem nmJxbd725 : ∀ a, a < 0 → ∀ b, b < 0 → a ≠ b → (TJxbd725 a).2.1 ≠ (TJxbd725 b).2.1 := by decide +kernel
theorem tyJxbd725_ok : ∀ k, k < 0 → parseFieldDescriptor (TJxbd725 k).2.2.1 = some (tyJxbd725 k) := by decide +kernel
def RJ15 : String := "java/util/Objects"
def TJ15 : u_T := fun k => match k with
  | _ => ("", "", "", false)
def tyJ15 : Nat → FieldType := fun k => match k with
  | _ => .int
abbrev wsJ150 : List Cond := u_ws RJ15 TJ15 0
theorem nmJ15 : ∀ a, a < 0 → ∀ b, b < 0 → a ≠ b → (TJ15 a).2.1 ≠ (TJ15 b).2.1 := by decide +kernel
theorem tyJ15_ok : ∀ k, k < 0 → parseFieldDescriptor (TJ15 k).2.2.1 = some (tyJ15 k) := by decide +kernel
abbrev cJ15_checkIndex_7cf53 : ByteArray := prog_24_method_17_code
def yJ15_checkIndex_7cf53 : MethodName := ⟨RJ15, "checkIndex", "(II)I"⟩
def RJxf0a74 : String := "java/util/RandomAccess"
def TJxf0a74 : u_T := fun k => match k with
  | _ => ("", "", "", false)
def tyJxf0a74 : Nat → FieldType := fun k => match k with
  | _ => .int
abbrev wsJxf0a740 : List Cond := u_ws RJxf0a74 TJxf0a74 0
theorem nmJxf0a74 : ∀ a, a < 0 → ∀ b, b < 0 → a ≠ b → (TJxf0a74 a).2.1 ≠ (TJxf0a74 b).2.1 := by decide +kernel
theorem tyJxf0a74_ok : ∀ k, k < 0 → parseFieldDescriptor (TJxf0a74 k).2.2.1 = some (tyJxf0a74 k) := by decide +kernel
def RJxa66e6 : String := "java/util/SequencedCollection"
def TJxa66e6 : u_T := fun k => match k with
  | _ => ("", "", "", false)
def tyJxa66e6 : Nat → FieldType := fun k => match k with
  | _ => .int
abbrev wsJxa66e60 : List Cond := u_ws RJxa66e6 TJxa66e6 0
theorem nmJxa66e6 : ∀ a, a < 0 → ∀ b, b < 0 → a ≠ b → (TJxa66e6 a).2.1 ≠ (TJxa66e6 b).2.1 := by decide +kernel
theorem tyJxa66e6_ok : ∀ k, k < 0 → parseFieldDescriptor (TJxa66e6 k).2.2.1 = some (tyJxa66e6 k) := by decide +kernel
def RJ8 : String := "jdk/internal/util/ArraysSupport"
def TJ8 : u_T := fun k => match k with
  | _ => ("", "", "", false)
def tyJ8 : Nat → FieldType := fun k => match k with
  | _ => .int
abbrev wsJ80 : List Cond := u_ws RJ8 TJ8 0
theorem nmJ8 : ∀ a, a < 0 → ∀ b, b < 0 → a ≠ b → (TJ8 a).2.1 ≠ (TJ8 b).2.1 := by decide +kernel
theorem tyJ8_ok : ∀ k, k < 0 → parseFieldDescriptor (TJ8 k).2.2.1 = some (tyJ8 k) := by decide +kernel
abbrev cJ8_newLength_cabcc : ByteArray := prog_27_method_27_code
def yJ8_newLength_cabcc : MethodName := ⟨RJ8, "newLength", "(III)I"⟩
abbrev cJ8_hugeLength_7cf53 : ByteArray := prog_27_method_28_code
def yJ8_hugeLength_7cf53 : MethodName := ⟨RJ8, "hugeLength", "(II)I"⟩
def RJ3 : String := "jdk/internal/util/Preconditions"
def TJ3 : u_T := fun k => match k with
  | _ => ("", "", "", false)
def tyJ3 : Nat → FieldType := fun k => match k with
  | _ => .int
abbrev wsJ30 : List Cond := u_ws RJ3 TJ3 0
theorem nmJ3 : ∀ a, a < 0 → ∀ b, b < 0 → a ≠ b → (TJ3 a).2.1 ≠ (TJ3 b).2.1 := by decide +kernel
theorem tyJ3_ok : ∀ k, k < 0 → parseFieldDescriptor (TJ3 k).2.2.1 = some (tyJ3 k) := by decide +kernel
abbrev cJ3_checkIndex_8e157 : ByteArray := prog_28_method_11_code
def yJ3_checkIndex_8e157 : MethodName := ⟨RJ3, "checkIndex", "(IILjava/util/function/BiFunction;)I"⟩
def RL : String := "BootStageLaw"
abbrev cL_add : ByteArray := method_3_code
def yL_add : MethodName := ⟨RL, "add", "(LBootStage;II[J)I"⟩
abbrev cL_need : ByteArray := method_4_code
def yL_need : MethodName := ⟨RL, "need", "(LBootStage;II[J)I"⟩
abbrev cL_wish : ByteArray := method_5_code
def yL_wish : MethodName := ⟨RL, "wish", "(LBootStage;III[J)I"⟩
abbrev cL_standIn : ByteArray := method_6_code
def yL_standIn : MethodName := ⟨RL, "standIn", "(LBootStage;II[J)I"⟩
abbrev cL_hold : ByteArray := method_7_code
def yL_hold : MethodName := ⟨RL, "hold", "(LBootStage;IZ[J)I"⟩
abbrev cL_setFaults : ByteArray := method_8_code
def yL_setFaults : MethodName := ⟨RL, "setFaults", "(LBootStage;II[J)I"⟩
abbrev cL_setTime : ByteArray := method_9_code
def yL_setTime : MethodName := ⟨RL, "setTime", "(LBootStage;II[J)I"⟩
abbrev cL_learned : ByteArray := method_10_code
def yL_learned : MethodName := ⟨RL, "learned", "(LBootStage;I[J)I"⟩
abbrev cL_faults : ByteArray := method_11_code
def yL_faults : MethodName := ⟨RL, "faults", "(LBootStage;I[J)I"⟩
abbrev cL_begin : ByteArray := method_12_code
def yL_begin : MethodName := ⟨RL, "begin", "(LBootStage;I[J)I"⟩
abbrev cL_tick : ByteArray := method_13_code
def yL_tick : MethodName := ⟨RL, "tick", "(LBootStage;I[J)I"⟩
abbrev cL_state : ByteArray := method_14_code
def yL_state : MethodName := ⟨RL, "state", "(LBootStage;I[J)I"⟩
abbrev cL_waitsFor : ByteArray := method_15_code
def yL_waitsFor : MethodName := ⟨RL, "waitsFor", "(LBootStage;I[J)I"⟩
abbrev cL_law : ByteArray := code
def yL_law : MethodName := ⟨RL, "law", "([I)Z"⟩
def wsX0_init : List Cond := .code yX0_init cX0_init 2 none :: ([.methodLink RX0 3 objectInit, .instanceMethod objectInit, .code objectInit ⟨#[0xb1]⟩ 1 none, .fieldLink RX0 9 "BootStage$Unit" "time" "I", .fieldLink RX0 15 "BootStage$Unit" "retries" "I", .fieldLink RX0 18 "BootStage$Unit" "learned" "I", .fieldLink RX0 21 "BootStage$Unit" "faults" "I", .fieldLink RX0 24 "BootStage$Unit" "isHeld" "Z", .fieldLink RX0 28 "BootStage$Unit" "substitute" "LBootStage$Unit;", .fieldLink RX0 32 "BootStage$Unit" "needs" "I", .fieldLink RX0 35 "BootStage$Unit" "keptWishes" "I", .fieldLink RX0 38 "BootStage$Unit" "state" "I", .fieldLink RX0 41 "BootStage$Unit" "ticksStarting" "I", .fieldLink RX0 44 "BootStage$Unit" "retriesUsed" "I", .fieldLink RX0 47 "BootStage$Unit" "learnedAtBegin" "I", .fieldLink RX0 50 "BootStage$Unit" "number" "I"] ++ wsX00)
def wsX0_bit : List Cond := .code yX0_bit cX0_bit 1 (some .int) :: ([.fieldLink RX0 50 "BootStage$Unit" "number" "I"] ++ wsX00)
def wsX0_resetForStart : List Cond := .code yX0_resetForStart cX0_resetForStart 1 (some .int) :: ([.fieldLink RX0 24 "BootStage$Unit" "isHeld" "Z", .fieldLink RX0 38 "BootStage$Unit" "state" "I", .fieldLink RX0 44 "BootStage$Unit" "retriesUsed" "I", .fieldLink RX0 18 "BootStage$Unit" "learned" "I", .fieldLink RX0 47 "BootStage$Unit" "learnedAtBegin" "I"] ++ wsX00)
def wsX0_isGone : List Cond := .code yX0_isGone cX0_isGone 1 (some .boolean) :: ([.fieldLink RX0 38 "BootStage$Unit" "state" "I"] ++ wsX00)
def wsX0_isNeedMet : List Cond := .code yX0_isNeedMet cX0_isNeedMet 1 (some .boolean) :: ([.fieldLink RX0 38 "BootStage$Unit" "state" "I", .fieldLink RX0 28 "BootStage$Unit" "substitute" "LBootStage$Unit;", .methodLink RX0 53 yX0_isGone, .instanceMethod yX0_isGone, .selects RX0 yX0_isGone yX0_isGone, .initialized RX0, .code yX0_isGone cX0_isGone 1 (some .boolean)] ++ wsX00)
def wsX0_isNeedLost : List Cond := .code yX0_isNeedLost cX0_isNeedLost 1 (some .boolean) :: ([.fieldLink RX0 28 "BootStage$Unit" "substitute" "LBootStage$Unit;", .methodLink RX0 53 yX0_isGone, .instanceMethod yX0_isGone, .selects RX0 yX0_isGone yX0_isGone, .initialized RX0, .code yX0_isGone cX0_isGone 1 (some .boolean), .fieldLink RX0 38 "BootStage$Unit" "state" "I"] ++ wsX00)
def wsX0_isWishDone : List Cond := .code yX0_isWishDone cX0_isWishDone 1 (some .boolean) :: ([.fieldLink RX0 38 "BootStage$Unit" "state" "I", .methodLink RX0 53 yX0_isGone, .instanceMethod yX0_isGone, .selects RX0 yX0_isGone yX0_isGone, .initialized RX0, .code yX0_isGone cX0_isGone 1 (some .boolean)] ++ wsX00)
def wsX0_comeToEnd : List Cond := .code yX0_comeToEnd cX0_comeToEnd 1 none :: ([.fieldLink RX0 21 "BootStage$Unit" "faults" "I", .fieldLink RX0 38 "BootStage$Unit" "state" "I", .fieldLink RX0 18 "BootStage$Unit" "learned" "I", .fieldLink RX0 9 "BootStage$Unit" "time" "I", .methodLink RX0 57 Lib.Math.max.name, .static Lib.Math.max.name, .initialized "java/lang/Math", .code Lib.Math.max.name Lib.Math.max.code 2 (some .int), .fieldLink RX0 44 "BootStage$Unit" "retriesUsed" "I", .fieldLink RX0 15 "BootStage$Unit" "retries" "I"] ++ wsX00)
def wsX0_timeDone : List Cond := .code yX0_timeDone cX0_timeDone 1 (some .int) :: ([.fieldLink RX0 38 "BootStage$Unit" "state" "I", .fieldLink RX0 47 "BootStage$Unit" "learnedAtBegin" "I", .fieldLink RX0 41 "BootStage$Unit" "ticksStarting" "I", .methodLink RX0 63 Lib.Math.min.name, .static Lib.Math.min.name, .initialized "java/lang/Math", .code Lib.Math.min.name Lib.Math.min.code 2 (some .int)] ++ wsX00)
def wsX1_init : List Cond := .code yX1_init cX1_init 4 none :: ([.methodLink RX1 1 objectInit, .instanceMethod objectInit, .code objectInit ⟨#[0xb1]⟩ 1 none, .fieldLink RX1 7 "BootStage$Wish" "wishing" "LBootStage$Unit;", .fieldLink RX1 13 "BootStage$Wish" "wished" "LBootStage$Unit;", .fieldLink RX1 16 "BootStage$Wish" "weight" "I"] ++ wsX10)
def wsJxa1e45_init_da8c8 : List Cond := .code yJxa1e45_init_da8c8 cJxa1e45_init_da8c8 1 none :: ([.methodLink RJxa1e45 1 objectInit, .instanceMethod objectInit, .code objectInit ⟨#[0xb1]⟩ 1 none])
def wsJxc12de_init_da8c8 : List Cond := .code yJxc12de_init_da8c8 cJxc12de_init_da8c8 1 none :: ([.fieldLink RJxc12de 7 "java/util/AbstractList" "modCount" "I", .methodLink RJxc12de 1 yJxa1e45_init_da8c8, .instanceMethod yJxa1e45_init_da8c8, .initialized RJxa1e45, .code yJxa1e45_init_da8c8 cJxa1e45_init_da8c8 1 none, .methodLink RJxa1e45 1 objectInit, .instanceMethod objectInit, .code objectInit ⟨#[0xb1]⟩ 1 none] ++ wsJx4a65c0)
def wsJx4a65c_init_da8c8 : List Cond := .code yJx4a65c_init_da8c8 cJx4a65c_init_da8c8 1 none :: ([.fieldLink RJx4a65c 39 "java/util/ArrayList" "DEFAULTCAPACITY_EMPTY_ELEMENTDATA" "[Ljava/lang/Object;", .fieldLink RJx4a65c 9 "java/util/ArrayList" "elementData" "[Ljava/lang/Object;", .methodLink RJx4a65c 1 yJxc12de_init_da8c8, .instanceMethod yJxc12de_init_da8c8, .initialized RJxc12de, .code yJxc12de_init_da8c8 cJxc12de_init_da8c8 1 none, .fieldLink RJxc12de 7 "java/util/AbstractList" "modCount" "I", .methodLink RJxc12de 1 yJxa1e45_init_da8c8, .instanceMethod yJxa1e45_init_da8c8, .initialized RJxa1e45, .code yJxa1e45_init_da8c8 cJxa1e45_init_da8c8 1 none, .methodLink RJxa1e45 1 objectInit, .instanceMethod objectInit, .code objectInit ⟨#[0xb1]⟩ 1 none] ++ wsJx4a65c0)
def wsX2_init_r1 : List Cond := [Cond.methodLink RX2 1 objectInit, Cond.instanceMethod objectInit, Cond.code objectInit ⟨#[0xb1]⟩ 1 none, Cond.classLink RX2 9 RX0, Cond.fieldLink RX2 11 "BootStage" "rows" "[LBootStage$Unit;", Cond.fieldLink RX2 15 "BootStage" "count" "I", Cond.classLink RX2 19 RJx4a65c, Cond.instantiable RJx4a65c 3, Cond.initialized RJx4a65c, Cond.fieldLink RX2 22 "BootStage" "wishes" "Ljava/util/ArrayList;", Cond.fieldLink RX2 26 "BootStage" "isGoingOn" "Z", Cond.fieldLink RX2 30 "BootStage" "bound" "I", Cond.fieldLink RX2 33 "BootStage" "total" "I", Cond.fieldLink RX2 36 "BootStage" "reachedBar" "I", Cond.instantiable RX0 13, Cond.initialized RX0, Cond.methodLink RX2 21 yJx4a65c_init_da8c8, Cond.instanceMethod yJx4a65c_init_da8c8, Cond.code yJx4a65c_init_da8c8 cJx4a65c_init_da8c8 1 none, Cond.fieldLink RJx4a65c 39 "java/util/ArrayList" "DEFAULTCAPACITY_EMPTY_ELEMENTDATA" "[Ljava/lang/Object;", Cond.fieldLink RJx4a65c 9 "java/util/ArrayList" "elementData" "[Ljava/lang/Object;", Cond.methodLink RJx4a65c 1 yJxc12de_init_da8c8, Cond.instanceMethod yJxc12de_init_da8c8, Cond.initialized RJxc12de]
def wsX2_init_r2 : List Cond := [Cond.code yJxc12de_init_da8c8 cJxc12de_init_da8c8 1 none, Cond.fieldLink RJxc12de 7 "java/util/AbstractList" "modCount" "I", Cond.methodLink RJxc12de 1 yJxa1e45_init_da8c8, Cond.instanceMethod yJxa1e45_init_da8c8, Cond.initialized RJxa1e45, Cond.code yJxa1e45_init_da8c8 cJxa1e45_init_da8c8 1 none, Cond.methodLink RJxa1e45 1 objectInit, Cond.methodLink RX2 39 yX0_init, Cond.instanceMethod yX0_init, Cond.code yX0_init cX0_init 2 none, Cond.methodLink RX0 3 objectInit, Cond.fieldLink RX0 9 "BootStage$Unit" "time" "I", Cond.fieldLink RX0 15 "BootStage$Unit" "retries" "I", Cond.fieldLink RX0 18 "BootStage$Unit" "learned" "I", Cond.fieldLink RX0 21 "BootStage$Unit" "faults" "I", Cond.fieldLink RX0 24 "BootStage$Unit" "isHeld" "Z", Cond.fieldLink RX0 28 "BootStage$Unit" "substitute" "LBootStage$Unit;", Cond.fieldLink RX0 32 "BootStage$Unit" "needs" "I", Cond.fieldLink RX0 35 "BootStage$Unit" "keptWishes" "I", Cond.fieldLink RX0 38 "BootStage$Unit" "state" "I", Cond.fieldLink RX0 41 "BootStage$Unit" "ticksStarting" "I", Cond.fieldLink RX0 44 "BootStage$Unit" "retriesUsed" "I", Cond.fieldLink RX0 47 "BootStage$Unit" "learnedAtBegin" "I", Cond.fieldLink RX0 50 "BootStage$Unit" "number" "I"]
def wsX2_init : List Cond := .code yX2_init cX2_init 2 none :: ((wsX2_init_r1 ++ wsX2_init_r2) ++ wsX20 ++ wsJx4a65c0 ++ wsX00)
def wsX2_checkRange : List Cond := .code yX2_checkRange cX2_checkRange 4 none :: ([.classLink RX2 155 "java/lang/IllegalArgumentException", .initialized "java/lang/IllegalArgumentException"] ++ (vx_atS RX2 159 "java/lang/IllegalArgumentException" ["java/lang/RuntimeException", "java/lang/Exception"]).filter goodWord)
def wsX2_checkNoStart : List Cond := .code yX2_checkNoStart cX2_checkNoStart 1 none :: ([.classLink RX2 46 "java/lang/IllegalStateException", .initialized "java/lang/IllegalStateException", .fieldLink RX2 26 "BootStage" "isGoingOn" "Z"] ++ wsX20 ++ (vx_atS RX2 50 "java/lang/IllegalStateException" ["java/lang/RuntimeException", "java/lang/Exception"]).filter goodWord)
def wsX2_add : List Cond := .code yX2_add cX2_add 4 (some .int) :: ([.classLink RX2 46 "java/lang/IllegalStateException", .initialized "java/lang/IllegalStateException", .fieldLink RX2 15 "BootStage" "count" "I", .fieldLink RX2 11 "BootStage" "rows" "[LBootStage$Unit;", .fieldLink RX2 56 "BootStage$Unit" "time" "I", .fieldLink RX2 59 "BootStage$Unit" "retries" "I", .fieldLink RX2 62 "BootStage$Unit" "number" "I", .methodLink RX2 42 yX2_checkRange, .instanceMethod yX2_checkRange, .selects RX2 yX2_checkRange yX2_checkRange, .initialized RX2, .code yX2_checkRange cX2_checkRange 4 none, .classLink RX2 155 "java/lang/IllegalArgumentException", .initialized "java/lang/IllegalArgumentException", .methodLink RX2 53 yX2_checkNoStart, .instanceMethod yX2_checkNoStart, .selects RX2 yX2_checkNoStart yX2_checkNoStart, .code yX2_checkNoStart cX2_checkNoStart 1 none, .fieldLink RX2 26 "BootStage" "isGoingOn" "Z"] ++ wsX20 ++ wsX00 ++ (vx_atS RX2 50 "java/lang/IllegalStateException" ["java/lang/RuntimeException", "java/lang/Exception"]).filter goodWord ++ (vx_atS RX2 159 "java/lang/IllegalArgumentException" ["java/lang/RuntimeException", "java/lang/Exception"]).filter goodWord)
def wsX2_unitAt : List Cond := .code yX2_unitAt cX2_unitAt 2 (some (.object "BootStage$Unit")) :: ([.classLink RX2 150 "java/lang/IndexOutOfBoundsException", .initialized "java/lang/IndexOutOfBoundsException", .fieldLink RX2 15 "BootStage" "count" "I", .fieldLink RX2 11 "BootStage" "rows" "[LBootStage$Unit;"] ++ wsX20 ++ (vx_atS RX2 154 "java/lang/IndexOutOfBoundsException" ["java/lang/RuntimeException", "java/lang/Exception"]).filter goodWord)
def wsX2_contains : List Cond := .code yX2_contains cX2_contains 3 (some .boolean) :: ([.methodLink RX2 82 yX0_bit, .instanceMethod yX0_bit, .selects RX0 yX0_bit yX0_bit, .initialized RX0, .code yX0_bit cX0_bit 1 (some .int), .fieldLink RX0 50 "BootStage$Unit" "number" "I"] ++ wsX00)
def wsX2_reaches : List Cond := .code yX2_reaches cX2_reaches 8 (some .boolean) :: ([.fieldLink RX2 15 "BootStage" "count" "I", .fieldLink RX2 11 "BootStage" "rows" "[LBootStage$Unit;", .fieldLink RX2 75 "BootStage$Unit" "needs" "I", .fieldLink RX2 103 "BootStage$Unit" "keptWishes" "I", .methodLink RX2 82 yX0_bit, .instanceMethod yX0_bit, .selects RX0 yX0_bit yX0_bit, .initialized RX0, .code yX0_bit cX0_bit 1 (some .int), .fieldLink RX0 50 "BootStage$Unit" "number" "I", .methodLink RX2 78 yX2_contains, .instanceMethod yX2_contains, .selects RX2 yX2_contains yX2_contains, .initialized RX2, .code yX2_contains cX2_contains 3 (some .boolean)] ++ wsX20 ++ wsX00)
def wsX2_need_r1 : List Cond := [Cond.classLink RX2 46 "java/lang/IllegalStateException", Cond.initialized "java/lang/IllegalStateException", Cond.fieldLink RX2 75 "BootStage$Unit" "needs" "I", Cond.methodLink RX2 65 yX2_unitAt, Cond.instanceMethod yX2_unitAt, Cond.selects RX2 yX2_unitAt yX2_unitAt, Cond.initialized RX2, Cond.code yX2_unitAt cX2_unitAt 2 (some (.object "BootStage$Unit")), Cond.classLink RX2 150 "java/lang/IndexOutOfBoundsException", Cond.initialized "java/lang/IndexOutOfBoundsException", Cond.fieldLink RX2 15 "BootStage" "count" "I", Cond.fieldLink RX2 11 "BootStage" "rows" "[LBootStage$Unit;", Cond.methodLink RX2 69 yX2_reaches, Cond.instanceMethod yX2_reaches, Cond.selects RX2 yX2_reaches yX2_reaches, Cond.code yX2_reaches cX2_reaches 8 (some .boolean), Cond.fieldLink RX2 103 "BootStage$Unit" "keptWishes" "I", Cond.methodLink RX2 82 yX0_bit, Cond.instanceMethod yX0_bit, Cond.selects RX0 yX0_bit yX0_bit, Cond.initialized RX0, Cond.code yX0_bit cX0_bit 1 (some .int), Cond.fieldLink RX0 50 "BootStage$Unit" "number" "I", Cond.methodLink RX2 78 yX2_contains]
def wsX2_need_r2 : List Cond := [Cond.instanceMethod yX2_contains, Cond.selects RX2 yX2_contains yX2_contains, Cond.code yX2_contains cX2_contains 3 (some .boolean), Cond.methodLink RX2 53 yX2_checkNoStart, Cond.instanceMethod yX2_checkNoStart, Cond.selects RX2 yX2_checkNoStart yX2_checkNoStart, Cond.code yX2_checkNoStart cX2_checkNoStart 1 none, Cond.fieldLink RX2 26 "BootStage" "isGoingOn" "Z"]
def wsX2_need : List Cond := .code yX2_need cX2_need 6 (some .boolean) :: ((wsX2_need_r1 ++ wsX2_need_r2) ++ wsX00 ++ wsX20 ++ (vx_atS RX2 50 "java/lang/IllegalStateException" ["java/lang/RuntimeException", "java/lang/Exception"]).filter goodWord ++ (vx_atS RX2 154 "java/lang/IndexOutOfBoundsException" ["java/lang/RuntimeException", "java/lang/Exception"]).filter goodWord)
def wsX2_checkDifferent : List Cond := .code yX2_checkDifferent cX2_checkDifferent 3 none :: ([.classLink RX2 155 "java/lang/IllegalArgumentException", .initialized "java/lang/IllegalArgumentException"] ++ (vx_atS RX2 159 "java/lang/IllegalArgumentException" ["java/lang/RuntimeException", "java/lang/Exception"]).filter goodWord)
def wsJx4a65c_size_8abf5 : List Cond := .code yJx4a65c_size_8abf5 cJx4a65c_size_8abf5 1 (some .int) :: ([.fieldLink RJx4a65c 48 "java/util/ArrayList" "size" "I"] ++ wsJx4a65c0)
def wsJ3_checkIndex_8e157 : List Cond := .code yJ3_checkIndex_8e157 cJ3_checkIndex_8e157 3 (some .int) :: ([])
def wsJ15_checkIndex_7cf53 : List Cond := .code yJ15_checkIndex_7cf53 cJ15_checkIndex_7cf53 2 (some .int) :: ([.methodLink RJ15 105 yJ3_checkIndex_8e157, .static yJ3_checkIndex_8e157, .initialized RJ3, .code yJ3_checkIndex_8e157 cJ3_checkIndex_8e157 3 (some .int)])
def wsJx4a65c_elementData_915e3 : List Cond := .code yJx4a65c_elementData_915e3 cJx4a65c_elementData_915e3 2 (some (.object "java/lang/Object")) :: ([.fieldLink RJx4a65c 9 "java/util/ArrayList" "elementData" "[Ljava/lang/Object;"] ++ wsJx4a65c0)
def wsJx4a65c_get_915e3 : List Cond := .code yJx4a65c_get_915e3 cJx4a65c_get_915e3 2 (some (.object "java/lang/Object")) :: ([.fieldLink RJx4a65c 48 "java/util/ArrayList" "size" "I", .methodLink RJx4a65c 118 yJ15_checkIndex_7cf53, .static yJ15_checkIndex_7cf53, .initialized RJ15, .code yJ15_checkIndex_7cf53 cJ15_checkIndex_7cf53 2 (some .int), .methodLink RJ15 105 yJ3_checkIndex_8e157, .static yJ3_checkIndex_8e157, .initialized RJ3, .code yJ3_checkIndex_8e157 cJ3_checkIndex_8e157 3 (some .int), .methodLink RJx4a65c 123 yJx4a65c_elementData_915e3, .instanceMethod yJx4a65c_elementData_915e3, .selects RJx4a65c yJx4a65c_elementData_915e3 yJx4a65c_elementData_915e3, .initialized RJx4a65c, .code yJx4a65c_elementData_915e3 cJx4a65c_elementData_915e3 2 (some (.object "java/lang/Object")), .fieldLink RJx4a65c 9 "java/util/ArrayList" "elementData" "[Ljava/lang/Object;"] ++ wsJx4a65c0)
def wsX2_findWish_r1 : List Cond := [Cond.fieldLink RX2 22 "BootStage" "wishes" "Ljava/util/ArrayList;", Cond.classLink RX2 94 "BootStage$Wish", Cond.fieldLink RX2 171 "BootStage$Wish" "wishing" "LBootStage$Unit;", Cond.fieldLink RX2 174 "BootStage$Wish" "wished" "LBootStage$Unit;", Cond.methodLink RX2 164 yJx4a65c_size_8abf5, Cond.instanceMethod yJx4a65c_size_8abf5, Cond.selects RJx4a65c yJx4a65c_size_8abf5 yJx4a65c_size_8abf5, Cond.initialized RJx4a65c, Cond.code yJx4a65c_size_8abf5 cJx4a65c_size_8abf5 1 (some .int), Cond.fieldLink RJx4a65c 48 "java/util/ArrayList" "size" "I", Cond.methodLink RX2 167 yJx4a65c_get_915e3, Cond.instanceMethod yJx4a65c_get_915e3, Cond.selects RJx4a65c yJx4a65c_get_915e3 yJx4a65c_get_915e3, Cond.code yJx4a65c_get_915e3 cJx4a65c_get_915e3 2 (some (.object "java/lang/Object")), Cond.methodLink RJx4a65c 118 yJ15_checkIndex_7cf53, Cond.static yJ15_checkIndex_7cf53, Cond.initialized RJ15, Cond.code yJ15_checkIndex_7cf53 cJ15_checkIndex_7cf53 2 (some .int), Cond.methodLink RJ15 105 yJ3_checkIndex_8e157, Cond.static yJ3_checkIndex_8e157, Cond.initialized RJ3, Cond.code yJ3_checkIndex_8e157 cJ3_checkIndex_8e157 3 (some .int), Cond.methodLink RJx4a65c 123 yJx4a65c_elementData_915e3, Cond.instanceMethod yJx4a65c_elementData_915e3]
def wsX2_findWish_r2 : List Cond := [Cond.selects RJx4a65c yJx4a65c_elementData_915e3 yJx4a65c_elementData_915e3, Cond.code yJx4a65c_elementData_915e3 cJx4a65c_elementData_915e3 2 (some (.object "java/lang/Object")), Cond.fieldLink RJx4a65c 9 "java/util/ArrayList" "elementData" "[Ljava/lang/Object;"]
def wsX2_findWish : List Cond := .code yX2_findWish cX2_findWish 5 (some (.object "BootStage$Wish")) :: ((wsX2_findWish_r1 ++ wsX2_findWish_r2) ++ wsX20 ++ wsX10 ++ wsJx4a65c0)
def wsJ8_hugeLength_7cf53 : List Cond := .code yJ8_hugeLength_7cf53 cJ8_hugeLength_7cf53 3 (some .int) :: ([.constant RJ8 200 (2147483639)])
def wsJ8_newLength_cabcc : List Cond := .code yJ8_newLength_cabcc cJ8_newLength_cabcc 4 (some .int) :: ([.methodLink RJ8 194 Lib.Math.max.name, .static Lib.Math.max.name, .initialized "java/lang/Math", .code Lib.Math.max.name Lib.Math.max.code 2 (some .int), .constant RJ8 200 (2147483639), .methodLink RJ8 201 yJ8_hugeLength_7cf53, .static yJ8_hugeLength_7cf53, .initialized RJ8, .code yJ8_hugeLength_7cf53 cJ8_hugeLength_7cf53 3 (some .int)])
def wsJ7_copyOf_6403c : List Cond := .code yJ7_copyOf_6403c cJ7_copyOf_6403c 4 (some (.array (.object "java/lang/Object"))) :: ([.classLink RJ7 110 "[Ljava/lang/Object;", .classLink RJ7 2 "java/lang/Object", .methodLink RJ7 304 Lib.Math.min.name, .static Lib.Math.min.name, .initialized "java/lang/Math", .code Lib.Math.min.name Lib.Math.min.code 2 (some .int), .methodLink RJ7 150 arraycopyName, .native arraycopyName, .static arraycopyName, .initialized "java/lang/System"])
def wsJ7_copyOf_1904c : List Cond := .code yJ7_copyOf_1904c cJ7_copyOf_1904c 2 (some (.array (.object "java/lang/Object"))) :: ([.methodLink RJ7 86 ⟨"java/lang/Object", "getClass", "()Ljava/lang/Class;"⟩, .selects "[Ljava/lang/Object;" ⟨"java/lang/Object", "getClass", "()Ljava/lang/Class;"⟩ ⟨"java/lang/Object", "getClass", "()Ljava/lang/Class;"⟩, .instanceMethod ⟨"java/lang/Object", "getClass", "()Ljava/lang/Class;"⟩, .native ⟨"java/lang/Object", "getClass", "()Ljava/lang/Class;"⟩, .methodLink RJ7 300 yJ7_copyOf_6403c, .static yJ7_copyOf_6403c, .initialized RJ7, .code yJ7_copyOf_6403c cJ7_copyOf_6403c 4 (some (.array (.object "java/lang/Object"))), .classLink RJ7 110 "[Ljava/lang/Object;", .classLink RJ7 2 "java/lang/Object", .methodLink RJ7 304 Lib.Math.min.name, .static Lib.Math.min.name, .initialized "java/lang/Math", .code Lib.Math.min.name Lib.Math.min.code 2 (some .int), .methodLink RJ7 150 arraycopyName, .native arraycopyName, .static arraycopyName, .initialized "java/lang/System"])
def wsJx4a65c_grow_92f84_r1 : List Cond := [Cond.fieldLink RJx4a65c 9 "java/util/ArrayList" "elementData" "[Ljava/lang/Object;", Cond.fieldLink RJx4a65c 39 "java/util/ArrayList" "DEFAULTCAPACITY_EMPTY_ELEMENTDATA" "[Ljava/lang/Object;", Cond.methodLink RJx4a65c 79 Lib.Math.max.name, Cond.static Lib.Math.max.name, Cond.initialized "java/lang/Math", Cond.code Lib.Math.max.name Lib.Math.max.code 2 (some .int), Cond.classLink RJx4a65c 7 "java/lang/Object", Cond.methodLink RJx4a65c 73 yJ8_newLength_cabcc, Cond.static yJ8_newLength_cabcc, Cond.initialized RJ8, Cond.code yJ8_newLength_cabcc cJ8_newLength_cabcc 4 (some .int), Cond.methodLink RJ8 194 Lib.Math.max.name, Cond.constant RJ8 200 (2147483639), Cond.methodLink RJ8 201 yJ8_hugeLength_7cf53, Cond.static yJ8_hugeLength_7cf53, Cond.code yJ8_hugeLength_7cf53 cJ8_hugeLength_7cf53 3 (some .int), Cond.methodLink RJx4a65c 66 yJ7_copyOf_1904c, Cond.static yJ7_copyOf_1904c, Cond.initialized RJ7, Cond.code yJ7_copyOf_1904c cJ7_copyOf_1904c 2 (some (.array (.object "java/lang/Object"))), Cond.methodLink RJ7 86 ⟨"java/lang/Object", "getClass", "()Ljava/lang/Class;"⟩, Cond.selects "[Ljava/lang/Object;" ⟨"java/lang/Object", "getClass", "()Ljava/lang/Class;"⟩ ⟨"java/lang/Object", "getClass", "()Ljava/lang/Class;"⟩, Cond.instanceMethod ⟨"java/lang/Object", "getClass", "()Ljava/lang/Class;"⟩, Cond.native ⟨"java/lang/Object", "getClass", "()Ljava/lang/Class;"⟩]
def wsJx4a65c_grow_92f84_r2 : List Cond := [Cond.methodLink RJ7 300 yJ7_copyOf_6403c, Cond.static yJ7_copyOf_6403c, Cond.code yJ7_copyOf_6403c cJ7_copyOf_6403c 4 (some (.array (.object "java/lang/Object"))), Cond.classLink RJ7 110 "[Ljava/lang/Object;", Cond.classLink RJ7 2 "java/lang/Object", Cond.methodLink RJ7 304 Lib.Math.min.name, Cond.static Lib.Math.min.name, Cond.code Lib.Math.min.name Lib.Math.min.code 2 (some .int), Cond.methodLink RJ7 150 arraycopyName, Cond.native arraycopyName, Cond.static arraycopyName, Cond.initialized "java/lang/System"]
def wsJx4a65c_grow_92f84 : List Cond := .code yJx4a65c_grow_92f84 cJx4a65c_grow_92f84 4 (some (.array (.object "java/lang/Object"))) :: ((wsJx4a65c_grow_92f84_r1 ++ wsJx4a65c_grow_92f84_r2) ++ wsJx4a65c0)
def wsJx4a65c_grow_d5877_r1 : List Cond := [Cond.fieldLink RJx4a65c 48 "java/util/ArrayList" "size" "I", Cond.methodLink RJx4a65c 69 yJx4a65c_grow_92f84, Cond.instanceMethod yJx4a65c_grow_92f84, Cond.selects RJx4a65c yJx4a65c_grow_92f84 yJx4a65c_grow_92f84, Cond.initialized RJx4a65c, Cond.code yJx4a65c_grow_92f84 cJx4a65c_grow_92f84 4 (some (.array (.object "java/lang/Object"))), Cond.fieldLink RJx4a65c 9 "java/util/ArrayList" "elementData" "[Ljava/lang/Object;", Cond.fieldLink RJx4a65c 39 "java/util/ArrayList" "DEFAULTCAPACITY_EMPTY_ELEMENTDATA" "[Ljava/lang/Object;", Cond.methodLink RJx4a65c 79 Lib.Math.max.name, Cond.static Lib.Math.max.name, Cond.initialized "java/lang/Math", Cond.code Lib.Math.max.name Lib.Math.max.code 2 (some .int), Cond.classLink RJx4a65c 7 "java/lang/Object", Cond.methodLink RJx4a65c 73 yJ8_newLength_cabcc, Cond.static yJ8_newLength_cabcc, Cond.initialized RJ8, Cond.code yJ8_newLength_cabcc cJ8_newLength_cabcc 4 (some .int), Cond.methodLink RJ8 194 Lib.Math.max.name, Cond.constant RJ8 200 (2147483639), Cond.methodLink RJ8 201 yJ8_hugeLength_7cf53, Cond.static yJ8_hugeLength_7cf53, Cond.code yJ8_hugeLength_7cf53 cJ8_hugeLength_7cf53 3 (some .int), Cond.methodLink RJx4a65c 66 yJ7_copyOf_1904c, Cond.static yJ7_copyOf_1904c]
def wsJx4a65c_grow_d5877_r2 : List Cond := [Cond.initialized RJ7, Cond.code yJ7_copyOf_1904c cJ7_copyOf_1904c 2 (some (.array (.object "java/lang/Object"))), Cond.methodLink RJ7 86 ⟨"java/lang/Object", "getClass", "()Ljava/lang/Class;"⟩, Cond.selects "[Ljava/lang/Object;" ⟨"java/lang/Object", "getClass", "()Ljava/lang/Class;"⟩ ⟨"java/lang/Object", "getClass", "()Ljava/lang/Class;"⟩, Cond.instanceMethod ⟨"java/lang/Object", "getClass", "()Ljava/lang/Class;"⟩, Cond.native ⟨"java/lang/Object", "getClass", "()Ljava/lang/Class;"⟩, Cond.methodLink RJ7 300 yJ7_copyOf_6403c, Cond.static yJ7_copyOf_6403c, Cond.code yJ7_copyOf_6403c cJ7_copyOf_6403c 4 (some (.array (.object "java/lang/Object"))), Cond.classLink RJ7 110 "[Ljava/lang/Object;", Cond.classLink RJ7 2 "java/lang/Object", Cond.methodLink RJ7 304 Lib.Math.min.name, Cond.static Lib.Math.min.name, Cond.code Lib.Math.min.name Lib.Math.min.code 2 (some .int), Cond.methodLink RJ7 150 arraycopyName, Cond.native arraycopyName, Cond.static arraycopyName, Cond.initialized "java/lang/System"]
def wsJx4a65c_grow_d5877 : List Cond := .code yJx4a65c_grow_d5877 cJx4a65c_grow_d5877 1 (some (.array (.object "java/lang/Object"))) :: ((wsJx4a65c_grow_d5877_r1 ++ wsJx4a65c_grow_d5877_r2) ++ wsJx4a65c0)
def wsJx4a65c_add_72be8_r1 : List Cond := [Cond.fieldLink RJx4a65c 48 "java/util/ArrayList" "size" "I", Cond.methodLink RJx4a65c 129 yJx4a65c_grow_d5877, Cond.instanceMethod yJx4a65c_grow_d5877, Cond.selects RJx4a65c yJx4a65c_grow_d5877 yJx4a65c_grow_d5877, Cond.initialized RJx4a65c, Cond.code yJx4a65c_grow_d5877 cJx4a65c_grow_d5877 1 (some (.array (.object "java/lang/Object"))), Cond.methodLink RJx4a65c 69 yJx4a65c_grow_92f84, Cond.instanceMethod yJx4a65c_grow_92f84, Cond.selects RJx4a65c yJx4a65c_grow_92f84 yJx4a65c_grow_92f84, Cond.code yJx4a65c_grow_92f84 cJx4a65c_grow_92f84 4 (some (.array (.object "java/lang/Object"))), Cond.fieldLink RJx4a65c 9 "java/util/ArrayList" "elementData" "[Ljava/lang/Object;", Cond.fieldLink RJx4a65c 39 "java/util/ArrayList" "DEFAULTCAPACITY_EMPTY_ELEMENTDATA" "[Ljava/lang/Object;", Cond.methodLink RJx4a65c 79 Lib.Math.max.name, Cond.static Lib.Math.max.name, Cond.initialized "java/lang/Math", Cond.code Lib.Math.max.name Lib.Math.max.code 2 (some .int), Cond.classLink RJx4a65c 7 "java/lang/Object", Cond.methodLink RJx4a65c 73 yJ8_newLength_cabcc, Cond.static yJ8_newLength_cabcc, Cond.initialized RJ8, Cond.code yJ8_newLength_cabcc cJ8_newLength_cabcc 4 (some .int), Cond.methodLink RJ8 194 Lib.Math.max.name, Cond.constant RJ8 200 (2147483639), Cond.methodLink RJ8 201 yJ8_hugeLength_7cf53]
def wsJx4a65c_add_72be8_r2 : List Cond := [Cond.static yJ8_hugeLength_7cf53, Cond.code yJ8_hugeLength_7cf53 cJ8_hugeLength_7cf53 3 (some .int), Cond.methodLink RJx4a65c 66 yJ7_copyOf_1904c, Cond.static yJ7_copyOf_1904c, Cond.initialized RJ7, Cond.code yJ7_copyOf_1904c cJ7_copyOf_1904c 2 (some (.array (.object "java/lang/Object"))), Cond.methodLink RJ7 86 ⟨"java/lang/Object", "getClass", "()Ljava/lang/Class;"⟩, Cond.selects "[Ljava/lang/Object;" ⟨"java/lang/Object", "getClass", "()Ljava/lang/Class;"⟩ ⟨"java/lang/Object", "getClass", "()Ljava/lang/Class;"⟩, Cond.instanceMethod ⟨"java/lang/Object", "getClass", "()Ljava/lang/Class;"⟩, Cond.native ⟨"java/lang/Object", "getClass", "()Ljava/lang/Class;"⟩, Cond.methodLink RJ7 300 yJ7_copyOf_6403c, Cond.static yJ7_copyOf_6403c, Cond.code yJ7_copyOf_6403c cJ7_copyOf_6403c 4 (some (.array (.object "java/lang/Object"))), Cond.classLink RJ7 110 "[Ljava/lang/Object;", Cond.classLink RJ7 2 "java/lang/Object", Cond.methodLink RJ7 304 Lib.Math.min.name, Cond.static Lib.Math.min.name, Cond.code Lib.Math.min.name Lib.Math.min.code 2 (some .int), Cond.methodLink RJ7 150 arraycopyName, Cond.native arraycopyName, Cond.static arraycopyName, Cond.initialized "java/lang/System"]
def wsJx4a65c_add_72be8 : List Cond := .code yJx4a65c_add_72be8 cJx4a65c_add_72be8 4 none :: ((wsJx4a65c_add_72be8_r1 ++ wsJx4a65c_add_72be8_r2) ++ wsJx4a65c0)
def wsJx4a65c_add_9ea2d_r1 : List Cond := [Cond.fieldLink RJx4a65c 63 "java/util/ArrayList" "modCount" "I", Cond.sameField "java/util/ArrayList" "java/util/AbstractList" "modCount" "I", Cond.fieldLink RJx4a65c 9 "java/util/ArrayList" "elementData" "[Ljava/lang/Object;", Cond.fieldLink RJx4a65c 48 "java/util/ArrayList" "size" "I", Cond.methodLink RJx4a65c 131 yJx4a65c_add_72be8, Cond.instanceMethod yJx4a65c_add_72be8, Cond.selects RJx4a65c yJx4a65c_add_72be8 yJx4a65c_add_72be8, Cond.initialized RJx4a65c, Cond.code yJx4a65c_add_72be8 cJx4a65c_add_72be8 4 none, Cond.methodLink RJx4a65c 129 yJx4a65c_grow_d5877, Cond.instanceMethod yJx4a65c_grow_d5877, Cond.selects RJx4a65c yJx4a65c_grow_d5877 yJx4a65c_grow_d5877, Cond.code yJx4a65c_grow_d5877 cJx4a65c_grow_d5877 1 (some (.array (.object "java/lang/Object"))), Cond.methodLink RJx4a65c 69 yJx4a65c_grow_92f84, Cond.instanceMethod yJx4a65c_grow_92f84, Cond.selects RJx4a65c yJx4a65c_grow_92f84 yJx4a65c_grow_92f84, Cond.code yJx4a65c_grow_92f84 cJx4a65c_grow_92f84 4 (some (.array (.object "java/lang/Object"))), Cond.fieldLink RJx4a65c 39 "java/util/ArrayList" "DEFAULTCAPACITY_EMPTY_ELEMENTDATA" "[Ljava/lang/Object;", Cond.methodLink RJx4a65c 79 Lib.Math.max.name, Cond.static Lib.Math.max.name, Cond.initialized "java/lang/Math", Cond.code Lib.Math.max.name Lib.Math.max.code 2 (some .int), Cond.classLink RJx4a65c 7 "java/lang/Object", Cond.methodLink RJx4a65c 73 yJ8_newLength_cabcc]
def wsJx4a65c_add_9ea2d_r2 : List Cond := [Cond.static yJ8_newLength_cabcc, Cond.initialized RJ8, Cond.code yJ8_newLength_cabcc cJ8_newLength_cabcc 4 (some .int), Cond.methodLink RJ8 194 Lib.Math.max.name, Cond.constant RJ8 200 (2147483639), Cond.methodLink RJ8 201 yJ8_hugeLength_7cf53, Cond.static yJ8_hugeLength_7cf53, Cond.code yJ8_hugeLength_7cf53 cJ8_hugeLength_7cf53 3 (some .int), Cond.methodLink RJx4a65c 66 yJ7_copyOf_1904c, Cond.static yJ7_copyOf_1904c, Cond.initialized RJ7, Cond.code yJ7_copyOf_1904c cJ7_copyOf_1904c 2 (some (.array (.object "java/lang/Object"))), Cond.methodLink RJ7 86 ⟨"java/lang/Object", "getClass", "()Ljava/lang/Class;"⟩, Cond.selects "[Ljava/lang/Object;" ⟨"java/lang/Object", "getClass", "()Ljava/lang/Class;"⟩ ⟨"java/lang/Object", "getClass", "()Ljava/lang/Class;"⟩, Cond.instanceMethod ⟨"java/lang/Object", "getClass", "()Ljava/lang/Class;"⟩, Cond.native ⟨"java/lang/Object", "getClass", "()Ljava/lang/Class;"⟩, Cond.methodLink RJ7 300 yJ7_copyOf_6403c, Cond.static yJ7_copyOf_6403c, Cond.code yJ7_copyOf_6403c cJ7_copyOf_6403c 4 (some (.array (.object "java/lang/Object"))), Cond.classLink RJ7 110 "[Ljava/lang/Object;", Cond.classLink RJ7 2 "java/lang/Object", Cond.methodLink RJ7 304 Lib.Math.min.name, Cond.static Lib.Math.min.name, Cond.code Lib.Math.min.name Lib.Math.min.code 2 (some .int)]
def wsJx4a65c_add_9ea2d_r3 : List Cond := [Cond.methodLink RJ7 150 arraycopyName, Cond.native arraycopyName, Cond.static arraycopyName, Cond.initialized "java/lang/System"]
def wsJx4a65c_add_9ea2d : List Cond := .code yJx4a65c_add_9ea2d cJx4a65c_add_9ea2d 2 (some .boolean) :: ((wsJx4a65c_add_9ea2d_r1 ++ (wsJx4a65c_add_9ea2d_r2 ++ wsJx4a65c_add_9ea2d_r3)) ++ wsJx4a65c0)
def wsX2_wish_r1 : List Cond := [Cond.fieldLink RX2 22 "BootStage" "wishes" "Ljava/util/ArrayList;", Cond.classLink RX2 94 RX1, Cond.instantiable RX1 3, Cond.initialized RX1, Cond.fieldLink RX2 103 "BootStage$Unit" "keptWishes" "I", Cond.fieldLink RX2 106 "BootStage$Wish" "weight" "I", Cond.methodLink RX2 65 yX2_unitAt, Cond.instanceMethod yX2_unitAt, Cond.selects RX2 yX2_unitAt yX2_unitAt, Cond.initialized RX2, Cond.code yX2_unitAt cX2_unitAt 2 (some (.object "BootStage$Unit")), Cond.classLink RX2 150 "java/lang/IndexOutOfBoundsException", Cond.initialized "java/lang/IndexOutOfBoundsException", Cond.fieldLink RX2 15 "BootStage" "count" "I", Cond.fieldLink RX2 11 "BootStage" "rows" "[LBootStage$Unit;", Cond.methodLink RX2 42 yX2_checkRange, Cond.instanceMethod yX2_checkRange, Cond.selects RX2 yX2_checkRange yX2_checkRange, Cond.code yX2_checkRange cX2_checkRange 4 none, Cond.classLink RX2 155 "java/lang/IllegalArgumentException", Cond.initialized "java/lang/IllegalArgumentException", Cond.methodLink RX2 86 yX2_checkDifferent, Cond.instanceMethod yX2_checkDifferent, Cond.selects RX2 yX2_checkDifferent yX2_checkDifferent]
def wsX2_wish_r2 : List Cond := [Cond.code yX2_checkDifferent cX2_checkDifferent 3 none, Cond.methodLink RX2 53 yX2_checkNoStart, Cond.instanceMethod yX2_checkNoStart, Cond.selects RX2 yX2_checkNoStart yX2_checkNoStart, Cond.code yX2_checkNoStart cX2_checkNoStart 1 none, Cond.classLink RX2 46 "java/lang/IllegalStateException", Cond.initialized "java/lang/IllegalStateException", Cond.fieldLink RX2 26 "BootStage" "isGoingOn" "Z", Cond.methodLink RX2 90 yX2_findWish, Cond.instanceMethod yX2_findWish, Cond.selects RX2 yX2_findWish yX2_findWish, Cond.code yX2_findWish cX2_findWish 5 (some (.object "BootStage$Wish")), Cond.classLink RX2 94 "BootStage$Wish", Cond.fieldLink RX2 171 "BootStage$Wish" "wishing" "LBootStage$Unit;", Cond.fieldLink RX2 174 "BootStage$Wish" "wished" "LBootStage$Unit;", Cond.methodLink RX2 164 yJx4a65c_size_8abf5, Cond.instanceMethod yJx4a65c_size_8abf5, Cond.selects RJx4a65c yJx4a65c_size_8abf5 yJx4a65c_size_8abf5, Cond.initialized RJx4a65c, Cond.code yJx4a65c_size_8abf5 cJx4a65c_size_8abf5 1 (some .int), Cond.fieldLink RJx4a65c 48 "java/util/ArrayList" "size" "I", Cond.methodLink RX2 167 yJx4a65c_get_915e3, Cond.instanceMethod yJx4a65c_get_915e3, Cond.selects RJx4a65c yJx4a65c_get_915e3 yJx4a65c_get_915e3]
def wsX2_wish_r3 : List Cond := [Cond.code yJx4a65c_get_915e3 cJx4a65c_get_915e3 2 (some (.object "java/lang/Object")), Cond.methodLink RJx4a65c 118 yJ15_checkIndex_7cf53, Cond.static yJ15_checkIndex_7cf53, Cond.initialized RJ15, Cond.code yJ15_checkIndex_7cf53 cJ15_checkIndex_7cf53 2 (some .int), Cond.methodLink RJ15 105 yJ3_checkIndex_8e157, Cond.static yJ3_checkIndex_8e157, Cond.initialized RJ3, Cond.code yJ3_checkIndex_8e157 cJ3_checkIndex_8e157 3 (some .int), Cond.methodLink RJx4a65c 123 yJx4a65c_elementData_915e3, Cond.instanceMethod yJx4a65c_elementData_915e3, Cond.selects RJx4a65c yJx4a65c_elementData_915e3 yJx4a65c_elementData_915e3, Cond.code yJx4a65c_elementData_915e3 cJx4a65c_elementData_915e3 2 (some (.object "java/lang/Object")), Cond.fieldLink RJx4a65c 9 "java/util/ArrayList" "elementData" "[Ljava/lang/Object;", Cond.methodLink RX2 96 yX1_init, Cond.instanceMethod yX1_init, Cond.code yX1_init cX1_init 4 none, Cond.methodLink RX1 1 objectInit, Cond.instanceMethod objectInit, Cond.code objectInit ⟨#[0xb1]⟩ 1 none, Cond.fieldLink RX1 7 "BootStage$Wish" "wishing" "LBootStage$Unit;", Cond.fieldLink RX1 13 "BootStage$Wish" "wished" "LBootStage$Unit;", Cond.fieldLink RX1 16 "BootStage$Wish" "weight" "I", Cond.methodLink RX2 99 yJx4a65c_add_9ea2d]
def wsX2_wish_r4 : List Cond := [Cond.instanceMethod yJx4a65c_add_9ea2d, Cond.selects RJx4a65c yJx4a65c_add_9ea2d yJx4a65c_add_9ea2d, Cond.code yJx4a65c_add_9ea2d cJx4a65c_add_9ea2d 2 (some .boolean), Cond.fieldLink RJx4a65c 63 "java/util/ArrayList" "modCount" "I", Cond.sameField "java/util/ArrayList" "java/util/AbstractList" "modCount" "I", Cond.methodLink RJx4a65c 131 yJx4a65c_add_72be8, Cond.instanceMethod yJx4a65c_add_72be8, Cond.selects RJx4a65c yJx4a65c_add_72be8 yJx4a65c_add_72be8, Cond.code yJx4a65c_add_72be8 cJx4a65c_add_72be8 4 none, Cond.methodLink RJx4a65c 129 yJx4a65c_grow_d5877, Cond.instanceMethod yJx4a65c_grow_d5877, Cond.selects RJx4a65c yJx4a65c_grow_d5877 yJx4a65c_grow_d5877, Cond.code yJx4a65c_grow_d5877 cJx4a65c_grow_d5877 1 (some (.array (.object "java/lang/Object"))), Cond.methodLink RJx4a65c 69 yJx4a65c_grow_92f84, Cond.instanceMethod yJx4a65c_grow_92f84, Cond.selects RJx4a65c yJx4a65c_grow_92f84 yJx4a65c_grow_92f84, Cond.code yJx4a65c_grow_92f84 cJx4a65c_grow_92f84 4 (some (.array (.object "java/lang/Object"))), Cond.fieldLink RJx4a65c 39 "java/util/ArrayList" "DEFAULTCAPACITY_EMPTY_ELEMENTDATA" "[Ljava/lang/Object;", Cond.methodLink RJx4a65c 79 Lib.Math.max.name, Cond.static Lib.Math.max.name, Cond.initialized "java/lang/Math", Cond.code Lib.Math.max.name Lib.Math.max.code 2 (some .int), Cond.classLink RJx4a65c 7 "java/lang/Object", Cond.methodLink RJx4a65c 73 yJ8_newLength_cabcc]
def wsX2_wish_r5 : List Cond := [Cond.static yJ8_newLength_cabcc, Cond.initialized RJ8, Cond.code yJ8_newLength_cabcc cJ8_newLength_cabcc 4 (some .int), Cond.methodLink RJ8 194 Lib.Math.max.name, Cond.constant RJ8 200 (2147483639), Cond.methodLink RJ8 201 yJ8_hugeLength_7cf53, Cond.static yJ8_hugeLength_7cf53, Cond.code yJ8_hugeLength_7cf53 cJ8_hugeLength_7cf53 3 (some .int), Cond.methodLink RJx4a65c 66 yJ7_copyOf_1904c, Cond.static yJ7_copyOf_1904c, Cond.initialized RJ7, Cond.code yJ7_copyOf_1904c cJ7_copyOf_1904c 2 (some (.array (.object "java/lang/Object"))), Cond.methodLink RJ7 86 ⟨"java/lang/Object", "getClass", "()Ljava/lang/Class;"⟩, Cond.selects "[Ljava/lang/Object;" ⟨"java/lang/Object", "getClass", "()Ljava/lang/Class;"⟩ ⟨"java/lang/Object", "getClass", "()Ljava/lang/Class;"⟩, Cond.instanceMethod ⟨"java/lang/Object", "getClass", "()Ljava/lang/Class;"⟩, Cond.native ⟨"java/lang/Object", "getClass", "()Ljava/lang/Class;"⟩, Cond.methodLink RJ7 300 yJ7_copyOf_6403c, Cond.static yJ7_copyOf_6403c, Cond.code yJ7_copyOf_6403c cJ7_copyOf_6403c 4 (some (.array (.object "java/lang/Object"))), Cond.classLink RJ7 110 "[Ljava/lang/Object;", Cond.classLink RJ7 2 "java/lang/Object", Cond.methodLink RJ7 304 Lib.Math.min.name, Cond.static Lib.Math.min.name, Cond.code Lib.Math.min.name Lib.Math.min.code 2 (some .int)]
def wsX2_wish_r6 : List Cond := [Cond.methodLink RJ7 150 arraycopyName, Cond.native arraycopyName, Cond.static arraycopyName, Cond.initialized "java/lang/System", Cond.methodLink RX2 82 yX0_bit, Cond.instanceMethod yX0_bit, Cond.selects RX0 yX0_bit yX0_bit, Cond.initialized RX0, Cond.code yX0_bit cX0_bit 1 (some .int), Cond.fieldLink RX0 50 "BootStage$Unit" "number" "I"]
def wsX2_wish : List Cond := .code yX2_wish cX2_wish 8 (some .int) :: ((wsX2_wish_r1 ++ (wsX2_wish_r2 ++ (wsX2_wish_r3 ++ (wsX2_wish_r4 ++ (wsX2_wish_r5 ++ wsX2_wish_r6))))) ++ wsX20 ++ wsX10 ++ wsX00 ++ wsJx4a65c0 ++ (vx_atS RX2 154 "java/lang/IndexOutOfBoundsException" ["java/lang/RuntimeException", "java/lang/Exception"]).filter goodWord ++ (vx_atS RX2 159 "java/lang/IllegalArgumentException" ["java/lang/RuntimeException", "java/lang/Exception"]).filter goodWord ++ (vx_atS RX2 50 "java/lang/IllegalStateException" ["java/lang/RuntimeException", "java/lang/Exception"]).filter goodWord)
def wsX2_standIn : List Cond := .code yX2_standIn cX2_standIn 6 (some .int) :: ([.fieldLink RX2 109 "BootStage$Unit" "substitute" "LBootStage$Unit;", .fieldLink RX2 62 "BootStage$Unit" "number" "I", .methodLink RX2 65 yX2_unitAt, .instanceMethod yX2_unitAt, .selects RX2 yX2_unitAt yX2_unitAt, .initialized RX2, .code yX2_unitAt cX2_unitAt 2 (some (.object "BootStage$Unit")), .classLink RX2 150 "java/lang/IndexOutOfBoundsException", .initialized "java/lang/IndexOutOfBoundsException", .fieldLink RX2 15 "BootStage" "count" "I", .fieldLink RX2 11 "BootStage" "rows" "[LBootStage$Unit;", .methodLink RX2 86 yX2_checkDifferent, .instanceMethod yX2_checkDifferent, .selects RX2 yX2_checkDifferent yX2_checkDifferent, .code yX2_checkDifferent cX2_checkDifferent 3 none, .classLink RX2 155 "java/lang/IllegalArgumentException", .initialized "java/lang/IllegalArgumentException", .methodLink RX2 53 yX2_checkNoStart, .instanceMethod yX2_checkNoStart, .selects RX2 yX2_checkNoStart yX2_checkNoStart, .code yX2_checkNoStart cX2_checkNoStart 1 none, .classLink RX2 46 "java/lang/IllegalStateException", .initialized "java/lang/IllegalStateException", .fieldLink RX2 26 "BootStage" "isGoingOn" "Z"] ++ wsX00 ++ wsX20 ++ (vx_atS RX2 154 "java/lang/IndexOutOfBoundsException" ["java/lang/RuntimeException", "java/lang/Exception"]).filter goodWord ++ (vx_atS RX2 159 "java/lang/IllegalArgumentException" ["java/lang/RuntimeException", "java/lang/Exception"]).filter goodWord ++ (vx_atS RX2 50 "java/lang/IllegalStateException" ["java/lang/RuntimeException", "java/lang/Exception"]).filter goodWord)
def wsX2_hold : List Cond := .code yX2_hold cX2_hold 5 (some .boolean) :: ([.fieldLink RX2 113 "BootStage$Unit" "isHeld" "Z", .methodLink RX2 65 yX2_unitAt, .instanceMethod yX2_unitAt, .selects RX2 yX2_unitAt yX2_unitAt, .initialized RX2, .code yX2_unitAt cX2_unitAt 2 (some (.object "BootStage$Unit")), .classLink RX2 150 "java/lang/IndexOutOfBoundsException", .initialized "java/lang/IndexOutOfBoundsException", .fieldLink RX2 15 "BootStage" "count" "I", .fieldLink RX2 11 "BootStage" "rows" "[LBootStage$Unit;", .methodLink RX2 53 yX2_checkNoStart, .instanceMethod yX2_checkNoStart, .selects RX2 yX2_checkNoStart yX2_checkNoStart, .code yX2_checkNoStart cX2_checkNoStart 1 none, .classLink RX2 46 "java/lang/IllegalStateException", .initialized "java/lang/IllegalStateException", .fieldLink RX2 26 "BootStage" "isGoingOn" "Z"] ++ wsX00 ++ wsX20 ++ (vx_atS RX2 154 "java/lang/IndexOutOfBoundsException" ["java/lang/RuntimeException", "java/lang/Exception"]).filter goodWord ++ (vx_atS RX2 50 "java/lang/IllegalStateException" ["java/lang/RuntimeException", "java/lang/Exception"]).filter goodWord)
def wsX2_setFaults : List Cond := .code yX2_setFaults cX2_setFaults 5 (some .int) :: ([.fieldLink RX2 116 "BootStage$Unit" "faults" "I", .methodLink RX2 65 yX2_unitAt, .instanceMethod yX2_unitAt, .selects RX2 yX2_unitAt yX2_unitAt, .initialized RX2, .code yX2_unitAt cX2_unitAt 2 (some (.object "BootStage$Unit")), .classLink RX2 150 "java/lang/IndexOutOfBoundsException", .initialized "java/lang/IndexOutOfBoundsException", .fieldLink RX2 15 "BootStage" "count" "I", .fieldLink RX2 11 "BootStage" "rows" "[LBootStage$Unit;", .methodLink RX2 42 yX2_checkRange, .instanceMethod yX2_checkRange, .selects RX2 yX2_checkRange yX2_checkRange, .code yX2_checkRange cX2_checkRange 4 none, .classLink RX2 155 "java/lang/IllegalArgumentException", .initialized "java/lang/IllegalArgumentException"] ++ wsX00 ++ wsX20 ++ (vx_atS RX2 154 "java/lang/IndexOutOfBoundsException" ["java/lang/RuntimeException", "java/lang/Exception"]).filter goodWord ++ (vx_atS RX2 159 "java/lang/IllegalArgumentException" ["java/lang/RuntimeException", "java/lang/Exception"]).filter goodWord)
def wsX2_setTime : List Cond := .code yX2_setTime cX2_setTime 5 (some .int) :: ([.fieldLink RX2 56 "BootStage$Unit" "time" "I", .methodLink RX2 65 yX2_unitAt, .instanceMethod yX2_unitAt, .selects RX2 yX2_unitAt yX2_unitAt, .initialized RX2, .code yX2_unitAt cX2_unitAt 2 (some (.object "BootStage$Unit")), .classLink RX2 150 "java/lang/IndexOutOfBoundsException", .initialized "java/lang/IndexOutOfBoundsException", .fieldLink RX2 15 "BootStage" "count" "I", .fieldLink RX2 11 "BootStage" "rows" "[LBootStage$Unit;", .methodLink RX2 42 yX2_checkRange, .instanceMethod yX2_checkRange, .selects RX2 yX2_checkRange yX2_checkRange, .code yX2_checkRange cX2_checkRange 4 none, .classLink RX2 155 "java/lang/IllegalArgumentException", .initialized "java/lang/IllegalArgumentException"] ++ wsX00 ++ wsX20 ++ (vx_atS RX2 154 "java/lang/IndexOutOfBoundsException" ["java/lang/RuntimeException", "java/lang/Exception"]).filter goodWord ++ (vx_atS RX2 159 "java/lang/IllegalArgumentException" ["java/lang/RuntimeException", "java/lang/Exception"]).filter goodWord)
def wsX2_units : List Cond := .code yX2_units cX2_units 1 (some .int) :: ([.fieldLink RX2 15 "BootStage" "count" "I"] ++ wsX20)
def wsX2_learned : List Cond := .code yX2_learned cX2_learned 2 (some .int) :: ([.fieldLink RX2 119 "BootStage$Unit" "learned" "I", .methodLink RX2 65 yX2_unitAt, .instanceMethod yX2_unitAt, .selects RX2 yX2_unitAt yX2_unitAt, .initialized RX2, .code yX2_unitAt cX2_unitAt 2 (some (.object "BootStage$Unit")), .classLink RX2 150 "java/lang/IndexOutOfBoundsException", .initialized "java/lang/IndexOutOfBoundsException", .fieldLink RX2 15 "BootStage" "count" "I", .fieldLink RX2 11 "BootStage" "rows" "[LBootStage$Unit;"] ++ wsX00 ++ wsX20 ++ (vx_atS RX2 154 "java/lang/IndexOutOfBoundsException" ["java/lang/RuntimeException", "java/lang/Exception"]).filter goodWord)
def wsX2_faults : List Cond := .code yX2_faults cX2_faults 2 (some .int) :: ([.fieldLink RX2 116 "BootStage$Unit" "faults" "I", .methodLink RX2 65 yX2_unitAt, .instanceMethod yX2_unitAt, .selects RX2 yX2_unitAt yX2_unitAt, .initialized RX2, .code yX2_unitAt cX2_unitAt 2 (some (.object "BootStage$Unit")), .classLink RX2 150 "java/lang/IndexOutOfBoundsException", .initialized "java/lang/IndexOutOfBoundsException", .fieldLink RX2 15 "BootStage" "count" "I", .fieldLink RX2 11 "BootStage" "rows" "[LBootStage$Unit;"] ++ wsX00 ++ wsX20 ++ (vx_atS RX2 154 "java/lang/IndexOutOfBoundsException" ["java/lang/RuntimeException", "java/lang/Exception"]).filter goodWord)
def wsX2_keepAllWishes_r1 : List Cond := [Cond.fieldLink RX2 22 "BootStage" "wishes" "Ljava/util/ArrayList;", Cond.classLink RX2 94 "BootStage$Wish", Cond.fieldLink RX2 171 "BootStage$Wish" "wishing" "LBootStage$Unit;", Cond.fieldLink RX2 103 "BootStage$Unit" "keptWishes" "I", Cond.fieldLink RX2 174 "BootStage$Wish" "wished" "LBootStage$Unit;", Cond.methodLink RX2 164 yJx4a65c_size_8abf5, Cond.instanceMethod yJx4a65c_size_8abf5, Cond.selects RJx4a65c yJx4a65c_size_8abf5 yJx4a65c_size_8abf5, Cond.initialized RJx4a65c, Cond.code yJx4a65c_size_8abf5 cJx4a65c_size_8abf5 1 (some .int), Cond.fieldLink RJx4a65c 48 "java/util/ArrayList" "size" "I", Cond.methodLink RX2 167 yJx4a65c_get_915e3, Cond.instanceMethod yJx4a65c_get_915e3, Cond.selects RJx4a65c yJx4a65c_get_915e3 yJx4a65c_get_915e3, Cond.code yJx4a65c_get_915e3 cJx4a65c_get_915e3 2 (some (.object "java/lang/Object")), Cond.methodLink RJx4a65c 118 yJ15_checkIndex_7cf53, Cond.static yJ15_checkIndex_7cf53, Cond.initialized RJ15, Cond.code yJ15_checkIndex_7cf53 cJ15_checkIndex_7cf53 2 (some .int), Cond.methodLink RJ15 105 yJ3_checkIndex_8e157, Cond.static yJ3_checkIndex_8e157, Cond.initialized RJ3, Cond.code yJ3_checkIndex_8e157 cJ3_checkIndex_8e157 3 (some .int), Cond.methodLink RJx4a65c 123 yJx4a65c_elementData_915e3]
def wsX2_keepAllWishes_r2 : List Cond := [Cond.instanceMethod yJx4a65c_elementData_915e3, Cond.selects RJx4a65c yJx4a65c_elementData_915e3 yJx4a65c_elementData_915e3, Cond.code yJx4a65c_elementData_915e3 cJx4a65c_elementData_915e3 2 (some (.object "java/lang/Object")), Cond.fieldLink RJx4a65c 9 "java/util/ArrayList" "elementData" "[Ljava/lang/Object;", Cond.methodLink RX2 82 yX0_bit, Cond.instanceMethod yX0_bit, Cond.selects RX0 yX0_bit yX0_bit, Cond.initialized RX0, Cond.code yX0_bit cX0_bit 1 (some .int), Cond.fieldLink RX0 50 "BootStage$Unit" "number" "I"]
def wsX2_keepAllWishes : List Cond := .code yX2_keepAllWishes cX2_keepAllWishes 3 none :: ((wsX2_keepAllWishes_r1 ++ wsX2_keepAllWishes_r2) ++ wsX20 ++ wsX10 ++ wsX00 ++ wsJx4a65c0)
def wsX2_cutLoops_r1 : List Cond := [Cond.fieldLink RX2 22 "BootStage" "wishes" "Ljava/util/ArrayList;", Cond.classLink RX2 94 "BootStage$Wish", Cond.fieldLink RX2 106 "BootStage$Wish" "weight" "I", Cond.fieldLink RX2 174 "BootStage$Wish" "wished" "LBootStage$Unit;", Cond.fieldLink RX2 171 "BootStage$Wish" "wishing" "LBootStage$Unit;", Cond.fieldLink RX2 103 "BootStage$Unit" "keptWishes" "I", Cond.methodLink RX2 177 yX2_keepAllWishes, Cond.instanceMethod yX2_keepAllWishes, Cond.selects RX2 yX2_keepAllWishes yX2_keepAllWishes, Cond.initialized RX2, Cond.code yX2_keepAllWishes cX2_keepAllWishes 3 none, Cond.methodLink RX2 164 yJx4a65c_size_8abf5, Cond.instanceMethod yJx4a65c_size_8abf5, Cond.selects RJx4a65c yJx4a65c_size_8abf5 yJx4a65c_size_8abf5, Cond.initialized RJx4a65c, Cond.code yJx4a65c_size_8abf5 cJx4a65c_size_8abf5 1 (some .int), Cond.fieldLink RJx4a65c 48 "java/util/ArrayList" "size" "I", Cond.methodLink RX2 167 yJx4a65c_get_915e3, Cond.instanceMethod yJx4a65c_get_915e3, Cond.selects RJx4a65c yJx4a65c_get_915e3 yJx4a65c_get_915e3, Cond.code yJx4a65c_get_915e3 cJx4a65c_get_915e3 2 (some (.object "java/lang/Object")), Cond.methodLink RJx4a65c 118 yJ15_checkIndex_7cf53, Cond.static yJ15_checkIndex_7cf53, Cond.initialized RJ15]
def wsX2_cutLoops_r2 : List Cond := [Cond.code yJ15_checkIndex_7cf53 cJ15_checkIndex_7cf53 2 (some .int), Cond.methodLink RJ15 105 yJ3_checkIndex_8e157, Cond.static yJ3_checkIndex_8e157, Cond.initialized RJ3, Cond.code yJ3_checkIndex_8e157 cJ3_checkIndex_8e157 3 (some .int), Cond.methodLink RJx4a65c 123 yJx4a65c_elementData_915e3, Cond.instanceMethod yJx4a65c_elementData_915e3, Cond.selects RJx4a65c yJx4a65c_elementData_915e3 yJx4a65c_elementData_915e3, Cond.code yJx4a65c_elementData_915e3 cJx4a65c_elementData_915e3 2 (some (.object "java/lang/Object")), Cond.fieldLink RJx4a65c 9 "java/util/ArrayList" "elementData" "[Ljava/lang/Object;", Cond.methodLink RX2 82 yX0_bit, Cond.instanceMethod yX0_bit, Cond.selects RX0 yX0_bit yX0_bit, Cond.initialized RX0, Cond.code yX0_bit cX0_bit 1 (some .int), Cond.fieldLink RX0 50 "BootStage$Unit" "number" "I", Cond.methodLink RX2 69 yX2_reaches, Cond.instanceMethod yX2_reaches, Cond.selects RX2 yX2_reaches yX2_reaches, Cond.code yX2_reaches cX2_reaches 8 (some .boolean), Cond.fieldLink RX2 15 "BootStage" "count" "I", Cond.fieldLink RX2 11 "BootStage" "rows" "[LBootStage$Unit;", Cond.fieldLink RX2 75 "BootStage$Unit" "needs" "I", Cond.methodLink RX2 78 yX2_contains]
def wsX2_cutLoops_r3 : List Cond := [Cond.instanceMethod yX2_contains, Cond.selects RX2 yX2_contains yX2_contains, Cond.code yX2_contains cX2_contains 3 (some .boolean)]
def wsX2_cutLoops : List Cond := .code yX2_cutLoops cX2_cutLoops 5 (some .int) :: ((wsX2_cutLoops_r1 ++ (wsX2_cutLoops_r2 ++ wsX2_cutLoops_r3)) ++ wsX20 ++ wsX10 ++ wsX00 ++ wsJx4a65c0)
def wsX2_timeDone : List Cond := .code yX2_timeDone cX2_timeDone 3 (some .int) :: ([.fieldLink RX2 15 "BootStage" "count" "I", .fieldLink RX2 11 "BootStage" "rows" "[LBootStage$Unit;", .methodLink RX2 226 yX0_timeDone, .instanceMethod yX0_timeDone, .selects RX0 yX0_timeDone yX0_timeDone, .initialized RX0, .code yX0_timeDone cX0_timeDone 1 (some .int), .fieldLink RX0 38 "BootStage$Unit" "state" "I", .fieldLink RX0 47 "BootStage$Unit" "learnedAtBegin" "I", .fieldLink RX0 41 "BootStage$Unit" "ticksStarting" "I", .methodLink RX0 63 Lib.Math.min.name, .static Lib.Math.min.name, .initialized "java/lang/Math", .code Lib.Math.min.name Lib.Math.min.code 2 (some .int)] ++ wsX20 ++ wsX00)
def wsX2_raiseBar_r1 : List Cond := [Cond.fieldLink RX2 26 "BootStage" "isGoingOn" "Z", Cond.fieldLink RX2 33 "BootStage" "total" "I", Cond.fieldLink RX2 36 "BootStage" "reachedBar" "I", Cond.methodLink RX2 220 Lib.Math.max.name, Cond.static Lib.Math.max.name, Cond.initialized "java/lang/Math", Cond.code Lib.Math.max.name Lib.Math.max.code 2 (some .int), Cond.methodLink RX2 217 yX2_timeDone, Cond.instanceMethod yX2_timeDone, Cond.selects RX2 yX2_timeDone yX2_timeDone, Cond.initialized RX2, Cond.code yX2_timeDone cX2_timeDone 3 (some .int), Cond.fieldLink RX2 15 "BootStage" "count" "I", Cond.fieldLink RX2 11 "BootStage" "rows" "[LBootStage$Unit;", Cond.methodLink RX2 226 yX0_timeDone, Cond.instanceMethod yX0_timeDone, Cond.selects RX0 yX0_timeDone yX0_timeDone, Cond.initialized RX0, Cond.code yX0_timeDone cX0_timeDone 1 (some .int), Cond.fieldLink RX0 38 "BootStage$Unit" "state" "I", Cond.fieldLink RX0 47 "BootStage$Unit" "learnedAtBegin" "I", Cond.fieldLink RX0 41 "BootStage$Unit" "ticksStarting" "I", Cond.methodLink RX0 63 Lib.Math.min.name, Cond.static Lib.Math.min.name]
def wsX2_raiseBar_r2 : List Cond := [Cond.code Lib.Math.min.name Lib.Math.min.code 2 (some .int)]
def wsX2_raiseBar : List Cond := .code yX2_raiseBar cX2_raiseBar 2 none :: ((wsX2_raiseBar_r1 ++ wsX2_raiseBar_r2) ++ wsX20 ++ wsX00)
def wsX2_begin_r1 : List Cond := [Cond.fieldLink RX2 30 "BootStage" "bound" "I", Cond.fieldLink RX2 33 "BootStage" "total" "I", Cond.fieldLink RX2 15 "BootStage" "count" "I", Cond.fieldLink RX2 11 "BootStage" "rows" "[LBootStage$Unit;", Cond.fieldLink RX2 26 "BootStage" "isGoingOn" "Z", Cond.fieldLink RX2 36 "BootStage" "reachedBar" "I", Cond.methodLink RX2 42 yX2_checkRange, Cond.instanceMethod yX2_checkRange, Cond.selects RX2 yX2_checkRange yX2_checkRange, Cond.initialized RX2, Cond.code yX2_checkRange cX2_checkRange 4 none, Cond.classLink RX2 155 "java/lang/IllegalArgumentException", Cond.initialized "java/lang/IllegalArgumentException", Cond.methodLink RX2 53 yX2_checkNoStart, Cond.instanceMethod yX2_checkNoStart, Cond.selects RX2 yX2_checkNoStart yX2_checkNoStart, Cond.code yX2_checkNoStart cX2_checkNoStart 1 none, Cond.classLink RX2 46 "java/lang/IllegalStateException", Cond.initialized "java/lang/IllegalStateException", Cond.methodLink RX2 122 yX2_cutLoops, Cond.instanceMethod yX2_cutLoops, Cond.selects RX2 yX2_cutLoops yX2_cutLoops, Cond.code yX2_cutLoops cX2_cutLoops 5 (some .int), Cond.fieldLink RX2 22 "BootStage" "wishes" "Ljava/util/ArrayList;"]
def wsX2_begin_r2 : List Cond := [Cond.classLink RX2 94 "BootStage$Wish", Cond.fieldLink RX2 106 "BootStage$Wish" "weight" "I", Cond.fieldLink RX2 174 "BootStage$Wish" "wished" "LBootStage$Unit;", Cond.fieldLink RX2 171 "BootStage$Wish" "wishing" "LBootStage$Unit;", Cond.fieldLink RX2 103 "BootStage$Unit" "keptWishes" "I", Cond.methodLink RX2 177 yX2_keepAllWishes, Cond.instanceMethod yX2_keepAllWishes, Cond.selects RX2 yX2_keepAllWishes yX2_keepAllWishes, Cond.code yX2_keepAllWishes cX2_keepAllWishes 3 none, Cond.methodLink RX2 164 yJx4a65c_size_8abf5, Cond.instanceMethod yJx4a65c_size_8abf5, Cond.selects RJx4a65c yJx4a65c_size_8abf5 yJx4a65c_size_8abf5, Cond.initialized RJx4a65c, Cond.code yJx4a65c_size_8abf5 cJx4a65c_size_8abf5 1 (some .int), Cond.fieldLink RJx4a65c 48 "java/util/ArrayList" "size" "I", Cond.methodLink RX2 167 yJx4a65c_get_915e3, Cond.instanceMethod yJx4a65c_get_915e3, Cond.selects RJx4a65c yJx4a65c_get_915e3 yJx4a65c_get_915e3, Cond.code yJx4a65c_get_915e3 cJx4a65c_get_915e3 2 (some (.object "java/lang/Object")), Cond.methodLink RJx4a65c 118 yJ15_checkIndex_7cf53, Cond.static yJ15_checkIndex_7cf53, Cond.initialized RJ15, Cond.code yJ15_checkIndex_7cf53 cJ15_checkIndex_7cf53 2 (some .int), Cond.methodLink RJ15 105 yJ3_checkIndex_8e157]
def wsX2_begin_r3 : List Cond := [Cond.static yJ3_checkIndex_8e157, Cond.initialized RJ3, Cond.code yJ3_checkIndex_8e157 cJ3_checkIndex_8e157 3 (some .int), Cond.methodLink RJx4a65c 123 yJx4a65c_elementData_915e3, Cond.instanceMethod yJx4a65c_elementData_915e3, Cond.selects RJx4a65c yJx4a65c_elementData_915e3 yJx4a65c_elementData_915e3, Cond.code yJx4a65c_elementData_915e3 cJx4a65c_elementData_915e3 2 (some (.object "java/lang/Object")), Cond.fieldLink RJx4a65c 9 "java/util/ArrayList" "elementData" "[Ljava/lang/Object;", Cond.methodLink RX2 82 yX0_bit, Cond.instanceMethod yX0_bit, Cond.selects RX0 yX0_bit yX0_bit, Cond.initialized RX0, Cond.code yX0_bit cX0_bit 1 (some .int), Cond.fieldLink RX0 50 "BootStage$Unit" "number" "I", Cond.methodLink RX2 69 yX2_reaches, Cond.instanceMethod yX2_reaches, Cond.selects RX2 yX2_reaches yX2_reaches, Cond.code yX2_reaches cX2_reaches 8 (some .boolean), Cond.fieldLink RX2 75 "BootStage$Unit" "needs" "I", Cond.methodLink RX2 78 yX2_contains, Cond.instanceMethod yX2_contains, Cond.selects RX2 yX2_contains yX2_contains, Cond.code yX2_contains cX2_contains 3 (some .boolean), Cond.methodLink RX2 125 yX0_resetForStart]
def wsX2_begin_r4 : List Cond := [Cond.instanceMethod yX0_resetForStart, Cond.selects RX0 yX0_resetForStart yX0_resetForStart, Cond.code yX0_resetForStart cX0_resetForStart 1 (some .int), Cond.fieldLink RX0 24 "BootStage$Unit" "isHeld" "Z", Cond.fieldLink RX0 38 "BootStage$Unit" "state" "I", Cond.fieldLink RX0 44 "BootStage$Unit" "retriesUsed" "I", Cond.fieldLink RX0 18 "BootStage$Unit" "learned" "I", Cond.fieldLink RX0 47 "BootStage$Unit" "learnedAtBegin" "I", Cond.methodLink RX2 128 yX2_raiseBar, Cond.instanceMethod yX2_raiseBar, Cond.selects RX2 yX2_raiseBar yX2_raiseBar, Cond.code yX2_raiseBar cX2_raiseBar 2 none, Cond.methodLink RX2 220 Lib.Math.max.name, Cond.static Lib.Math.max.name, Cond.initialized "java/lang/Math", Cond.code Lib.Math.max.name Lib.Math.max.code 2 (some .int), Cond.methodLink RX2 217 yX2_timeDone, Cond.instanceMethod yX2_timeDone, Cond.selects RX2 yX2_timeDone yX2_timeDone, Cond.code yX2_timeDone cX2_timeDone 3 (some .int), Cond.methodLink RX2 226 yX0_timeDone, Cond.instanceMethod yX0_timeDone, Cond.selects RX0 yX0_timeDone yX0_timeDone, Cond.code yX0_timeDone cX0_timeDone 1 (some .int)]
def wsX2_begin_r5 : List Cond := [Cond.fieldLink RX0 41 "BootStage$Unit" "ticksStarting" "I", Cond.methodLink RX0 63 Lib.Math.min.name, Cond.static Lib.Math.min.name, Cond.code Lib.Math.min.name Lib.Math.min.code 2 (some .int)]
def wsX2_begin : List Cond := .code yX2_begin cX2_begin 4 (some .int) :: ((wsX2_begin_r1 ++ (wsX2_begin_r2 ++ (wsX2_begin_r3 ++ (wsX2_begin_r4 ++ wsX2_begin_r5)))) ++ wsX20 ++ wsX10 ++ wsX00 ++ wsJx4a65c0 ++ (vx_atS RX2 159 "java/lang/IllegalArgumentException" ["java/lang/RuntimeException", "java/lang/Exception"]).filter goodWord ++ (vx_atS RX2 50 "java/lang/IllegalStateException" ["java/lang/RuntimeException", "java/lang/Exception"]).filter goodWord)
def wsX2_endStarts : List Cond := .code yX2_endStarts cX2_endStarts 3 none :: ([.fieldLink RX2 15 "BootStage" "count" "I", .fieldLink RX2 11 "BootStage" "rows" "[LBootStage$Unit;", .fieldLink RX2 136 "BootStage$Unit" "state" "I", .fieldLink RX2 199 "BootStage$Unit" "ticksStarting" "I", .fieldLink RX2 56 "BootStage$Unit" "time" "I", .methodLink RX2 202 yX0_comeToEnd, .instanceMethod yX0_comeToEnd, .selects RX0 yX0_comeToEnd yX0_comeToEnd, .initialized RX0, .code yX0_comeToEnd cX0_comeToEnd 1 none, .fieldLink RX0 21 "BootStage$Unit" "faults" "I", .fieldLink RX0 38 "BootStage$Unit" "state" "I", .fieldLink RX0 18 "BootStage$Unit" "learned" "I", .fieldLink RX0 9 "BootStage$Unit" "time" "I", .methodLink RX0 57 Lib.Math.max.name, .static Lib.Math.max.name, .initialized "java/lang/Math", .code Lib.Math.max.name Lib.Math.max.code 2 (some .int), .fieldLink RX0 44 "BootStage$Unit" "retriesUsed" "I", .fieldLink RX0 15 "BootStage$Unit" "retries" "I"] ++ wsX20 ++ wsX00)
def wsX2_lostNeeds : List Cond := .code yX2_lostNeeds cX2_lostNeeds 3 (some .int) :: ([.fieldLink RX2 15 "BootStage" "count" "I", .fieldLink RX2 11 "BootStage" "rows" "[LBootStage$Unit;", .methodLink RX2 184 yX0_isNeedLost, .instanceMethod yX0_isNeedLost, .selects RX0 yX0_isNeedLost yX0_isNeedLost, .initialized RX0, .code yX0_isNeedLost cX0_isNeedLost 1 (some .boolean), .fieldLink RX0 28 "BootStage$Unit" "substitute" "LBootStage$Unit;", .methodLink RX0 53 yX0_isGone, .instanceMethod yX0_isGone, .selects RX0 yX0_isGone yX0_isGone, .code yX0_isGone cX0_isGone 1 (some .boolean), .fieldLink RX0 38 "BootStage$Unit" "state" "I", .methodLink RX2 82 yX0_bit, .instanceMethod yX0_bit, .selects RX0 yX0_bit yX0_bit, .code yX0_bit cX0_bit 1 (some .int), .fieldLink RX0 50 "BootStage$Unit" "number" "I"] ++ wsX20 ++ wsX00)
def wsX2_failWithoutNeeds_r1 : List Cond := [Cond.fieldLink RX2 15 "BootStage" "count" "I", Cond.fieldLink RX2 11 "BootStage" "rows" "[LBootStage$Unit;", Cond.fieldLink RX2 136 "BootStage$Unit" "state" "I", Cond.fieldLink RX2 75 "BootStage$Unit" "needs" "I", Cond.methodLink RX2 205 yX2_lostNeeds, Cond.instanceMethod yX2_lostNeeds, Cond.selects RX2 yX2_lostNeeds yX2_lostNeeds, Cond.initialized RX2, Cond.code yX2_lostNeeds cX2_lostNeeds 3 (some .int), Cond.methodLink RX2 184 yX0_isNeedLost, Cond.instanceMethod yX0_isNeedLost, Cond.selects RX0 yX0_isNeedLost yX0_isNeedLost, Cond.initialized RX0, Cond.code yX0_isNeedLost cX0_isNeedLost 1 (some .boolean), Cond.fieldLink RX0 28 "BootStage$Unit" "substitute" "LBootStage$Unit;", Cond.methodLink RX0 53 yX0_isGone, Cond.instanceMethod yX0_isGone, Cond.selects RX0 yX0_isGone yX0_isGone, Cond.code yX0_isGone cX0_isGone 1 (some .boolean), Cond.fieldLink RX0 38 "BootStage$Unit" "state" "I", Cond.methodLink RX2 82 yX0_bit, Cond.instanceMethod yX0_bit, Cond.selects RX0 yX0_bit yX0_bit, Cond.code yX0_bit cX0_bit 1 (some .int)]
def wsX2_failWithoutNeeds_r2 : List Cond := [Cond.fieldLink RX0 50 "BootStage$Unit" "number" "I"]
def wsX2_failWithoutNeeds : List Cond := .code yX2_failWithoutNeeds cX2_failWithoutNeeds 4 none :: ((wsX2_failWithoutNeeds_r1 ++ wsX2_failWithoutNeeds_r2) ++ wsX20 ++ wsX00)
def wsX2_metNeeds : List Cond := .code yX2_metNeeds cX2_metNeeds 3 (some .int) :: ([.fieldLink RX2 15 "BootStage" "count" "I", .fieldLink RX2 11 "BootStage" "rows" "[LBootStage$Unit;", .methodLink RX2 180 yX0_isNeedMet, .instanceMethod yX0_isNeedMet, .selects RX0 yX0_isNeedMet yX0_isNeedMet, .initialized RX0, .code yX0_isNeedMet cX0_isNeedMet 1 (some .boolean), .fieldLink RX0 38 "BootStage$Unit" "state" "I", .fieldLink RX0 28 "BootStage$Unit" "substitute" "LBootStage$Unit;", .methodLink RX0 53 yX0_isGone, .instanceMethod yX0_isGone, .selects RX0 yX0_isGone yX0_isGone, .code yX0_isGone cX0_isGone 1 (some .boolean), .methodLink RX2 82 yX0_bit, .instanceMethod yX0_bit, .selects RX0 yX0_bit yX0_bit, .code yX0_bit cX0_bit 1 (some .int), .fieldLink RX0 50 "BootStage$Unit" "number" "I"] ++ wsX20 ++ wsX00)
def wsX2_doneWishes : List Cond := .code yX2_doneWishes cX2_doneWishes 3 (some .int) :: ([.fieldLink RX2 15 "BootStage" "count" "I", .fieldLink RX2 11 "BootStage" "rows" "[LBootStage$Unit;", .methodLink RX2 187 yX0_isWishDone, .instanceMethod yX0_isWishDone, .selects RX0 yX0_isWishDone yX0_isWishDone, .initialized RX0, .code yX0_isWishDone cX0_isWishDone 1 (some .boolean), .fieldLink RX0 38 "BootStage$Unit" "state" "I", .methodLink RX0 53 yX0_isGone, .instanceMethod yX0_isGone, .selects RX0 yX0_isGone yX0_isGone, .code yX0_isGone cX0_isGone 1 (some .boolean), .methodLink RX2 82 yX0_bit, .instanceMethod yX0_bit, .selects RX0 yX0_bit yX0_bit, .code yX0_bit cX0_bit 1 (some .int), .fieldLink RX0 50 "BootStage$Unit" "number" "I"] ++ wsX20 ++ wsX00)
def wsX2_countStarting : List Cond := .code yX2_countStarting cX2_countStarting 3 (some .int) :: ([.fieldLink RX2 15 "BootStage" "count" "I", .fieldLink RX2 11 "BootStage" "rows" "[LBootStage$Unit;", .fieldLink RX2 136 "BootStage$Unit" "state" "I"] ++ wsX20 ++ wsX00)
def wsX2_startWaiting_r1 : List Cond := [Cond.fieldLink RX2 15 "BootStage" "count" "I", Cond.fieldLink RX2 30 "BootStage" "bound" "I", Cond.fieldLink RX2 11 "BootStage" "rows" "[LBootStage$Unit;", Cond.fieldLink RX2 136 "BootStage$Unit" "state" "I", Cond.fieldLink RX2 75 "BootStage$Unit" "needs" "I", Cond.fieldLink RX2 103 "BootStage$Unit" "keptWishes" "I", Cond.fieldLink RX2 199 "BootStage$Unit" "ticksStarting" "I", Cond.methodLink RX2 208 yX2_metNeeds, Cond.instanceMethod yX2_metNeeds, Cond.selects RX2 yX2_metNeeds yX2_metNeeds, Cond.initialized RX2, Cond.code yX2_metNeeds cX2_metNeeds 3 (some .int), Cond.methodLink RX2 180 yX0_isNeedMet, Cond.instanceMethod yX0_isNeedMet, Cond.selects RX0 yX0_isNeedMet yX0_isNeedMet, Cond.initialized RX0, Cond.code yX0_isNeedMet cX0_isNeedMet 1 (some .boolean), Cond.fieldLink RX0 38 "BootStage$Unit" "state" "I", Cond.fieldLink RX0 28 "BootStage$Unit" "substitute" "LBootStage$Unit;", Cond.methodLink RX0 53 yX0_isGone, Cond.instanceMethod yX0_isGone, Cond.selects RX0 yX0_isGone yX0_isGone, Cond.code yX0_isGone cX0_isGone 1 (some .boolean), Cond.methodLink RX2 82 yX0_bit]
def wsX2_startWaiting_r2 : List Cond := [Cond.instanceMethod yX0_bit, Cond.selects RX0 yX0_bit yX0_bit, Cond.code yX0_bit cX0_bit 1 (some .int), Cond.fieldLink RX0 50 "BootStage$Unit" "number" "I", Cond.methodLink RX2 211 yX2_doneWishes, Cond.instanceMethod yX2_doneWishes, Cond.selects RX2 yX2_doneWishes yX2_doneWishes, Cond.code yX2_doneWishes cX2_doneWishes 3 (some .int), Cond.methodLink RX2 187 yX0_isWishDone, Cond.instanceMethod yX0_isWishDone, Cond.selects RX0 yX0_isWishDone yX0_isWishDone, Cond.code yX0_isWishDone cX0_isWishDone 1 (some .boolean), Cond.methodLink RX2 214 yX2_countStarting, Cond.instanceMethod yX2_countStarting, Cond.selects RX2 yX2_countStarting yX2_countStarting, Cond.code yX2_countStarting cX2_countStarting 3 (some .int)]
def wsX2_startWaiting : List Cond := .code yX2_startWaiting cX2_startWaiting 6 (some .int) :: ((wsX2_startWaiting_r1 ++ wsX2_startWaiting_r2) ++ wsX20 ++ wsX00)
def wsX2_passOneTick_r1 : List Cond := [Cond.fieldLink RX2 26 "BootStage" "isGoingOn" "Z", Cond.methodLink RX2 190 yX2_endStarts, Cond.instanceMethod yX2_endStarts, Cond.selects RX2 yX2_endStarts yX2_endStarts, Cond.initialized RX2, Cond.code yX2_endStarts cX2_endStarts 3 none, Cond.fieldLink RX2 15 "BootStage" "count" "I", Cond.fieldLink RX2 11 "BootStage" "rows" "[LBootStage$Unit;", Cond.fieldLink RX2 136 "BootStage$Unit" "state" "I", Cond.fieldLink RX2 199 "BootStage$Unit" "ticksStarting" "I", Cond.fieldLink RX2 56 "BootStage$Unit" "time" "I", Cond.methodLink RX2 202 yX0_comeToEnd, Cond.instanceMethod yX0_comeToEnd, Cond.selects RX0 yX0_comeToEnd yX0_comeToEnd, Cond.initialized RX0, Cond.code yX0_comeToEnd cX0_comeToEnd 1 none, Cond.fieldLink RX0 21 "BootStage$Unit" "faults" "I", Cond.fieldLink RX0 38 "BootStage$Unit" "state" "I", Cond.fieldLink RX0 18 "BootStage$Unit" "learned" "I", Cond.fieldLink RX0 9 "BootStage$Unit" "time" "I", Cond.methodLink RX0 57 Lib.Math.max.name, Cond.static Lib.Math.max.name, Cond.initialized "java/lang/Math", Cond.code Lib.Math.max.name Lib.Math.max.code 2 (some .int)]
def wsX2_passOneTick_r2 : List Cond := [Cond.fieldLink RX0 44 "BootStage$Unit" "retriesUsed" "I", Cond.fieldLink RX0 15 "BootStage$Unit" "retries" "I", Cond.methodLink RX2 193 yX2_failWithoutNeeds, Cond.instanceMethod yX2_failWithoutNeeds, Cond.selects RX2 yX2_failWithoutNeeds yX2_failWithoutNeeds, Cond.code yX2_failWithoutNeeds cX2_failWithoutNeeds 4 none, Cond.fieldLink RX2 75 "BootStage$Unit" "needs" "I", Cond.methodLink RX2 205 yX2_lostNeeds, Cond.instanceMethod yX2_lostNeeds, Cond.selects RX2 yX2_lostNeeds yX2_lostNeeds, Cond.code yX2_lostNeeds cX2_lostNeeds 3 (some .int), Cond.methodLink RX2 184 yX0_isNeedLost, Cond.instanceMethod yX0_isNeedLost, Cond.selects RX0 yX0_isNeedLost yX0_isNeedLost, Cond.code yX0_isNeedLost cX0_isNeedLost 1 (some .boolean), Cond.fieldLink RX0 28 "BootStage$Unit" "substitute" "LBootStage$Unit;", Cond.methodLink RX0 53 yX0_isGone, Cond.instanceMethod yX0_isGone, Cond.selects RX0 yX0_isGone yX0_isGone, Cond.code yX0_isGone cX0_isGone 1 (some .boolean), Cond.methodLink RX2 82 yX0_bit, Cond.instanceMethod yX0_bit, Cond.selects RX0 yX0_bit yX0_bit, Cond.code yX0_bit cX0_bit 1 (some .int)]
def wsX2_passOneTick_r3 : List Cond := [Cond.fieldLink RX0 50 "BootStage$Unit" "number" "I", Cond.methodLink RX2 196 yX2_startWaiting, Cond.instanceMethod yX2_startWaiting, Cond.selects RX2 yX2_startWaiting yX2_startWaiting, Cond.code yX2_startWaiting cX2_startWaiting 6 (some .int), Cond.fieldLink RX2 30 "BootStage" "bound" "I", Cond.fieldLink RX2 103 "BootStage$Unit" "keptWishes" "I", Cond.methodLink RX2 208 yX2_metNeeds, Cond.instanceMethod yX2_metNeeds, Cond.selects RX2 yX2_metNeeds yX2_metNeeds, Cond.code yX2_metNeeds cX2_metNeeds 3 (some .int), Cond.methodLink RX2 180 yX0_isNeedMet, Cond.instanceMethod yX0_isNeedMet, Cond.selects RX0 yX0_isNeedMet yX0_isNeedMet, Cond.code yX0_isNeedMet cX0_isNeedMet 1 (some .boolean), Cond.methodLink RX2 211 yX2_doneWishes, Cond.instanceMethod yX2_doneWishes, Cond.selects RX2 yX2_doneWishes yX2_doneWishes, Cond.code yX2_doneWishes cX2_doneWishes 3 (some .int), Cond.methodLink RX2 187 yX0_isWishDone, Cond.instanceMethod yX0_isWishDone, Cond.selects RX0 yX0_isWishDone yX0_isWishDone, Cond.code yX0_isWishDone cX0_isWishDone 1 (some .boolean), Cond.methodLink RX2 214 yX2_countStarting]
def wsX2_passOneTick_r4 : List Cond := [Cond.instanceMethod yX2_countStarting, Cond.selects RX2 yX2_countStarting yX2_countStarting, Cond.code yX2_countStarting cX2_countStarting 3 (some .int), Cond.methodLink RX2 128 yX2_raiseBar, Cond.instanceMethod yX2_raiseBar, Cond.selects RX2 yX2_raiseBar yX2_raiseBar, Cond.code yX2_raiseBar cX2_raiseBar 2 none, Cond.fieldLink RX2 33 "BootStage" "total" "I", Cond.fieldLink RX2 36 "BootStage" "reachedBar" "I", Cond.methodLink RX2 220 Lib.Math.max.name, Cond.methodLink RX2 217 yX2_timeDone, Cond.instanceMethod yX2_timeDone, Cond.selects RX2 yX2_timeDone yX2_timeDone, Cond.code yX2_timeDone cX2_timeDone 3 (some .int), Cond.methodLink RX2 226 yX0_timeDone, Cond.instanceMethod yX0_timeDone, Cond.selects RX0 yX0_timeDone yX0_timeDone, Cond.code yX0_timeDone cX0_timeDone 1 (some .int), Cond.fieldLink RX0 47 "BootStage$Unit" "learnedAtBegin" "I", Cond.fieldLink RX0 41 "BootStage$Unit" "ticksStarting" "I", Cond.methodLink RX0 63 Lib.Math.min.name, Cond.static Lib.Math.min.name, Cond.code Lib.Math.min.name Lib.Math.min.code 2 (some .int)]
def wsX2_passOneTick : List Cond := .code yX2_passOneTick cX2_passOneTick 1 none :: ((wsX2_passOneTick_r1 ++ (wsX2_passOneTick_r2 ++ (wsX2_passOneTick_r3 ++ wsX2_passOneTick_r4))) ++ wsX20 ++ wsX00)
def wsX2_tick_r1 : List Cond := [Cond.classLink RX2 46 "java/lang/IllegalStateException", Cond.initialized "java/lang/IllegalStateException", Cond.fieldLink RX2 26 "BootStage" "isGoingOn" "Z", Cond.methodLink RX2 42 yX2_checkRange, Cond.instanceMethod yX2_checkRange, Cond.selects RX2 yX2_checkRange yX2_checkRange, Cond.initialized RX2, Cond.code yX2_checkRange cX2_checkRange 4 none, Cond.classLink RX2 155 "java/lang/IllegalArgumentException", Cond.initialized "java/lang/IllegalArgumentException", Cond.methodLink RX2 133 yX2_passOneTick, Cond.instanceMethod yX2_passOneTick, Cond.selects RX2 yX2_passOneTick yX2_passOneTick, Cond.code yX2_passOneTick cX2_passOneTick 1 none, Cond.methodLink RX2 190 yX2_endStarts, Cond.instanceMethod yX2_endStarts, Cond.selects RX2 yX2_endStarts yX2_endStarts, Cond.code yX2_endStarts cX2_endStarts 3 none, Cond.fieldLink RX2 15 "BootStage" "count" "I", Cond.fieldLink RX2 11 "BootStage" "rows" "[LBootStage$Unit;", Cond.fieldLink RX2 136 "BootStage$Unit" "state" "I", Cond.fieldLink RX2 199 "BootStage$Unit" "ticksStarting" "I", Cond.fieldLink RX2 56 "BootStage$Unit" "time" "I", Cond.methodLink RX2 202 yX0_comeToEnd]
def wsX2_tick_r2 : List Cond := [Cond.instanceMethod yX0_comeToEnd, Cond.selects RX0 yX0_comeToEnd yX0_comeToEnd, Cond.initialized RX0, Cond.code yX0_comeToEnd cX0_comeToEnd 1 none, Cond.fieldLink RX0 21 "BootStage$Unit" "faults" "I", Cond.fieldLink RX0 38 "BootStage$Unit" "state" "I", Cond.fieldLink RX0 18 "BootStage$Unit" "learned" "I", Cond.fieldLink RX0 9 "BootStage$Unit" "time" "I", Cond.methodLink RX0 57 Lib.Math.max.name, Cond.static Lib.Math.max.name, Cond.initialized "java/lang/Math", Cond.code Lib.Math.max.name Lib.Math.max.code 2 (some .int), Cond.fieldLink RX0 44 "BootStage$Unit" "retriesUsed" "I", Cond.fieldLink RX0 15 "BootStage$Unit" "retries" "I", Cond.methodLink RX2 193 yX2_failWithoutNeeds, Cond.instanceMethod yX2_failWithoutNeeds, Cond.selects RX2 yX2_failWithoutNeeds yX2_failWithoutNeeds, Cond.code yX2_failWithoutNeeds cX2_failWithoutNeeds 4 none, Cond.fieldLink RX2 75 "BootStage$Unit" "needs" "I", Cond.methodLink RX2 205 yX2_lostNeeds, Cond.instanceMethod yX2_lostNeeds, Cond.selects RX2 yX2_lostNeeds yX2_lostNeeds, Cond.code yX2_lostNeeds cX2_lostNeeds 3 (some .int), Cond.methodLink RX2 184 yX0_isNeedLost]
def wsX2_tick_r3 : List Cond := [Cond.instanceMethod yX0_isNeedLost, Cond.selects RX0 yX0_isNeedLost yX0_isNeedLost, Cond.code yX0_isNeedLost cX0_isNeedLost 1 (some .boolean), Cond.fieldLink RX0 28 "BootStage$Unit" "substitute" "LBootStage$Unit;", Cond.methodLink RX0 53 yX0_isGone, Cond.instanceMethod yX0_isGone, Cond.selects RX0 yX0_isGone yX0_isGone, Cond.code yX0_isGone cX0_isGone 1 (some .boolean), Cond.methodLink RX2 82 yX0_bit, Cond.instanceMethod yX0_bit, Cond.selects RX0 yX0_bit yX0_bit, Cond.code yX0_bit cX0_bit 1 (some .int), Cond.fieldLink RX0 50 "BootStage$Unit" "number" "I", Cond.methodLink RX2 196 yX2_startWaiting, Cond.instanceMethod yX2_startWaiting, Cond.selects RX2 yX2_startWaiting yX2_startWaiting, Cond.code yX2_startWaiting cX2_startWaiting 6 (some .int), Cond.fieldLink RX2 30 "BootStage" "bound" "I", Cond.fieldLink RX2 103 "BootStage$Unit" "keptWishes" "I", Cond.methodLink RX2 208 yX2_metNeeds, Cond.instanceMethod yX2_metNeeds, Cond.selects RX2 yX2_metNeeds yX2_metNeeds, Cond.code yX2_metNeeds cX2_metNeeds 3 (some .int), Cond.methodLink RX2 180 yX0_isNeedMet]
def wsX2_tick_r4 : List Cond := [Cond.instanceMethod yX0_isNeedMet, Cond.selects RX0 yX0_isNeedMet yX0_isNeedMet, Cond.code yX0_isNeedMet cX0_isNeedMet 1 (some .boolean), Cond.methodLink RX2 211 yX2_doneWishes, Cond.instanceMethod yX2_doneWishes, Cond.selects RX2 yX2_doneWishes yX2_doneWishes, Cond.code yX2_doneWishes cX2_doneWishes 3 (some .int), Cond.methodLink RX2 187 yX0_isWishDone, Cond.instanceMethod yX0_isWishDone, Cond.selects RX0 yX0_isWishDone yX0_isWishDone, Cond.code yX0_isWishDone cX0_isWishDone 1 (some .boolean), Cond.methodLink RX2 214 yX2_countStarting, Cond.instanceMethod yX2_countStarting, Cond.selects RX2 yX2_countStarting yX2_countStarting, Cond.code yX2_countStarting cX2_countStarting 3 (some .int), Cond.methodLink RX2 128 yX2_raiseBar, Cond.instanceMethod yX2_raiseBar, Cond.selects RX2 yX2_raiseBar yX2_raiseBar, Cond.code yX2_raiseBar cX2_raiseBar 2 none, Cond.fieldLink RX2 33 "BootStage" "total" "I", Cond.fieldLink RX2 36 "BootStage" "reachedBar" "I", Cond.methodLink RX2 220 Lib.Math.max.name, Cond.methodLink RX2 217 yX2_timeDone, Cond.instanceMethod yX2_timeDone]
def wsX2_tick_r5 : List Cond := [Cond.selects RX2 yX2_timeDone yX2_timeDone, Cond.code yX2_timeDone cX2_timeDone 3 (some .int), Cond.methodLink RX2 226 yX0_timeDone, Cond.instanceMethod yX0_timeDone, Cond.selects RX0 yX0_timeDone yX0_timeDone, Cond.code yX0_timeDone cX0_timeDone 1 (some .int), Cond.fieldLink RX0 47 "BootStage$Unit" "learnedAtBegin" "I", Cond.fieldLink RX0 41 "BootStage$Unit" "ticksStarting" "I", Cond.methodLink RX0 63 Lib.Math.min.name, Cond.static Lib.Math.min.name, Cond.code Lib.Math.min.name Lib.Math.min.code 2 (some .int)]
def wsX2_tick : List Cond := .code yX2_tick cX2_tick 3 (some .int) :: ((wsX2_tick_r1 ++ (wsX2_tick_r2 ++ (wsX2_tick_r3 ++ (wsX2_tick_r4 ++ wsX2_tick_r5)))) ++ wsX20 ++ wsX00 ++ (vx_atS RX2 50 "java/lang/IllegalStateException" ["java/lang/RuntimeException", "java/lang/Exception"]).filter goodWord ++ (vx_atS RX2 159 "java/lang/IllegalArgumentException" ["java/lang/RuntimeException", "java/lang/Exception"]).filter goodWord)
def wsX2_goesOn : List Cond := .code yX2_goesOn cX2_goesOn 1 (some .boolean) :: ([.fieldLink RX2 26 "BootStage" "isGoingOn" "Z"] ++ wsX20)
def wsX2_state : List Cond := .code yX2_state cX2_state 2 (some .int) :: ([.fieldLink RX2 136 "BootStage$Unit" "state" "I", .methodLink RX2 65 yX2_unitAt, .instanceMethod yX2_unitAt, .selects RX2 yX2_unitAt yX2_unitAt, .initialized RX2, .code yX2_unitAt cX2_unitAt 2 (some (.object "BootStage$Unit")), .classLink RX2 150 "java/lang/IndexOutOfBoundsException", .initialized "java/lang/IndexOutOfBoundsException", .fieldLink RX2 15 "BootStage" "count" "I", .fieldLink RX2 11 "BootStage" "rows" "[LBootStage$Unit;"] ++ wsX00 ++ wsX20 ++ (vx_atS RX2 154 "java/lang/IndexOutOfBoundsException" ["java/lang/RuntimeException", "java/lang/Exception"]).filter goodWord)
def wsX2_isAwaited_r1 : List Cond := [Cond.fieldLink RX2 75 "BootStage$Unit" "needs" "I", Cond.fieldLink RX2 103 "BootStage$Unit" "keptWishes" "I", Cond.methodLink RX2 78 yX2_contains, Cond.instanceMethod yX2_contains, Cond.selects RX2 yX2_contains yX2_contains, Cond.initialized RX2, Cond.code yX2_contains cX2_contains 3 (some .boolean), Cond.methodLink RX2 82 yX0_bit, Cond.instanceMethod yX0_bit, Cond.selects RX0 yX0_bit yX0_bit, Cond.initialized RX0, Cond.code yX0_bit cX0_bit 1 (some .int), Cond.fieldLink RX0 50 "BootStage$Unit" "number" "I", Cond.methodLink RX2 180 yX0_isNeedMet, Cond.instanceMethod yX0_isNeedMet, Cond.selects RX0 yX0_isNeedMet yX0_isNeedMet, Cond.code yX0_isNeedMet cX0_isNeedMet 1 (some .boolean), Cond.fieldLink RX0 38 "BootStage$Unit" "state" "I", Cond.fieldLink RX0 28 "BootStage$Unit" "substitute" "LBootStage$Unit;", Cond.methodLink RX0 53 yX0_isGone, Cond.instanceMethod yX0_isGone, Cond.selects RX0 yX0_isGone yX0_isGone, Cond.code yX0_isGone cX0_isGone 1 (some .boolean), Cond.methodLink RX2 184 yX0_isNeedLost]
def wsX2_isAwaited_r2 : List Cond := [Cond.instanceMethod yX0_isNeedLost, Cond.selects RX0 yX0_isNeedLost yX0_isNeedLost, Cond.code yX0_isNeedLost cX0_isNeedLost 1 (some .boolean), Cond.methodLink RX2 187 yX0_isWishDone, Cond.instanceMethod yX0_isWishDone, Cond.selects RX0 yX0_isWishDone yX0_isWishDone, Cond.code yX0_isWishDone cX0_isWishDone 1 (some .boolean)]
def wsX2_isAwaited : List Cond := .code yX2_isAwaited cX2_isAwaited 5 (some .boolean) :: ((wsX2_isAwaited_r1 ++ wsX2_isAwaited_r2) ++ wsX00)
def wsX2_waitsFor_r1 : List Cond := [Cond.fieldLink RX2 136 "BootStage$Unit" "state" "I", Cond.fieldLink RX2 15 "BootStage" "count" "I", Cond.fieldLink RX2 11 "BootStage" "rows" "[LBootStage$Unit;", Cond.methodLink RX2 65 yX2_unitAt, Cond.instanceMethod yX2_unitAt, Cond.selects RX2 yX2_unitAt yX2_unitAt, Cond.initialized RX2, Cond.code yX2_unitAt cX2_unitAt 2 (some (.object "BootStage$Unit")), Cond.classLink RX2 150 "java/lang/IndexOutOfBoundsException", Cond.initialized "java/lang/IndexOutOfBoundsException", Cond.methodLink RX2 139 yX2_isAwaited, Cond.instanceMethod yX2_isAwaited, Cond.selects RX2 yX2_isAwaited yX2_isAwaited, Cond.code yX2_isAwaited cX2_isAwaited 5 (some .boolean), Cond.fieldLink RX2 75 "BootStage$Unit" "needs" "I", Cond.fieldLink RX2 103 "BootStage$Unit" "keptWishes" "I", Cond.methodLink RX2 78 yX2_contains, Cond.instanceMethod yX2_contains, Cond.selects RX2 yX2_contains yX2_contains, Cond.code yX2_contains cX2_contains 3 (some .boolean), Cond.methodLink RX2 82 yX0_bit, Cond.instanceMethod yX0_bit, Cond.selects RX0 yX0_bit yX0_bit, Cond.initialized RX0]
def wsX2_waitsFor_r2 : List Cond := [Cond.code yX0_bit cX0_bit 1 (some .int), Cond.fieldLink RX0 50 "BootStage$Unit" "number" "I", Cond.methodLink RX2 180 yX0_isNeedMet, Cond.instanceMethod yX0_isNeedMet, Cond.selects RX0 yX0_isNeedMet yX0_isNeedMet, Cond.code yX0_isNeedMet cX0_isNeedMet 1 (some .boolean), Cond.fieldLink RX0 38 "BootStage$Unit" "state" "I", Cond.fieldLink RX0 28 "BootStage$Unit" "substitute" "LBootStage$Unit;", Cond.methodLink RX0 53 yX0_isGone, Cond.instanceMethod yX0_isGone, Cond.selects RX0 yX0_isGone yX0_isGone, Cond.code yX0_isGone cX0_isGone 1 (some .boolean), Cond.methodLink RX2 184 yX0_isNeedLost, Cond.instanceMethod yX0_isNeedLost, Cond.selects RX0 yX0_isNeedLost yX0_isNeedLost, Cond.code yX0_isNeedLost cX0_isNeedLost 1 (some .boolean), Cond.methodLink RX2 187 yX0_isWishDone, Cond.instanceMethod yX0_isWishDone, Cond.selects RX0 yX0_isWishDone yX0_isWishDone, Cond.code yX0_isWishDone cX0_isWishDone 1 (some .boolean)]
def wsX2_waitsFor : List Cond := .code yX2_waitsFor cX2_waitsFor 4 (some .int) :: ((wsX2_waitsFor_r1 ++ wsX2_waitsFor_r2) ++ wsX00 ++ wsX20 ++ (vx_atS RX2 154 "java/lang/IndexOutOfBoundsException" ["java/lang/RuntimeException", "java/lang/Exception"]).filter goodWord)
def wsX2_bar : List Cond := .code yX2_bar cX2_bar 1 (some .int) :: ([.fieldLink RX2 36 "BootStage" "reachedBar" "I"] ++ wsX20)
def wsX2_ready : List Cond := .code yX2_ready cX2_ready 3 (some .int) :: ([.fieldLink RX2 15 "BootStage" "count" "I", .fieldLink RX2 11 "BootStage" "rows" "[LBootStage$Unit;", .fieldLink RX2 136 "BootStage$Unit" "state" "I", .methodLink RX2 82 yX0_bit, .instanceMethod yX0_bit, .selects RX0 yX0_bit yX0_bit, .initialized RX0, .code yX0_bit cX0_bit 1 (some .int), .fieldLink RX0 50 "BootStage$Unit" "number" "I"] ++ wsX20 ++ wsX00)
def wsX2_ableAlone : List Cond := .code yX2_ableAlone cX2_ableAlone 4 (some .int) :: ([.fieldLink RX2 15 "BootStage" "count" "I", .fieldLink RX2 11 "BootStage" "rows" "[LBootStage$Unit;", .fieldLink RX2 113 "BootStage$Unit" "isHeld" "Z", .fieldLink RX2 116 "BootStage$Unit" "faults" "I", .fieldLink RX2 59 "BootStage$Unit" "retries" "I", .methodLink RX2 82 yX0_bit, .instanceMethod yX0_bit, .selects RX0 yX0_bit yX0_bit, .initialized RX0, .code yX0_bit cX0_bit 1 (some .int), .fieldLink RX0 50 "BootStage$Unit" "number" "I"] ++ wsX20 ++ wsX00)
def wsX2_keepSupplied : List Cond := .code yX2_keepSupplied cX2_keepSupplied 6 (some .int) :: ([.fieldLink RX2 15 "BootStage" "count" "I", .fieldLink RX2 11 "BootStage" "rows" "[LBootStage$Unit;", .fieldLink RX2 109 "BootStage$Unit" "substitute" "LBootStage$Unit;", .fieldLink RX2 75 "BootStage$Unit" "needs" "I", .methodLink RX2 78 yX2_contains, .instanceMethod yX2_contains, .selects RX2 yX2_contains yX2_contains, .initialized RX2, .code yX2_contains cX2_contains 3 (some .boolean), .methodLink RX2 82 yX0_bit, .instanceMethod yX0_bit, .selects RX0 yX0_bit yX0_bit, .initialized RX0, .code yX0_bit cX0_bit 1 (some .int), .fieldLink RX0 50 "BootStage$Unit" "number" "I"] ++ wsX20 ++ wsX00)
def wsX2_canRun_r1 : List Cond := [Cond.fieldLink RX2 15 "BootStage" "count" "I", Cond.methodLink RX2 143 yX2_ableAlone, Cond.instanceMethod yX2_ableAlone, Cond.selects RX2 yX2_ableAlone yX2_ableAlone, Cond.initialized RX2, Cond.code yX2_ableAlone cX2_ableAlone 4 (some .int), Cond.fieldLink RX2 11 "BootStage" "rows" "[LBootStage$Unit;", Cond.fieldLink RX2 113 "BootStage$Unit" "isHeld" "Z", Cond.fieldLink RX2 116 "BootStage$Unit" "faults" "I", Cond.fieldLink RX2 59 "BootStage$Unit" "retries" "I", Cond.methodLink RX2 82 yX0_bit, Cond.instanceMethod yX0_bit, Cond.selects RX0 yX0_bit yX0_bit, Cond.initialized RX0, Cond.code yX0_bit cX0_bit 1 (some .int), Cond.fieldLink RX0 50 "BootStage$Unit" "number" "I", Cond.methodLink RX2 146 yX2_keepSupplied, Cond.instanceMethod yX2_keepSupplied, Cond.selects RX2 yX2_keepSupplied yX2_keepSupplied, Cond.code yX2_keepSupplied cX2_keepSupplied 6 (some .int), Cond.fieldLink RX2 109 "BootStage$Unit" "substitute" "LBootStage$Unit;", Cond.fieldLink RX2 75 "BootStage$Unit" "needs" "I", Cond.methodLink RX2 78 yX2_contains, Cond.instanceMethod yX2_contains]
def wsX2_canRun_r2 : List Cond := [Cond.selects RX2 yX2_contains yX2_contains, Cond.code yX2_contains cX2_contains 3 (some .boolean)]
def wsX2_canRun : List Cond := .code yX2_canRun cX2_canRun 4 (some .int) :: ((wsX2_canRun_r1 ++ wsX2_canRun_r2) ++ wsX20 ++ wsX00)
def wsX3_init : List Cond := .code yX3_init cX3_init 1 none :: ([.methodLink RX3 1 objectInit, .instanceMethod objectInit, .code objectInit ⟨#[0xb1]⟩ 1 none, .arrayClass .int, .fieldLink RX3 7 "BootStageModel" "times" "[I", .fieldLink RX3 13 "BootStageModel" "learned" "[I", .fieldLink RX3 16 "BootStageModel" "retries" "[I", .fieldLink RX3 19 "BootStageModel" "faults" "[I", .fieldLink RX3 22 "BootStageModel" "standIns" "[I", .arrayClass .boolean, .fieldLink RX3 25 "BootStageModel" "isHeld" "[Z", .fieldLink RX3 29 "BootStageModel" "needs" "[Z", .fieldLink RX3 32 "BootStageModel" "weights" "[I", .fieldLink RX3 35 "BootStageModel" "toldAt" "[I", .fieldLink RX3 38 "BootStageModel" "isCut" "[Z", .fieldLink RX3 41 "BootStageModel" "states" "[I", .fieldLink RX3 44 "BootStageModel" "ticks" "[I", .fieldLink RX3 47 "BootStageModel" "used" "[I", .fieldLink RX3 50 "BootStageModel" "counted" "[I", .fieldLink RX3 53 "BootStageModel" "isReached" "[Z"] ++ wsX30)
def wsX3_thrown : List Cond := .code yX3_thrown cX3_thrown 1 (some .int) :: ([.fieldLink RX3 56 "BootStageModel" "thrown" "I"] ++ wsX30)
def wsX3_goes : List Cond := .code yX3_goes cX3_goes 2 (some .boolean) :: ([.fieldLink RX3 56 "BootStageModel" "thrown" "I"] ++ wsX30)
def wsX3_isIn : List Cond := .code yX3_isIn cX3_isIn 3 (some .boolean) :: ([])
def wsX3_isUnit : List Cond := .code yX3_isUnit cX3_isUnit 2 (some .boolean) :: ([.fieldLink RX3 60 "BootStageModel" "units" "I", .methodLink RX3 63 yX3_isIn, .static yX3_isIn, .initialized RX3, .code yX3_isIn cX3_isIn 3 (some .boolean)] ++ wsX30)
def wsX3_edge : List Cond := .code yX3_edge cX3_edge 2 (some .int) :: ([])
def wsX3_add : List Cond := .code yX3_add cX3_add 3 (some .int) :: ([.fieldLink RX3 60 "BootStageModel" "units" "I", .fieldLink RX3 67 "BootStageModel" "goesOn" "Z", .fieldLink RX3 7 "BootStageModel" "times" "[I", .fieldLink RX3 16 "BootStageModel" "retries" "[I", .fieldLink RX3 13 "BootStageModel" "learned" "[I", .fieldLink RX3 22 "BootStageModel" "standIns" "[I", .fieldLink RX3 41 "BootStageModel" "states" "[I", .methodLink RX3 63 yX3_isIn, .static yX3_isIn, .initialized RX3, .code yX3_isIn cX3_isIn 3 (some .boolean), .methodLink RX3 71 yX3_goes, .instanceMethod yX3_goes, .selects RX3 yX3_goes yX3_goes, .code yX3_goes cX3_goes 2 (some .boolean), .fieldLink RX3 56 "BootStageModel" "thrown" "I"] ++ wsX30)
def wsX3_reaches : List Cond := .code yX3_reaches cX3_reaches 8 (some .boolean) :: ([.fieldLink RX3 60 "BootStageModel" "units" "I", .fieldLink RX3 53 "BootStageModel" "isReached" "[Z", .fieldLink RX3 29 "BootStageModel" "needs" "[Z", .fieldLink RX3 32 "BootStageModel" "weights" "[I", .fieldLink RX3 38 "BootStageModel" "isCut" "[Z", .methodLink RX3 75 yX3_edge, .static yX3_edge, .initialized RX3, .code yX3_edge cX3_edge 2 (some .int)] ++ wsX30)
def wsX3_need_r1 : List Cond := [Cond.fieldLink RX3 67 "BootStageModel" "goesOn" "Z", Cond.fieldLink RX3 29 "BootStageModel" "needs" "[Z", Cond.methodLink RX3 79 yX3_isUnit, Cond.instanceMethod yX3_isUnit, Cond.selects RX3 yX3_isUnit yX3_isUnit, Cond.initialized RX3, Cond.code yX3_isUnit cX3_isUnit 2 (some .boolean), Cond.fieldLink RX3 60 "BootStageModel" "units" "I", Cond.methodLink RX3 63 yX3_isIn, Cond.static yX3_isIn, Cond.code yX3_isIn cX3_isIn 3 (some .boolean), Cond.methodLink RX3 71 yX3_goes, Cond.instanceMethod yX3_goes, Cond.selects RX3 yX3_goes yX3_goes, Cond.code yX3_goes cX3_goes 2 (some .boolean), Cond.fieldLink RX3 56 "BootStageModel" "thrown" "I", Cond.methodLink RX3 82 yX3_reaches, Cond.instanceMethod yX3_reaches, Cond.selects RX3 yX3_reaches yX3_reaches, Cond.code yX3_reaches cX3_reaches 8 (some .boolean), Cond.fieldLink RX3 53 "BootStageModel" "isReached" "[Z", Cond.fieldLink RX3 32 "BootStageModel" "weights" "[I", Cond.fieldLink RX3 38 "BootStageModel" "isCut" "[Z", Cond.methodLink RX3 75 yX3_edge]
def wsX3_need_r2 : List Cond := [Cond.static yX3_edge, Cond.code yX3_edge cX3_edge 2 (some .int)]
def wsX3_need : List Cond := .code yX3_need cX3_need 4 (some .boolean) :: ((wsX3_need_r1 ++ wsX3_need_r2) ++ wsX30)
def wsX3_wish : List Cond := .code yX3_wish cX3_wish 6 (some .int) :: ([.fieldLink RX3 67 "BootStageModel" "goesOn" "Z", .fieldLink RX3 32 "BootStageModel" "weights" "[I", .fieldLink RX3 35 "BootStageModel" "toldAt" "[I", .fieldLink RX3 86 "BootStageModel" "told" "I", .methodLink RX3 79 yX3_isUnit, .instanceMethod yX3_isUnit, .selects RX3 yX3_isUnit yX3_isUnit, .initialized RX3, .code yX3_isUnit cX3_isUnit 2 (some .boolean), .fieldLink RX3 60 "BootStageModel" "units" "I", .methodLink RX3 63 yX3_isIn, .static yX3_isIn, .code yX3_isIn cX3_isIn 3 (some .boolean), .methodLink RX3 71 yX3_goes, .instanceMethod yX3_goes, .selects RX3 yX3_goes yX3_goes, .code yX3_goes cX3_goes 2 (some .boolean), .fieldLink RX3 56 "BootStageModel" "thrown" "I", .methodLink RX3 75 yX3_edge, .static yX3_edge, .code yX3_edge cX3_edge 2 (some .int)] ++ wsX30)
def wsX3_standIn : List Cond := .code yX3_standIn cX3_standIn 5 (some .int) :: ([.fieldLink RX3 67 "BootStageModel" "goesOn" "Z", .fieldLink RX3 22 "BootStageModel" "standIns" "[I", .methodLink RX3 79 yX3_isUnit, .instanceMethod yX3_isUnit, .selects RX3 yX3_isUnit yX3_isUnit, .initialized RX3, .code yX3_isUnit cX3_isUnit 2 (some .boolean), .fieldLink RX3 60 "BootStageModel" "units" "I", .methodLink RX3 63 yX3_isIn, .static yX3_isIn, .code yX3_isIn cX3_isIn 3 (some .boolean), .methodLink RX3 71 yX3_goes, .instanceMethod yX3_goes, .selects RX3 yX3_goes yX3_goes, .code yX3_goes cX3_goes 2 (some .boolean), .fieldLink RX3 56 "BootStageModel" "thrown" "I"] ++ wsX30)
def wsX3_hold : List Cond := .code yX3_hold cX3_hold 4 (some .boolean) :: ([.fieldLink RX3 67 "BootStageModel" "goesOn" "Z", .fieldLink RX3 25 "BootStageModel" "isHeld" "[Z", .methodLink RX3 79 yX3_isUnit, .instanceMethod yX3_isUnit, .selects RX3 yX3_isUnit yX3_isUnit, .initialized RX3, .code yX3_isUnit cX3_isUnit 2 (some .boolean), .fieldLink RX3 60 "BootStageModel" "units" "I", .methodLink RX3 63 yX3_isIn, .static yX3_isIn, .code yX3_isIn cX3_isIn 3 (some .boolean), .methodLink RX3 71 yX3_goes, .instanceMethod yX3_goes, .selects RX3 yX3_goes yX3_goes, .code yX3_goes cX3_goes 2 (some .boolean), .fieldLink RX3 56 "BootStageModel" "thrown" "I"] ++ wsX30)
def wsX3_setFaults : List Cond := .code yX3_setFaults cX3_setFaults 4 (some .int) :: ([.fieldLink RX3 19 "BootStageModel" "faults" "[I", .methodLink RX3 79 yX3_isUnit, .instanceMethod yX3_isUnit, .selects RX3 yX3_isUnit yX3_isUnit, .initialized RX3, .code yX3_isUnit cX3_isUnit 2 (some .boolean), .fieldLink RX3 60 "BootStageModel" "units" "I", .methodLink RX3 63 yX3_isIn, .static yX3_isIn, .code yX3_isIn cX3_isIn 3 (some .boolean), .methodLink RX3 71 yX3_goes, .instanceMethod yX3_goes, .selects RX3 yX3_goes yX3_goes, .code yX3_goes cX3_goes 2 (some .boolean), .fieldLink RX3 56 "BootStageModel" "thrown" "I"] ++ wsX30)
def wsX3_setTime : List Cond := .code yX3_setTime cX3_setTime 4 (some .int) :: ([.fieldLink RX3 7 "BootStageModel" "times" "[I", .methodLink RX3 79 yX3_isUnit, .instanceMethod yX3_isUnit, .selects RX3 yX3_isUnit yX3_isUnit, .initialized RX3, .code yX3_isUnit cX3_isUnit 2 (some .boolean), .fieldLink RX3 60 "BootStageModel" "units" "I", .methodLink RX3 63 yX3_isIn, .static yX3_isIn, .code yX3_isIn cX3_isIn 3 (some .boolean), .methodLink RX3 71 yX3_goes, .instanceMethod yX3_goes, .selects RX3 yX3_goes yX3_goes, .code yX3_goes cX3_goes 2 (some .boolean), .fieldLink RX3 56 "BootStageModel" "thrown" "I"] ++ wsX30)
def wsX3_units : List Cond := .code yX3_units cX3_units 1 (some .int) :: ([.fieldLink RX3 56 "BootStageModel" "thrown" "I", .fieldLink RX3 60 "BootStageModel" "units" "I"] ++ wsX30)
def wsX3_asks : List Cond := .code yX3_asks cX3_asks 2 (some .boolean) :: ([.methodLink RX3 79 yX3_isUnit, .instanceMethod yX3_isUnit, .selects RX3 yX3_isUnit yX3_isUnit, .initialized RX3, .code yX3_isUnit cX3_isUnit 2 (some .boolean), .fieldLink RX3 60 "BootStageModel" "units" "I", .methodLink RX3 63 yX3_isIn, .static yX3_isIn, .code yX3_isIn cX3_isIn 3 (some .boolean), .methodLink RX3 71 yX3_goes, .instanceMethod yX3_goes, .selects RX3 yX3_goes yX3_goes, .code yX3_goes cX3_goes 2 (some .boolean), .fieldLink RX3 56 "BootStageModel" "thrown" "I"] ++ wsX30)
def wsX3_learned : List Cond := .code yX3_learned cX3_learned 2 (some .int) :: ([.fieldLink RX3 13 "BootStageModel" "learned" "[I", .methodLink RX3 89 yX3_asks, .instanceMethod yX3_asks, .selects RX3 yX3_asks yX3_asks, .initialized RX3, .code yX3_asks cX3_asks 2 (some .boolean), .methodLink RX3 79 yX3_isUnit, .instanceMethod yX3_isUnit, .selects RX3 yX3_isUnit yX3_isUnit, .code yX3_isUnit cX3_isUnit 2 (some .boolean), .fieldLink RX3 60 "BootStageModel" "units" "I", .methodLink RX3 63 yX3_isIn, .static yX3_isIn, .code yX3_isIn cX3_isIn 3 (some .boolean), .methodLink RX3 71 yX3_goes, .instanceMethod yX3_goes, .selects RX3 yX3_goes yX3_goes, .code yX3_goes cX3_goes 2 (some .boolean), .fieldLink RX3 56 "BootStageModel" "thrown" "I"] ++ wsX30)
def wsX3_faults : List Cond := .code yX3_faults cX3_faults 2 (some .int) :: ([.fieldLink RX3 19 "BootStageModel" "faults" "[I", .methodLink RX3 89 yX3_asks, .instanceMethod yX3_asks, .selects RX3 yX3_asks yX3_asks, .initialized RX3, .code yX3_asks cX3_asks 2 (some .boolean), .methodLink RX3 79 yX3_isUnit, .instanceMethod yX3_isUnit, .selects RX3 yX3_isUnit yX3_isUnit, .code yX3_isUnit cX3_isUnit 2 (some .boolean), .fieldLink RX3 60 "BootStageModel" "units" "I", .methodLink RX3 63 yX3_isIn, .static yX3_isIn, .code yX3_isIn cX3_isIn 3 (some .boolean), .methodLink RX3 71 yX3_goes, .instanceMethod yX3_goes, .selects RX3 yX3_goes yX3_goes, .code yX3_goes cX3_goes 2 (some .boolean), .fieldLink RX3 56 "BootStageModel" "thrown" "I"] ++ wsX30)
def wsX3_weakest : List Cond := .code yX3_weakest cX3_weakest 5 (some .int) :: ([.fieldLink RX3 60 "BootStageModel" "units" "I", .fieldLink RX3 32 "BootStageModel" "weights" "[I", .fieldLink RX3 38 "BootStageModel" "isCut" "[Z", .fieldLink RX3 35 "BootStageModel" "toldAt" "[I", .methodLink RX3 75 yX3_edge, .static yX3_edge, .initialized RX3, .code yX3_edge cX3_edge 2 (some .int), .methodLink RX3 82 yX3_reaches, .instanceMethod yX3_reaches, .selects RX3 yX3_reaches yX3_reaches, .code yX3_reaches cX3_reaches 8 (some .boolean), .fieldLink RX3 53 "BootStageModel" "isReached" "[Z", .fieldLink RX3 29 "BootStageModel" "needs" "[Z"] ++ wsX30)
def wsX3_raised : List Cond := .code yX3_raised cX3_raised 4 (some .int) :: ([.fieldLink RX3 60 "BootStageModel" "units" "I", .fieldLink RX3 44 "BootStageModel" "ticks" "[I", .fieldLink RX3 50 "BootStageModel" "counted" "[I", .fieldLink RX3 41 "BootStageModel" "states" "[I", .fieldLink RX3 102 "BootStageModel" "total" "I", .fieldLink RX3 105 "BootStageModel" "bar" "I"] ++ wsX30)
def wsX3_begin_r1 : List Cond := [Cond.fieldLink RX3 67 "BootStageModel" "goesOn" "Z", Cond.fieldLink RX3 38 "BootStageModel" "isCut" "[Z", Cond.fieldLink RX3 96 "BootStageModel" "wasBegun" "Z", Cond.fieldLink RX3 99 "BootStageModel" "bound" "I", Cond.fieldLink RX3 102 "BootStageModel" "total" "I", Cond.fieldLink RX3 60 "BootStageModel" "units" "I", Cond.fieldLink RX3 41 "BootStageModel" "states" "[I", Cond.fieldLink RX3 25 "BootStageModel" "isHeld" "[Z", Cond.fieldLink RX3 44 "BootStageModel" "ticks" "[I", Cond.fieldLink RX3 47 "BootStageModel" "used" "[I", Cond.fieldLink RX3 50 "BootStageModel" "counted" "[I", Cond.fieldLink RX3 13 "BootStageModel" "learned" "[I", Cond.fieldLink RX3 105 "BootStageModel" "bar" "I", Cond.methodLink RX3 63 yX3_isIn, Cond.static yX3_isIn, Cond.initialized RX3, Cond.code yX3_isIn cX3_isIn 3 (some .boolean), Cond.methodLink RX3 71 yX3_goes, Cond.instanceMethod yX3_goes, Cond.selects RX3 yX3_goes yX3_goes, Cond.code yX3_goes cX3_goes 2 (some .boolean), Cond.fieldLink RX3 56 "BootStageModel" "thrown" "I", Cond.methodLink RX3 92 yX3_weakest, Cond.instanceMethod yX3_weakest]
def wsX3_begin_r2 : List Cond := [Cond.selects RX3 yX3_weakest yX3_weakest, Cond.code yX3_weakest cX3_weakest 5 (some .int), Cond.fieldLink RX3 32 "BootStageModel" "weights" "[I", Cond.fieldLink RX3 35 "BootStageModel" "toldAt" "[I", Cond.methodLink RX3 75 yX3_edge, Cond.static yX3_edge, Cond.code yX3_edge cX3_edge 2 (some .int), Cond.methodLink RX3 82 yX3_reaches, Cond.instanceMethod yX3_reaches, Cond.selects RX3 yX3_reaches yX3_reaches, Cond.code yX3_reaches cX3_reaches 8 (some .boolean), Cond.fieldLink RX3 53 "BootStageModel" "isReached" "[Z", Cond.fieldLink RX3 29 "BootStageModel" "needs" "[Z", Cond.methodLink RX3 108 yX3_raised, Cond.instanceMethod yX3_raised, Cond.selects RX3 yX3_raised yX3_raised, Cond.code yX3_raised cX3_raised 4 (some .int)]
def wsX3_begin : List Cond := .code yX3_begin cX3_begin 4 (some .int) :: ((wsX3_begin_r1 ++ wsX3_begin_r2) ++ wsX30)
def wsX3_isOff : List Cond := .code yX3_isOff cX3_isOff 2 (some .boolean) :: ([.fieldLink RX3 41 "BootStageModel" "states" "[I"] ++ wsX30)
def wsX3_isMet : List Cond := .code yX3_isMet cX3_isMet 3 (some .boolean) :: ([.fieldLink RX3 22 "BootStageModel" "standIns" "[I", .fieldLink RX3 41 "BootStageModel" "states" "[I", .methodLink RX3 111 yX3_isOff, .instanceMethod yX3_isOff, .selects RX3 yX3_isOff yX3_isOff, .initialized RX3, .code yX3_isOff cX3_isOff 2 (some .boolean)] ++ wsX30)
def wsX3_isLost : List Cond := .code yX3_isLost cX3_isLost 3 (some .boolean) :: ([.fieldLink RX3 22 "BootStageModel" "standIns" "[I", .methodLink RX3 111 yX3_isOff, .instanceMethod yX3_isOff, .selects RX3 yX3_isOff yX3_isOff, .initialized RX3, .code yX3_isOff cX3_isOff 2 (some .boolean), .fieldLink RX3 41 "BootStageModel" "states" "[I"] ++ wsX30)
def wsX3_waits : List Cond := .code yX3_waits cX3_waits 5 (some .boolean) :: ([.fieldLink RX3 32 "BootStageModel" "weights" "[I", .fieldLink RX3 38 "BootStageModel" "isCut" "[Z", .fieldLink RX3 41 "BootStageModel" "states" "[I", .fieldLink RX3 29 "BootStageModel" "needs" "[Z", .methodLink RX3 75 yX3_edge, .static yX3_edge, .initialized RX3, .code yX3_edge cX3_edge 2 (some .int), .methodLink RX3 111 yX3_isOff, .instanceMethod yX3_isOff, .selects RX3 yX3_isOff yX3_isOff, .code yX3_isOff cX3_isOff 2 (some .boolean), .methodLink RX3 114 yX3_isMet, .instanceMethod yX3_isMet, .selects RX3 yX3_isMet yX3_isMet, .code yX3_isMet cX3_isMet 3 (some .boolean), .fieldLink RX3 22 "BootStageModel" "standIns" "[I", .methodLink RX3 117 yX3_isLost, .instanceMethod yX3_isLost, .selects RX3 yX3_isLost yX3_isLost, .code yX3_isLost cX3_isLost 3 (some .boolean)] ++ wsX30)
def wsX3_starting : List Cond := .code yX3_starting cX3_starting 3 (some .int) :: ([.fieldLink RX3 60 "BootStageModel" "units" "I", .fieldLink RX3 41 "BootStageModel" "states" "[I"] ++ wsX30)
def wsX3_ends : List Cond := .code yX3_ends cX3_ends 3 none :: ([.fieldLink RX3 19 "BootStageModel" "faults" "[I", .fieldLink RX3 41 "BootStageModel" "states" "[I", .fieldLink RX3 13 "BootStageModel" "learned" "[I", .fieldLink RX3 7 "BootStageModel" "times" "[I", .fieldLink RX3 47 "BootStageModel" "used" "[I", .fieldLink RX3 16 "BootStageModel" "retries" "[I"] ++ wsX30)
def wsX3_isSo_r1 : List Cond := [Cond.fieldLink RX3 60 "BootStageModel" "units" "I", Cond.fieldLink RX3 29 "BootStageModel" "needs" "[Z", Cond.methodLink RX3 75 yX3_edge, Cond.static yX3_edge, Cond.initialized RX3, Cond.code yX3_edge cX3_edge 2 (some .int), Cond.methodLink RX3 117 yX3_isLost, Cond.instanceMethod yX3_isLost, Cond.selects RX3 yX3_isLost yX3_isLost, Cond.code yX3_isLost cX3_isLost 3 (some .boolean), Cond.fieldLink RX3 22 "BootStageModel" "standIns" "[I", Cond.methodLink RX3 111 yX3_isOff, Cond.instanceMethod yX3_isOff, Cond.selects RX3 yX3_isOff yX3_isOff, Cond.code yX3_isOff cX3_isOff 2 (some .boolean), Cond.fieldLink RX3 41 "BootStageModel" "states" "[I", Cond.methodLink RX3 120 yX3_waits, Cond.instanceMethod yX3_waits, Cond.selects RX3 yX3_waits yX3_waits, Cond.code yX3_waits cX3_waits 5 (some .boolean), Cond.fieldLink RX3 32 "BootStageModel" "weights" "[I", Cond.fieldLink RX3 38 "BootStageModel" "isCut" "[Z", Cond.methodLink RX3 114 yX3_isMet, Cond.instanceMethod yX3_isMet]
def wsX3_isSo_r2 : List Cond := [Cond.selects RX3 yX3_isMet yX3_isMet, Cond.code yX3_isMet cX3_isMet 3 (some .boolean)]
def wsX3_isSo : List Cond := .code yX3_isSo cX3_isSo 6 (some .boolean) :: ((wsX3_isSo_r1 ++ wsX3_isSo_r2) ++ wsX30)
def wsX3_passes_r1 : List Cond := [Cond.fieldLink RX3 60 "BootStageModel" "units" "I", Cond.fieldLink RX3 44 "BootStageModel" "ticks" "[I", Cond.fieldLink RX3 41 "BootStageModel" "states" "[I", Cond.fieldLink RX3 7 "BootStageModel" "times" "[I", Cond.fieldLink RX3 99 "BootStageModel" "bound" "I", Cond.fieldLink RX3 67 "BootStageModel" "goesOn" "Z", Cond.fieldLink RX3 105 "BootStageModel" "bar" "I", Cond.methodLink RX3 124 yX3_ends, Cond.instanceMethod yX3_ends, Cond.selects RX3 yX3_ends yX3_ends, Cond.initialized RX3, Cond.code yX3_ends cX3_ends 3 none, Cond.fieldLink RX3 19 "BootStageModel" "faults" "[I", Cond.fieldLink RX3 13 "BootStageModel" "learned" "[I", Cond.fieldLink RX3 47 "BootStageModel" "used" "[I", Cond.fieldLink RX3 16 "BootStageModel" "retries" "[I", Cond.methodLink RX3 128 yX3_isSo, Cond.instanceMethod yX3_isSo, Cond.selects RX3 yX3_isSo yX3_isSo, Cond.code yX3_isSo cX3_isSo 6 (some .boolean), Cond.fieldLink RX3 29 "BootStageModel" "needs" "[Z", Cond.methodLink RX3 75 yX3_edge, Cond.static yX3_edge, Cond.code yX3_edge cX3_edge 2 (some .int)]
def wsX3_passes_r2 : List Cond := [Cond.methodLink RX3 117 yX3_isLost, Cond.instanceMethod yX3_isLost, Cond.selects RX3 yX3_isLost yX3_isLost, Cond.code yX3_isLost cX3_isLost 3 (some .boolean), Cond.fieldLink RX3 22 "BootStageModel" "standIns" "[I", Cond.methodLink RX3 111 yX3_isOff, Cond.instanceMethod yX3_isOff, Cond.selects RX3 yX3_isOff yX3_isOff, Cond.code yX3_isOff cX3_isOff 2 (some .boolean), Cond.methodLink RX3 120 yX3_waits, Cond.instanceMethod yX3_waits, Cond.selects RX3 yX3_waits yX3_waits, Cond.code yX3_waits cX3_waits 5 (some .boolean), Cond.fieldLink RX3 32 "BootStageModel" "weights" "[I", Cond.fieldLink RX3 38 "BootStageModel" "isCut" "[Z", Cond.methodLink RX3 114 yX3_isMet, Cond.instanceMethod yX3_isMet, Cond.selects RX3 yX3_isMet yX3_isMet, Cond.code yX3_isMet cX3_isMet 3 (some .boolean), Cond.methodLink RX3 131 yX3_starting, Cond.instanceMethod yX3_starting, Cond.selects RX3 yX3_starting yX3_starting, Cond.code yX3_starting cX3_starting 3 (some .int), Cond.methodLink RX3 108 yX3_raised]
def wsX3_passes_r3 : List Cond := [Cond.instanceMethod yX3_raised, Cond.selects RX3 yX3_raised yX3_raised, Cond.code yX3_raised cX3_raised 4 (some .int), Cond.fieldLink RX3 50 "BootStageModel" "counted" "[I", Cond.fieldLink RX3 102 "BootStageModel" "total" "I"]
def wsX3_passes : List Cond := .code yX3_passes cX3_passes 2 none :: ((wsX3_passes_r1 ++ (wsX3_passes_r2 ++ wsX3_passes_r3)) ++ wsX30)
def wsX3_tick_r1 : List Cond := [Cond.fieldLink RX3 67 "BootStageModel" "goesOn" "Z", Cond.methodLink RX3 63 yX3_isIn, Cond.static yX3_isIn, Cond.initialized RX3, Cond.code yX3_isIn cX3_isIn 3 (some .boolean), Cond.methodLink RX3 71 yX3_goes, Cond.instanceMethod yX3_goes, Cond.selects RX3 yX3_goes yX3_goes, Cond.code yX3_goes cX3_goes 2 (some .boolean), Cond.fieldLink RX3 56 "BootStageModel" "thrown" "I", Cond.methodLink RX3 134 yX3_passes, Cond.instanceMethod yX3_passes, Cond.selects RX3 yX3_passes yX3_passes, Cond.code yX3_passes cX3_passes 2 none, Cond.fieldLink RX3 60 "BootStageModel" "units" "I", Cond.fieldLink RX3 44 "BootStageModel" "ticks" "[I", Cond.fieldLink RX3 41 "BootStageModel" "states" "[I", Cond.fieldLink RX3 7 "BootStageModel" "times" "[I", Cond.fieldLink RX3 99 "BootStageModel" "bound" "I", Cond.fieldLink RX3 105 "BootStageModel" "bar" "I", Cond.methodLink RX3 124 yX3_ends, Cond.instanceMethod yX3_ends, Cond.selects RX3 yX3_ends yX3_ends, Cond.code yX3_ends cX3_ends 3 none]
def wsX3_tick_r2 : List Cond := [Cond.fieldLink RX3 19 "BootStageModel" "faults" "[I", Cond.fieldLink RX3 13 "BootStageModel" "learned" "[I", Cond.fieldLink RX3 47 "BootStageModel" "used" "[I", Cond.fieldLink RX3 16 "BootStageModel" "retries" "[I", Cond.methodLink RX3 128 yX3_isSo, Cond.instanceMethod yX3_isSo, Cond.selects RX3 yX3_isSo yX3_isSo, Cond.code yX3_isSo cX3_isSo 6 (some .boolean), Cond.fieldLink RX3 29 "BootStageModel" "needs" "[Z", Cond.methodLink RX3 75 yX3_edge, Cond.static yX3_edge, Cond.code yX3_edge cX3_edge 2 (some .int), Cond.methodLink RX3 117 yX3_isLost, Cond.instanceMethod yX3_isLost, Cond.selects RX3 yX3_isLost yX3_isLost, Cond.code yX3_isLost cX3_isLost 3 (some .boolean), Cond.fieldLink RX3 22 "BootStageModel" "standIns" "[I", Cond.methodLink RX3 111 yX3_isOff, Cond.instanceMethod yX3_isOff, Cond.selects RX3 yX3_isOff yX3_isOff, Cond.code yX3_isOff cX3_isOff 2 (some .boolean), Cond.methodLink RX3 120 yX3_waits, Cond.instanceMethod yX3_waits, Cond.selects RX3 yX3_waits yX3_waits]
def wsX3_tick_r3 : List Cond := [Cond.code yX3_waits cX3_waits 5 (some .boolean), Cond.fieldLink RX3 32 "BootStageModel" "weights" "[I", Cond.fieldLink RX3 38 "BootStageModel" "isCut" "[Z", Cond.methodLink RX3 114 yX3_isMet, Cond.instanceMethod yX3_isMet, Cond.selects RX3 yX3_isMet yX3_isMet, Cond.code yX3_isMet cX3_isMet 3 (some .boolean), Cond.methodLink RX3 131 yX3_starting, Cond.instanceMethod yX3_starting, Cond.selects RX3 yX3_starting yX3_starting, Cond.code yX3_starting cX3_starting 3 (some .int), Cond.methodLink RX3 108 yX3_raised, Cond.instanceMethod yX3_raised, Cond.selects RX3 yX3_raised yX3_raised, Cond.code yX3_raised cX3_raised 4 (some .int), Cond.fieldLink RX3 50 "BootStageModel" "counted" "[I", Cond.fieldLink RX3 102 "BootStageModel" "total" "I"]
def wsX3_tick : List Cond := .code yX3_tick cX3_tick 3 (some .int) :: ((wsX3_tick_r1 ++ (wsX3_tick_r2 ++ wsX3_tick_r3)) ++ wsX30)
def wsX3_goesOn : List Cond := .code yX3_goesOn cX3_goesOn 1 (some .boolean) :: ([.fieldLink RX3 56 "BootStageModel" "thrown" "I", .fieldLink RX3 67 "BootStageModel" "goesOn" "Z"] ++ wsX30)
def wsX3_state : List Cond := .code yX3_state cX3_state 2 (some .int) :: ([.fieldLink RX3 41 "BootStageModel" "states" "[I", .methodLink RX3 89 yX3_asks, .instanceMethod yX3_asks, .selects RX3 yX3_asks yX3_asks, .initialized RX3, .code yX3_asks cX3_asks 2 (some .boolean), .methodLink RX3 79 yX3_isUnit, .instanceMethod yX3_isUnit, .selects RX3 yX3_isUnit yX3_isUnit, .code yX3_isUnit cX3_isUnit 2 (some .boolean), .fieldLink RX3 60 "BootStageModel" "units" "I", .methodLink RX3 63 yX3_isIn, .static yX3_isIn, .code yX3_isIn cX3_isIn 3 (some .boolean), .methodLink RX3 71 yX3_goes, .instanceMethod yX3_goes, .selects RX3 yX3_goes yX3_goes, .code yX3_goes cX3_goes 2 (some .boolean), .fieldLink RX3 56 "BootStageModel" "thrown" "I"] ++ wsX30)
def wsX3_waitsFor_r1 : List Cond := [Cond.fieldLink RX3 60 "BootStageModel" "units" "I", Cond.fieldLink RX3 41 "BootStageModel" "states" "[I", Cond.methodLink RX3 89 yX3_asks, Cond.instanceMethod yX3_asks, Cond.selects RX3 yX3_asks yX3_asks, Cond.initialized RX3, Cond.code yX3_asks cX3_asks 2 (some .boolean), Cond.methodLink RX3 79 yX3_isUnit, Cond.instanceMethod yX3_isUnit, Cond.selects RX3 yX3_isUnit yX3_isUnit, Cond.code yX3_isUnit cX3_isUnit 2 (some .boolean), Cond.methodLink RX3 63 yX3_isIn, Cond.static yX3_isIn, Cond.code yX3_isIn cX3_isIn 3 (some .boolean), Cond.methodLink RX3 71 yX3_goes, Cond.instanceMethod yX3_goes, Cond.selects RX3 yX3_goes yX3_goes, Cond.code yX3_goes cX3_goes 2 (some .boolean), Cond.fieldLink RX3 56 "BootStageModel" "thrown" "I", Cond.methodLink RX3 120 yX3_waits, Cond.instanceMethod yX3_waits, Cond.selects RX3 yX3_waits yX3_waits, Cond.code yX3_waits cX3_waits 5 (some .boolean), Cond.fieldLink RX3 32 "BootStageModel" "weights" "[I"]
def wsX3_waitsFor_r2 : List Cond := [Cond.fieldLink RX3 38 "BootStageModel" "isCut" "[Z", Cond.fieldLink RX3 29 "BootStageModel" "needs" "[Z", Cond.methodLink RX3 75 yX3_edge, Cond.static yX3_edge, Cond.code yX3_edge cX3_edge 2 (some .int), Cond.methodLink RX3 111 yX3_isOff, Cond.instanceMethod yX3_isOff, Cond.selects RX3 yX3_isOff yX3_isOff, Cond.code yX3_isOff cX3_isOff 2 (some .boolean), Cond.methodLink RX3 114 yX3_isMet, Cond.instanceMethod yX3_isMet, Cond.selects RX3 yX3_isMet yX3_isMet, Cond.code yX3_isMet cX3_isMet 3 (some .boolean), Cond.fieldLink RX3 22 "BootStageModel" "standIns" "[I", Cond.methodLink RX3 117 yX3_isLost, Cond.instanceMethod yX3_isLost, Cond.selects RX3 yX3_isLost yX3_isLost, Cond.code yX3_isLost cX3_isLost 3 (some .boolean)]
def wsX3_waitsFor : List Cond := .code yX3_waitsFor cX3_waitsFor 4 (some .int) :: ((wsX3_waitsFor_r1 ++ wsX3_waitsFor_r2) ++ wsX30)
def wsX3_bar : List Cond := .code yX3_bar cX3_bar 1 (some .int) :: ([.fieldLink RX3 56 "BootStageModel" "thrown" "I", .fieldLink RX3 96 "BootStageModel" "wasBegun" "Z", .fieldLink RX3 105 "BootStageModel" "bar" "I"] ++ wsX30)
def wsX3_ready : List Cond := .code yX3_ready cX3_ready 3 (some .int) :: ([.fieldLink RX3 56 "BootStageModel" "thrown" "I", .fieldLink RX3 60 "BootStageModel" "units" "I", .fieldLink RX3 41 "BootStageModel" "states" "[I"] ++ wsX30)
def wsX3_canRunIn : List Cond := .code yX3_canRunIn cX3_canRunIn 6 (some .boolean) :: ([.fieldLink RX3 25 "BootStageModel" "isHeld" "[Z", .fieldLink RX3 19 "BootStageModel" "faults" "[I", .fieldLink RX3 16 "BootStageModel" "retries" "[I", .fieldLink RX3 60 "BootStageModel" "units" "I", .fieldLink RX3 22 "BootStageModel" "standIns" "[I", .fieldLink RX3 29 "BootStageModel" "needs" "[Z", .methodLink RX3 75 yX3_edge, .static yX3_edge, .initialized RX3, .code yX3_edge cX3_edge 2 (some .int)] ++ wsX30)
def wsX3_canRun : List Cond := .code yX3_canRun cX3_canRun 4 (some .int) :: ([.fieldLink RX3 56 "BootStageModel" "thrown" "I", .fieldLink RX3 60 "BootStageModel" "units" "I", .methodLink RX3 137 yX3_canRunIn, .instanceMethod yX3_canRunIn, .selects RX3 yX3_canRunIn yX3_canRunIn, .initialized RX3, .code yX3_canRunIn cX3_canRunIn 6 (some .boolean), .fieldLink RX3 25 "BootStageModel" "isHeld" "[Z", .fieldLink RX3 19 "BootStageModel" "faults" "[I", .fieldLink RX3 16 "BootStageModel" "retries" "[I", .fieldLink RX3 22 "BootStageModel" "standIns" "[I", .fieldLink RX3 29 "BootStageModel" "needs" "[Z", .methodLink RX3 75 yX3_edge, .static yX3_edge, .code yX3_edge cX3_edge 2 (some .int)] ++ wsX30)
def wsJ9_max_7cf53 : List Cond := .code yJ9_max_7cf53 cJ9_max_7cf53 2 (some .int) :: ([])
def wsJ9_min_7cf53 : List Cond := .code yJ9_min_7cf53 cJ9_min_7cf53 2 (some .int) :: ([])
def wsL_add_r1 : List Cond := [Cond.classLink RL 13 "java/lang/IllegalArgumentException", Cond.classLink RL 15 "java/lang/IllegalStateException", Cond.methodLink RL 7 yX2_add, Cond.instanceMethod yX2_add, Cond.selects RX2 yX2_add yX2_add, Cond.initialized RX2, Cond.code yX2_add cX2_add 4 (some .int), Cond.classLink RX2 46 "java/lang/IllegalStateException", Cond.initialized "java/lang/IllegalStateException", Cond.fieldLink RX2 15 "BootStage" "count" "I", Cond.fieldLink RX2 11 "BootStage" "rows" "[LBootStage$Unit;", Cond.fieldLink RX2 56 "BootStage$Unit" "time" "I", Cond.fieldLink RX2 59 "BootStage$Unit" "retries" "I", Cond.fieldLink RX2 62 "BootStage$Unit" "number" "I", Cond.methodLink RX2 42 yX2_checkRange, Cond.instanceMethod yX2_checkRange, Cond.selects RX2 yX2_checkRange yX2_checkRange, Cond.code yX2_checkRange cX2_checkRange 4 none, Cond.classLink RX2 155 "java/lang/IllegalArgumentException", Cond.initialized "java/lang/IllegalArgumentException", Cond.methodLink RX2 53 yX2_checkNoStart, Cond.instanceMethod yX2_checkNoStart, Cond.selects RX2 yX2_checkNoStart yX2_checkNoStart, Cond.code yX2_checkNoStart cX2_checkNoStart 1 none]
def wsL_add_r2 : List Cond := [Cond.fieldLink RX2 26 "BootStage" "isGoingOn" "Z"]
def wsL_add : List Cond := .codeWith yL_add cL_add 5 (some .int) [(0, 10, 13, 13), (0, 10, 17, 15)] :: ((wsL_add_r1 ++ wsL_add_r2) ++ wsX20 ++ wsX00 ++ (vx_atS RX2 50 "java/lang/IllegalStateException" ["java/lang/RuntimeException", "java/lang/Exception"]).filter goodWord ++ (vx_atS RX2 159 "java/lang/IllegalArgumentException" ["java/lang/RuntimeException", "java/lang/Exception"]).filter goodWord)
def wsL_need_r1 : List Cond := [Cond.classLink RL 21 "java/lang/IndexOutOfBoundsException", Cond.classLink RL 15 "java/lang/IllegalStateException", Cond.methodLink RL 17 yX2_need, Cond.instanceMethod yX2_need, Cond.selects RX2 yX2_need yX2_need, Cond.initialized RX2, Cond.code yX2_need cX2_need 6 (some .boolean), Cond.classLink RX2 46 "java/lang/IllegalStateException", Cond.initialized "java/lang/IllegalStateException", Cond.fieldLink RX2 75 "BootStage$Unit" "needs" "I", Cond.methodLink RX2 65 yX2_unitAt, Cond.instanceMethod yX2_unitAt, Cond.selects RX2 yX2_unitAt yX2_unitAt, Cond.code yX2_unitAt cX2_unitAt 2 (some (.object "BootStage$Unit")), Cond.classLink RX2 150 "java/lang/IndexOutOfBoundsException", Cond.initialized "java/lang/IndexOutOfBoundsException", Cond.fieldLink RX2 15 "BootStage" "count" "I", Cond.fieldLink RX2 11 "BootStage" "rows" "[LBootStage$Unit;", Cond.methodLink RX2 69 yX2_reaches, Cond.instanceMethod yX2_reaches, Cond.selects RX2 yX2_reaches yX2_reaches, Cond.code yX2_reaches cX2_reaches 8 (some .boolean), Cond.fieldLink RX2 103 "BootStage$Unit" "keptWishes" "I", Cond.methodLink RX2 82 yX0_bit]
def wsL_need_r2 : List Cond := [Cond.instanceMethod yX0_bit, Cond.selects RX0 yX0_bit yX0_bit, Cond.initialized RX0, Cond.code yX0_bit cX0_bit 1 (some .int), Cond.fieldLink RX0 50 "BootStage$Unit" "number" "I", Cond.methodLink RX2 78 yX2_contains, Cond.instanceMethod yX2_contains, Cond.selects RX2 yX2_contains yX2_contains, Cond.code yX2_contains cX2_contains 3 (some .boolean), Cond.methodLink RX2 53 yX2_checkNoStart, Cond.instanceMethod yX2_checkNoStart, Cond.selects RX2 yX2_checkNoStart yX2_checkNoStart, Cond.code yX2_checkNoStart cX2_checkNoStart 1 none, Cond.fieldLink RX2 26 "BootStage" "isGoingOn" "Z"]
def wsL_need : List Cond := .codeWith yL_need cL_need 5 (some .int) [(0, 17, 20, 21), (0, 17, 24, 15)] :: ((wsL_need_r1 ++ wsL_need_r2) ++ wsX00 ++ wsX20 ++ (vx_atS RX2 50 "java/lang/IllegalStateException" ["java/lang/RuntimeException", "java/lang/Exception"]).filter goodWord ++ (vx_atS RX2 154 "java/lang/IndexOutOfBoundsException" ["java/lang/RuntimeException", "java/lang/Exception"]).filter goodWord)
def wsL_wish_r1 : List Cond := [Cond.classLink RL 21 "java/lang/IndexOutOfBoundsException", Cond.classLink RL 13 "java/lang/IllegalArgumentException", Cond.classLink RL 15 "java/lang/IllegalStateException", Cond.methodLink RL 23 yX2_wish, Cond.instanceMethod yX2_wish, Cond.selects RX2 yX2_wish yX2_wish, Cond.initialized RX2, Cond.code yX2_wish cX2_wish 8 (some .int), Cond.fieldLink RX2 22 "BootStage" "wishes" "Ljava/util/ArrayList;", Cond.classLink RX2 94 RX1, Cond.instantiable RX1 3, Cond.initialized RX1, Cond.fieldLink RX2 103 "BootStage$Unit" "keptWishes" "I", Cond.fieldLink RX2 106 "BootStage$Wish" "weight" "I", Cond.methodLink RX2 65 yX2_unitAt, Cond.instanceMethod yX2_unitAt, Cond.selects RX2 yX2_unitAt yX2_unitAt, Cond.code yX2_unitAt cX2_unitAt 2 (some (.object "BootStage$Unit")), Cond.classLink RX2 150 "java/lang/IndexOutOfBoundsException", Cond.initialized "java/lang/IndexOutOfBoundsException", Cond.fieldLink RX2 15 "BootStage" "count" "I", Cond.fieldLink RX2 11 "BootStage" "rows" "[LBootStage$Unit;", Cond.methodLink RX2 42 yX2_checkRange, Cond.instanceMethod yX2_checkRange]
def wsL_wish_r2 : List Cond := [Cond.selects RX2 yX2_checkRange yX2_checkRange, Cond.code yX2_checkRange cX2_checkRange 4 none, Cond.classLink RX2 155 "java/lang/IllegalArgumentException", Cond.initialized "java/lang/IllegalArgumentException", Cond.methodLink RX2 86 yX2_checkDifferent, Cond.instanceMethod yX2_checkDifferent, Cond.selects RX2 yX2_checkDifferent yX2_checkDifferent, Cond.code yX2_checkDifferent cX2_checkDifferent 3 none, Cond.methodLink RX2 53 yX2_checkNoStart, Cond.instanceMethod yX2_checkNoStart, Cond.selects RX2 yX2_checkNoStart yX2_checkNoStart, Cond.code yX2_checkNoStart cX2_checkNoStart 1 none, Cond.classLink RX2 46 "java/lang/IllegalStateException", Cond.initialized "java/lang/IllegalStateException", Cond.fieldLink RX2 26 "BootStage" "isGoingOn" "Z", Cond.methodLink RX2 90 yX2_findWish, Cond.instanceMethod yX2_findWish, Cond.selects RX2 yX2_findWish yX2_findWish, Cond.code yX2_findWish cX2_findWish 5 (some (.object "BootStage$Wish")), Cond.classLink RX2 94 "BootStage$Wish", Cond.fieldLink RX2 171 "BootStage$Wish" "wishing" "LBootStage$Unit;", Cond.fieldLink RX2 174 "BootStage$Wish" "wished" "LBootStage$Unit;", Cond.methodLink RX2 164 yJx4a65c_size_8abf5, Cond.instanceMethod yJx4a65c_size_8abf5]
def wsL_wish_r3 : List Cond := [Cond.selects RJx4a65c yJx4a65c_size_8abf5 yJx4a65c_size_8abf5, Cond.initialized RJx4a65c, Cond.code yJx4a65c_size_8abf5 cJx4a65c_size_8abf5 1 (some .int), Cond.fieldLink RJx4a65c 48 "java/util/ArrayList" "size" "I", Cond.methodLink RX2 167 yJx4a65c_get_915e3, Cond.instanceMethod yJx4a65c_get_915e3, Cond.selects RJx4a65c yJx4a65c_get_915e3 yJx4a65c_get_915e3, Cond.code yJx4a65c_get_915e3 cJx4a65c_get_915e3 2 (some (.object "java/lang/Object")), Cond.methodLink RJx4a65c 118 yJ15_checkIndex_7cf53, Cond.static yJ15_checkIndex_7cf53, Cond.initialized RJ15, Cond.code yJ15_checkIndex_7cf53 cJ15_checkIndex_7cf53 2 (some .int), Cond.methodLink RJ15 105 yJ3_checkIndex_8e157, Cond.static yJ3_checkIndex_8e157, Cond.initialized RJ3, Cond.code yJ3_checkIndex_8e157 cJ3_checkIndex_8e157 3 (some .int), Cond.methodLink RJx4a65c 123 yJx4a65c_elementData_915e3, Cond.instanceMethod yJx4a65c_elementData_915e3, Cond.selects RJx4a65c yJx4a65c_elementData_915e3 yJx4a65c_elementData_915e3, Cond.code yJx4a65c_elementData_915e3 cJx4a65c_elementData_915e3 2 (some (.object "java/lang/Object")), Cond.fieldLink RJx4a65c 9 "java/util/ArrayList" "elementData" "[Ljava/lang/Object;", Cond.methodLink RX2 96 yX1_init, Cond.instanceMethod yX1_init, Cond.code yX1_init cX1_init 4 none]
def wsL_wish_r4 : List Cond := [Cond.methodLink RX1 1 objectInit, Cond.instanceMethod objectInit, Cond.code objectInit ⟨#[0xb1]⟩ 1 none, Cond.fieldLink RX1 7 "BootStage$Wish" "wishing" "LBootStage$Unit;", Cond.fieldLink RX1 13 "BootStage$Wish" "wished" "LBootStage$Unit;", Cond.fieldLink RX1 16 "BootStage$Wish" "weight" "I", Cond.methodLink RX2 99 yJx4a65c_add_9ea2d, Cond.instanceMethod yJx4a65c_add_9ea2d, Cond.selects RJx4a65c yJx4a65c_add_9ea2d yJx4a65c_add_9ea2d, Cond.code yJx4a65c_add_9ea2d cJx4a65c_add_9ea2d 2 (some .boolean), Cond.fieldLink RJx4a65c 63 "java/util/ArrayList" "modCount" "I", Cond.sameField "java/util/ArrayList" "java/util/AbstractList" "modCount" "I", Cond.methodLink RJx4a65c 131 yJx4a65c_add_72be8, Cond.instanceMethod yJx4a65c_add_72be8, Cond.selects RJx4a65c yJx4a65c_add_72be8 yJx4a65c_add_72be8, Cond.code yJx4a65c_add_72be8 cJx4a65c_add_72be8 4 none, Cond.methodLink RJx4a65c 129 yJx4a65c_grow_d5877, Cond.instanceMethod yJx4a65c_grow_d5877, Cond.selects RJx4a65c yJx4a65c_grow_d5877 yJx4a65c_grow_d5877, Cond.code yJx4a65c_grow_d5877 cJx4a65c_grow_d5877 1 (some (.array (.object "java/lang/Object"))), Cond.methodLink RJx4a65c 69 yJx4a65c_grow_92f84, Cond.instanceMethod yJx4a65c_grow_92f84, Cond.selects RJx4a65c yJx4a65c_grow_92f84 yJx4a65c_grow_92f84, Cond.code yJx4a65c_grow_92f84 cJx4a65c_grow_92f84 4 (some (.array (.object "java/lang/Object")))]
def wsL_wish_r5 : List Cond := [Cond.fieldLink RJx4a65c 39 "java/util/ArrayList" "DEFAULTCAPACITY_EMPTY_ELEMENTDATA" "[Ljava/lang/Object;", Cond.methodLink RJx4a65c 79 Lib.Math.max.name, Cond.static Lib.Math.max.name, Cond.initialized "java/lang/Math", Cond.code Lib.Math.max.name Lib.Math.max.code 2 (some .int), Cond.classLink RJx4a65c 7 "java/lang/Object", Cond.methodLink RJx4a65c 73 yJ8_newLength_cabcc, Cond.static yJ8_newLength_cabcc, Cond.initialized RJ8, Cond.code yJ8_newLength_cabcc cJ8_newLength_cabcc 4 (some .int), Cond.methodLink RJ8 194 Lib.Math.max.name, Cond.constant RJ8 200 (2147483639), Cond.methodLink RJ8 201 yJ8_hugeLength_7cf53, Cond.static yJ8_hugeLength_7cf53, Cond.code yJ8_hugeLength_7cf53 cJ8_hugeLength_7cf53 3 (some .int), Cond.methodLink RJx4a65c 66 yJ7_copyOf_1904c, Cond.static yJ7_copyOf_1904c, Cond.initialized RJ7, Cond.code yJ7_copyOf_1904c cJ7_copyOf_1904c 2 (some (.array (.object "java/lang/Object"))), Cond.methodLink RJ7 86 ⟨"java/lang/Object", "getClass", "()Ljava/lang/Class;"⟩, Cond.selects "[Ljava/lang/Object;" ⟨"java/lang/Object", "getClass", "()Ljava/lang/Class;"⟩ ⟨"java/lang/Object", "getClass", "()Ljava/lang/Class;"⟩, Cond.instanceMethod ⟨"java/lang/Object", "getClass", "()Ljava/lang/Class;"⟩, Cond.native ⟨"java/lang/Object", "getClass", "()Ljava/lang/Class;"⟩, Cond.methodLink RJ7 300 yJ7_copyOf_6403c]
def wsL_wish_r6 : List Cond := [Cond.static yJ7_copyOf_6403c, Cond.code yJ7_copyOf_6403c cJ7_copyOf_6403c 4 (some (.array (.object "java/lang/Object"))), Cond.classLink RJ7 110 "[Ljava/lang/Object;", Cond.classLink RJ7 2 "java/lang/Object", Cond.methodLink RJ7 304 Lib.Math.min.name, Cond.static Lib.Math.min.name, Cond.code Lib.Math.min.name Lib.Math.min.code 2 (some .int), Cond.methodLink RJ7 150 arraycopyName, Cond.native arraycopyName, Cond.static arraycopyName, Cond.initialized "java/lang/System", Cond.methodLink RX2 82 yX0_bit, Cond.instanceMethod yX0_bit, Cond.selects RX0 yX0_bit yX0_bit, Cond.initialized RX0, Cond.code yX0_bit cX0_bit 1 (some .int), Cond.fieldLink RX0 50 "BootStage$Unit" "number" "I"]
def wsL_wish : List Cond := .codeWith yL_wish cL_wish 6 (some .int) [(0, 12, 15, 21), (0, 12, 19, 13), (0, 12, 23, 15)] :: ((wsL_wish_r1 ++ (wsL_wish_r2 ++ (wsL_wish_r3 ++ (wsL_wish_r4 ++ (wsL_wish_r5 ++ wsL_wish_r6))))) ++ wsX20 ++ wsX10 ++ wsX00 ++ wsJx4a65c0 ++ (vx_atS RX2 154 "java/lang/IndexOutOfBoundsException" ["java/lang/RuntimeException", "java/lang/Exception"]).filter goodWord ++ (vx_atS RX2 159 "java/lang/IllegalArgumentException" ["java/lang/RuntimeException", "java/lang/Exception"]).filter goodWord ++ (vx_atS RX2 50 "java/lang/IllegalStateException" ["java/lang/RuntimeException", "java/lang/Exception"]).filter goodWord)
def wsL_standIn_r1 : List Cond := [Cond.classLink RL 21 "java/lang/IndexOutOfBoundsException", Cond.classLink RL 13 "java/lang/IllegalArgumentException", Cond.classLink RL 15 "java/lang/IllegalStateException", Cond.methodLink RL 27 yX2_standIn, Cond.instanceMethod yX2_standIn, Cond.selects RX2 yX2_standIn yX2_standIn, Cond.initialized RX2, Cond.code yX2_standIn cX2_standIn 6 (some .int), Cond.fieldLink RX2 109 "BootStage$Unit" "substitute" "LBootStage$Unit;", Cond.fieldLink RX2 62 "BootStage$Unit" "number" "I", Cond.methodLink RX2 65 yX2_unitAt, Cond.instanceMethod yX2_unitAt, Cond.selects RX2 yX2_unitAt yX2_unitAt, Cond.code yX2_unitAt cX2_unitAt 2 (some (.object "BootStage$Unit")), Cond.classLink RX2 150 "java/lang/IndexOutOfBoundsException", Cond.initialized "java/lang/IndexOutOfBoundsException", Cond.fieldLink RX2 15 "BootStage" "count" "I", Cond.fieldLink RX2 11 "BootStage" "rows" "[LBootStage$Unit;", Cond.methodLink RX2 86 yX2_checkDifferent, Cond.instanceMethod yX2_checkDifferent, Cond.selects RX2 yX2_checkDifferent yX2_checkDifferent, Cond.code yX2_checkDifferent cX2_checkDifferent 3 none, Cond.classLink RX2 155 "java/lang/IllegalArgumentException", Cond.initialized "java/lang/IllegalArgumentException"]
def wsL_standIn_r2 : List Cond := [Cond.methodLink RX2 53 yX2_checkNoStart, Cond.instanceMethod yX2_checkNoStart, Cond.selects RX2 yX2_checkNoStart yX2_checkNoStart, Cond.code yX2_checkNoStart cX2_checkNoStart 1 none, Cond.classLink RX2 46 "java/lang/IllegalStateException", Cond.initialized "java/lang/IllegalStateException", Cond.fieldLink RX2 26 "BootStage" "isGoingOn" "Z"]
def wsL_standIn : List Cond := .codeWith yL_standIn cL_standIn 5 (some .int) [(0, 10, 13, 21), (0, 10, 17, 13), (0, 10, 21, 15)] :: ((wsL_standIn_r1 ++ wsL_standIn_r2) ++ wsX00 ++ wsX20 ++ (vx_atS RX2 154 "java/lang/IndexOutOfBoundsException" ["java/lang/RuntimeException", "java/lang/Exception"]).filter goodWord ++ (vx_atS RX2 159 "java/lang/IllegalArgumentException" ["java/lang/RuntimeException", "java/lang/Exception"]).filter goodWord ++ (vx_atS RX2 50 "java/lang/IllegalStateException" ["java/lang/RuntimeException", "java/lang/Exception"]).filter goodWord)
def wsL_hold : List Cond := .codeWith yL_hold cL_hold 5 (some .int) [(0, 17, 20, 21), (0, 17, 24, 15)] :: ([.classLink RL 21 "java/lang/IndexOutOfBoundsException", .classLink RL 15 "java/lang/IllegalStateException", .methodLink RL 30 yX2_hold, .instanceMethod yX2_hold, .selects RX2 yX2_hold yX2_hold, .initialized RX2, .code yX2_hold cX2_hold 5 (some .boolean), .fieldLink RX2 113 "BootStage$Unit" "isHeld" "Z", .methodLink RX2 65 yX2_unitAt, .instanceMethod yX2_unitAt, .selects RX2 yX2_unitAt yX2_unitAt, .code yX2_unitAt cX2_unitAt 2 (some (.object "BootStage$Unit")), .classLink RX2 150 "java/lang/IndexOutOfBoundsException", .initialized "java/lang/IndexOutOfBoundsException", .fieldLink RX2 15 "BootStage" "count" "I", .fieldLink RX2 11 "BootStage" "rows" "[LBootStage$Unit;", .methodLink RX2 53 yX2_checkNoStart, .instanceMethod yX2_checkNoStart, .selects RX2 yX2_checkNoStart yX2_checkNoStart, .code yX2_checkNoStart cX2_checkNoStart 1 none, .classLink RX2 46 "java/lang/IllegalStateException", .initialized "java/lang/IllegalStateException", .fieldLink RX2 26 "BootStage" "isGoingOn" "Z"] ++ wsX00 ++ wsX20 ++ (vx_atS RX2 154 "java/lang/IndexOutOfBoundsException" ["java/lang/RuntimeException", "java/lang/Exception"]).filter goodWord ++ (vx_atS RX2 50 "java/lang/IllegalStateException" ["java/lang/RuntimeException", "java/lang/Exception"]).filter goodWord)
def wsL_setFaults : List Cond := .codeWith yL_setFaults cL_setFaults 5 (some .int) [(0, 10, 13, 21), (0, 10, 17, 13)] :: ([.classLink RL 21 "java/lang/IndexOutOfBoundsException", .classLink RL 13 "java/lang/IllegalArgumentException", .methodLink RL 34 yX2_setFaults, .instanceMethod yX2_setFaults, .selects RX2 yX2_setFaults yX2_setFaults, .initialized RX2, .code yX2_setFaults cX2_setFaults 5 (some .int), .fieldLink RX2 116 "BootStage$Unit" "faults" "I", .methodLink RX2 65 yX2_unitAt, .instanceMethod yX2_unitAt, .selects RX2 yX2_unitAt yX2_unitAt, .code yX2_unitAt cX2_unitAt 2 (some (.object "BootStage$Unit")), .classLink RX2 150 "java/lang/IndexOutOfBoundsException", .initialized "java/lang/IndexOutOfBoundsException", .fieldLink RX2 15 "BootStage" "count" "I", .fieldLink RX2 11 "BootStage" "rows" "[LBootStage$Unit;", .methodLink RX2 42 yX2_checkRange, .instanceMethod yX2_checkRange, .selects RX2 yX2_checkRange yX2_checkRange, .code yX2_checkRange cX2_checkRange 4 none, .classLink RX2 155 "java/lang/IllegalArgumentException", .initialized "java/lang/IllegalArgumentException"] ++ wsX00 ++ wsX20 ++ (vx_atS RX2 154 "java/lang/IndexOutOfBoundsException" ["java/lang/RuntimeException", "java/lang/Exception"]).filter goodWord ++ (vx_atS RX2 159 "java/lang/IllegalArgumentException" ["java/lang/RuntimeException", "java/lang/Exception"]).filter goodWord)
def wsL_setTime : List Cond := .codeWith yL_setTime cL_setTime 5 (some .int) [(0, 10, 13, 21), (0, 10, 17, 13)] :: ([.classLink RL 21 "java/lang/IndexOutOfBoundsException", .classLink RL 13 "java/lang/IllegalArgumentException", .methodLink RL 37 yX2_setTime, .instanceMethod yX2_setTime, .selects RX2 yX2_setTime yX2_setTime, .initialized RX2, .code yX2_setTime cX2_setTime 5 (some .int), .fieldLink RX2 56 "BootStage$Unit" "time" "I", .methodLink RX2 65 yX2_unitAt, .instanceMethod yX2_unitAt, .selects RX2 yX2_unitAt yX2_unitAt, .code yX2_unitAt cX2_unitAt 2 (some (.object "BootStage$Unit")), .classLink RX2 150 "java/lang/IndexOutOfBoundsException", .initialized "java/lang/IndexOutOfBoundsException", .fieldLink RX2 15 "BootStage" "count" "I", .fieldLink RX2 11 "BootStage" "rows" "[LBootStage$Unit;", .methodLink RX2 42 yX2_checkRange, .instanceMethod yX2_checkRange, .selects RX2 yX2_checkRange yX2_checkRange, .code yX2_checkRange cX2_checkRange 4 none, .classLink RX2 155 "java/lang/IllegalArgumentException", .initialized "java/lang/IllegalArgumentException"] ++ wsX00 ++ wsX20 ++ (vx_atS RX2 154 "java/lang/IndexOutOfBoundsException" ["java/lang/RuntimeException", "java/lang/Exception"]).filter goodWord ++ (vx_atS RX2 159 "java/lang/IllegalArgumentException" ["java/lang/RuntimeException", "java/lang/Exception"]).filter goodWord)
def wsL_learned : List Cond := .codeWith yL_learned cL_learned 4 (some .int) [(0, 9, 12, 21)] :: ([.classLink RL 21 "java/lang/IndexOutOfBoundsException", .methodLink RL 40 yX2_learned, .instanceMethod yX2_learned, .selects RX2 yX2_learned yX2_learned, .initialized RX2, .code yX2_learned cX2_learned 2 (some .int), .fieldLink RX2 119 "BootStage$Unit" "learned" "I", .methodLink RX2 65 yX2_unitAt, .instanceMethod yX2_unitAt, .selects RX2 yX2_unitAt yX2_unitAt, .code yX2_unitAt cX2_unitAt 2 (some (.object "BootStage$Unit")), .classLink RX2 150 "java/lang/IndexOutOfBoundsException", .initialized "java/lang/IndexOutOfBoundsException", .fieldLink RX2 15 "BootStage" "count" "I", .fieldLink RX2 11 "BootStage" "rows" "[LBootStage$Unit;"] ++ wsX00 ++ wsX20 ++ (vx_atS RX2 154 "java/lang/IndexOutOfBoundsException" ["java/lang/RuntimeException", "java/lang/Exception"]).filter goodWord)
def wsL_faults : List Cond := .codeWith yL_faults cL_faults 4 (some .int) [(0, 9, 12, 21)] :: ([.classLink RL 21 "java/lang/IndexOutOfBoundsException", .methodLink RL 44 yX2_faults, .instanceMethod yX2_faults, .selects RX2 yX2_faults yX2_faults, .initialized RX2, .code yX2_faults cX2_faults 2 (some .int), .fieldLink RX2 116 "BootStage$Unit" "faults" "I", .methodLink RX2 65 yX2_unitAt, .instanceMethod yX2_unitAt, .selects RX2 yX2_unitAt yX2_unitAt, .code yX2_unitAt cX2_unitAt 2 (some (.object "BootStage$Unit")), .classLink RX2 150 "java/lang/IndexOutOfBoundsException", .initialized "java/lang/IndexOutOfBoundsException", .fieldLink RX2 15 "BootStage" "count" "I", .fieldLink RX2 11 "BootStage" "rows" "[LBootStage$Unit;"] ++ wsX00 ++ wsX20 ++ (vx_atS RX2 154 "java/lang/IndexOutOfBoundsException" ["java/lang/RuntimeException", "java/lang/Exception"]).filter goodWord)
def wsL_begin_r1 : List Cond := [Cond.classLink RL 13 "java/lang/IllegalArgumentException", Cond.classLink RL 15 "java/lang/IllegalStateException", Cond.methodLink RL 47 yX2_begin, Cond.instanceMethod yX2_begin, Cond.selects RX2 yX2_begin yX2_begin, Cond.initialized RX2, Cond.code yX2_begin cX2_begin 4 (some .int), Cond.fieldLink RX2 30 "BootStage" "bound" "I", Cond.fieldLink RX2 33 "BootStage" "total" "I", Cond.fieldLink RX2 15 "BootStage" "count" "I", Cond.fieldLink RX2 11 "BootStage" "rows" "[LBootStage$Unit;", Cond.fieldLink RX2 26 "BootStage" "isGoingOn" "Z", Cond.fieldLink RX2 36 "BootStage" "reachedBar" "I", Cond.methodLink RX2 42 yX2_checkRange, Cond.instanceMethod yX2_checkRange, Cond.selects RX2 yX2_checkRange yX2_checkRange, Cond.code yX2_checkRange cX2_checkRange 4 none, Cond.classLink RX2 155 "java/lang/IllegalArgumentException", Cond.initialized "java/lang/IllegalArgumentException", Cond.methodLink RX2 53 yX2_checkNoStart, Cond.instanceMethod yX2_checkNoStart, Cond.selects RX2 yX2_checkNoStart yX2_checkNoStart, Cond.code yX2_checkNoStart cX2_checkNoStart 1 none, Cond.classLink RX2 46 "java/lang/IllegalStateException"]
def wsL_begin_r2 : List Cond := [Cond.initialized "java/lang/IllegalStateException", Cond.methodLink RX2 122 yX2_cutLoops, Cond.instanceMethod yX2_cutLoops, Cond.selects RX2 yX2_cutLoops yX2_cutLoops, Cond.code yX2_cutLoops cX2_cutLoops 5 (some .int), Cond.fieldLink RX2 22 "BootStage" "wishes" "Ljava/util/ArrayList;", Cond.classLink RX2 94 "BootStage$Wish", Cond.fieldLink RX2 106 "BootStage$Wish" "weight" "I", Cond.fieldLink RX2 174 "BootStage$Wish" "wished" "LBootStage$Unit;", Cond.fieldLink RX2 171 "BootStage$Wish" "wishing" "LBootStage$Unit;", Cond.fieldLink RX2 103 "BootStage$Unit" "keptWishes" "I", Cond.methodLink RX2 177 yX2_keepAllWishes, Cond.instanceMethod yX2_keepAllWishes, Cond.selects RX2 yX2_keepAllWishes yX2_keepAllWishes, Cond.code yX2_keepAllWishes cX2_keepAllWishes 3 none, Cond.methodLink RX2 164 yJx4a65c_size_8abf5, Cond.instanceMethod yJx4a65c_size_8abf5, Cond.selects RJx4a65c yJx4a65c_size_8abf5 yJx4a65c_size_8abf5, Cond.initialized RJx4a65c, Cond.code yJx4a65c_size_8abf5 cJx4a65c_size_8abf5 1 (some .int), Cond.fieldLink RJx4a65c 48 "java/util/ArrayList" "size" "I", Cond.methodLink RX2 167 yJx4a65c_get_915e3, Cond.instanceMethod yJx4a65c_get_915e3, Cond.selects RJx4a65c yJx4a65c_get_915e3 yJx4a65c_get_915e3]
def wsL_begin_r3 : List Cond := [Cond.code yJx4a65c_get_915e3 cJx4a65c_get_915e3 2 (some (.object "java/lang/Object")), Cond.methodLink RJx4a65c 118 yJ15_checkIndex_7cf53, Cond.static yJ15_checkIndex_7cf53, Cond.initialized RJ15, Cond.code yJ15_checkIndex_7cf53 cJ15_checkIndex_7cf53 2 (some .int), Cond.methodLink RJ15 105 yJ3_checkIndex_8e157, Cond.static yJ3_checkIndex_8e157, Cond.initialized RJ3, Cond.code yJ3_checkIndex_8e157 cJ3_checkIndex_8e157 3 (some .int), Cond.methodLink RJx4a65c 123 yJx4a65c_elementData_915e3, Cond.instanceMethod yJx4a65c_elementData_915e3, Cond.selects RJx4a65c yJx4a65c_elementData_915e3 yJx4a65c_elementData_915e3, Cond.code yJx4a65c_elementData_915e3 cJx4a65c_elementData_915e3 2 (some (.object "java/lang/Object")), Cond.fieldLink RJx4a65c 9 "java/util/ArrayList" "elementData" "[Ljava/lang/Object;", Cond.methodLink RX2 82 yX0_bit, Cond.instanceMethod yX0_bit, Cond.selects RX0 yX0_bit yX0_bit, Cond.initialized RX0, Cond.code yX0_bit cX0_bit 1 (some .int), Cond.fieldLink RX0 50 "BootStage$Unit" "number" "I", Cond.methodLink RX2 69 yX2_reaches, Cond.instanceMethod yX2_reaches, Cond.selects RX2 yX2_reaches yX2_reaches, Cond.code yX2_reaches cX2_reaches 8 (some .boolean)]
def wsL_begin_r4 : List Cond := [Cond.fieldLink RX2 75 "BootStage$Unit" "needs" "I", Cond.methodLink RX2 78 yX2_contains, Cond.instanceMethod yX2_contains, Cond.selects RX2 yX2_contains yX2_contains, Cond.code yX2_contains cX2_contains 3 (some .boolean), Cond.methodLink RX2 125 yX0_resetForStart, Cond.instanceMethod yX0_resetForStart, Cond.selects RX0 yX0_resetForStart yX0_resetForStart, Cond.code yX0_resetForStart cX0_resetForStart 1 (some .int), Cond.fieldLink RX0 24 "BootStage$Unit" "isHeld" "Z", Cond.fieldLink RX0 38 "BootStage$Unit" "state" "I", Cond.fieldLink RX0 44 "BootStage$Unit" "retriesUsed" "I", Cond.fieldLink RX0 18 "BootStage$Unit" "learned" "I", Cond.fieldLink RX0 47 "BootStage$Unit" "learnedAtBegin" "I", Cond.methodLink RX2 128 yX2_raiseBar, Cond.instanceMethod yX2_raiseBar, Cond.selects RX2 yX2_raiseBar yX2_raiseBar, Cond.code yX2_raiseBar cX2_raiseBar 2 none, Cond.methodLink RX2 220 Lib.Math.max.name, Cond.static Lib.Math.max.name, Cond.initialized "java/lang/Math", Cond.code Lib.Math.max.name Lib.Math.max.code 2 (some .int), Cond.methodLink RX2 217 yX2_timeDone, Cond.instanceMethod yX2_timeDone]
def wsL_begin_r5 : List Cond := [Cond.selects RX2 yX2_timeDone yX2_timeDone, Cond.code yX2_timeDone cX2_timeDone 3 (some .int), Cond.methodLink RX2 226 yX0_timeDone, Cond.instanceMethod yX0_timeDone, Cond.selects RX0 yX0_timeDone yX0_timeDone, Cond.code yX0_timeDone cX0_timeDone 1 (some .int), Cond.fieldLink RX0 41 "BootStage$Unit" "ticksStarting" "I", Cond.methodLink RX0 63 Lib.Math.min.name, Cond.static Lib.Math.min.name, Cond.code Lib.Math.min.name Lib.Math.min.code 2 (some .int)]
def wsL_begin : List Cond := .codeWith yL_begin cL_begin 4 (some .int) [(0, 9, 12, 13), (0, 9, 15, 15)] :: ((wsL_begin_r1 ++ (wsL_begin_r2 ++ (wsL_begin_r3 ++ (wsL_begin_r4 ++ wsL_begin_r5)))) ++ wsX20 ++ wsX10 ++ wsX00 ++ wsJx4a65c0 ++ (vx_atS RX2 159 "java/lang/IllegalArgumentException" ["java/lang/RuntimeException", "java/lang/Exception"]).filter goodWord ++ (vx_atS RX2 50 "java/lang/IllegalStateException" ["java/lang/RuntimeException", "java/lang/Exception"]).filter goodWord)
def wsL_tick_r1 : List Cond := [Cond.classLink RL 13 "java/lang/IllegalArgumentException", Cond.classLink RL 15 "java/lang/IllegalStateException", Cond.methodLink RL 50 yX2_tick, Cond.instanceMethod yX2_tick, Cond.selects RX2 yX2_tick yX2_tick, Cond.initialized RX2, Cond.code yX2_tick cX2_tick 3 (some .int), Cond.classLink RX2 46 "java/lang/IllegalStateException", Cond.initialized "java/lang/IllegalStateException", Cond.fieldLink RX2 26 "BootStage" "isGoingOn" "Z", Cond.methodLink RX2 42 yX2_checkRange, Cond.instanceMethod yX2_checkRange, Cond.selects RX2 yX2_checkRange yX2_checkRange, Cond.code yX2_checkRange cX2_checkRange 4 none, Cond.classLink RX2 155 "java/lang/IllegalArgumentException", Cond.initialized "java/lang/IllegalArgumentException", Cond.methodLink RX2 133 yX2_passOneTick, Cond.instanceMethod yX2_passOneTick, Cond.selects RX2 yX2_passOneTick yX2_passOneTick, Cond.code yX2_passOneTick cX2_passOneTick 1 none, Cond.methodLink RX2 190 yX2_endStarts, Cond.instanceMethod yX2_endStarts, Cond.selects RX2 yX2_endStarts yX2_endStarts, Cond.code yX2_endStarts cX2_endStarts 3 none]
def wsL_tick_r2 : List Cond := [Cond.fieldLink RX2 15 "BootStage" "count" "I", Cond.fieldLink RX2 11 "BootStage" "rows" "[LBootStage$Unit;", Cond.fieldLink RX2 136 "BootStage$Unit" "state" "I", Cond.fieldLink RX2 199 "BootStage$Unit" "ticksStarting" "I", Cond.fieldLink RX2 56 "BootStage$Unit" "time" "I", Cond.methodLink RX2 202 yX0_comeToEnd, Cond.instanceMethod yX0_comeToEnd, Cond.selects RX0 yX0_comeToEnd yX0_comeToEnd, Cond.initialized RX0, Cond.code yX0_comeToEnd cX0_comeToEnd 1 none, Cond.fieldLink RX0 21 "BootStage$Unit" "faults" "I", Cond.fieldLink RX0 38 "BootStage$Unit" "state" "I", Cond.fieldLink RX0 18 "BootStage$Unit" "learned" "I", Cond.fieldLink RX0 9 "BootStage$Unit" "time" "I", Cond.methodLink RX0 57 Lib.Math.max.name, Cond.static Lib.Math.max.name, Cond.initialized "java/lang/Math", Cond.code Lib.Math.max.name Lib.Math.max.code 2 (some .int), Cond.fieldLink RX0 44 "BootStage$Unit" "retriesUsed" "I", Cond.fieldLink RX0 15 "BootStage$Unit" "retries" "I", Cond.methodLink RX2 193 yX2_failWithoutNeeds, Cond.instanceMethod yX2_failWithoutNeeds, Cond.selects RX2 yX2_failWithoutNeeds yX2_failWithoutNeeds, Cond.code yX2_failWithoutNeeds cX2_failWithoutNeeds 4 none]
def wsL_tick_r3 : List Cond := [Cond.fieldLink RX2 75 "BootStage$Unit" "needs" "I", Cond.methodLink RX2 205 yX2_lostNeeds, Cond.instanceMethod yX2_lostNeeds, Cond.selects RX2 yX2_lostNeeds yX2_lostNeeds, Cond.code yX2_lostNeeds cX2_lostNeeds 3 (some .int), Cond.methodLink RX2 184 yX0_isNeedLost, Cond.instanceMethod yX0_isNeedLost, Cond.selects RX0 yX0_isNeedLost yX0_isNeedLost, Cond.code yX0_isNeedLost cX0_isNeedLost 1 (some .boolean), Cond.fieldLink RX0 28 "BootStage$Unit" "substitute" "LBootStage$Unit;", Cond.methodLink RX0 53 yX0_isGone, Cond.instanceMethod yX0_isGone, Cond.selects RX0 yX0_isGone yX0_isGone, Cond.code yX0_isGone cX0_isGone 1 (some .boolean), Cond.methodLink RX2 82 yX0_bit, Cond.instanceMethod yX0_bit, Cond.selects RX0 yX0_bit yX0_bit, Cond.code yX0_bit cX0_bit 1 (some .int), Cond.fieldLink RX0 50 "BootStage$Unit" "number" "I", Cond.methodLink RX2 196 yX2_startWaiting, Cond.instanceMethod yX2_startWaiting, Cond.selects RX2 yX2_startWaiting yX2_startWaiting, Cond.code yX2_startWaiting cX2_startWaiting 6 (some .int), Cond.fieldLink RX2 30 "BootStage" "bound" "I"]
def wsL_tick_r4 : List Cond := [Cond.fieldLink RX2 103 "BootStage$Unit" "keptWishes" "I", Cond.methodLink RX2 208 yX2_metNeeds, Cond.instanceMethod yX2_metNeeds, Cond.selects RX2 yX2_metNeeds yX2_metNeeds, Cond.code yX2_metNeeds cX2_metNeeds 3 (some .int), Cond.methodLink RX2 180 yX0_isNeedMet, Cond.instanceMethod yX0_isNeedMet, Cond.selects RX0 yX0_isNeedMet yX0_isNeedMet, Cond.code yX0_isNeedMet cX0_isNeedMet 1 (some .boolean), Cond.methodLink RX2 211 yX2_doneWishes, Cond.instanceMethod yX2_doneWishes, Cond.selects RX2 yX2_doneWishes yX2_doneWishes, Cond.code yX2_doneWishes cX2_doneWishes 3 (some .int), Cond.methodLink RX2 187 yX0_isWishDone, Cond.instanceMethod yX0_isWishDone, Cond.selects RX0 yX0_isWishDone yX0_isWishDone, Cond.code yX0_isWishDone cX0_isWishDone 1 (some .boolean), Cond.methodLink RX2 214 yX2_countStarting, Cond.instanceMethod yX2_countStarting, Cond.selects RX2 yX2_countStarting yX2_countStarting, Cond.code yX2_countStarting cX2_countStarting 3 (some .int), Cond.methodLink RX2 128 yX2_raiseBar, Cond.instanceMethod yX2_raiseBar, Cond.selects RX2 yX2_raiseBar yX2_raiseBar]
def wsL_tick_r5 : List Cond := [Cond.code yX2_raiseBar cX2_raiseBar 2 none, Cond.fieldLink RX2 33 "BootStage" "total" "I", Cond.fieldLink RX2 36 "BootStage" "reachedBar" "I", Cond.methodLink RX2 220 Lib.Math.max.name, Cond.methodLink RX2 217 yX2_timeDone, Cond.instanceMethod yX2_timeDone, Cond.selects RX2 yX2_timeDone yX2_timeDone, Cond.code yX2_timeDone cX2_timeDone 3 (some .int), Cond.methodLink RX2 226 yX0_timeDone, Cond.instanceMethod yX0_timeDone, Cond.selects RX0 yX0_timeDone yX0_timeDone, Cond.code yX0_timeDone cX0_timeDone 1 (some .int), Cond.fieldLink RX0 47 "BootStage$Unit" "learnedAtBegin" "I", Cond.fieldLink RX0 41 "BootStage$Unit" "ticksStarting" "I", Cond.methodLink RX0 63 Lib.Math.min.name, Cond.static Lib.Math.min.name, Cond.code Lib.Math.min.name Lib.Math.min.code 2 (some .int)]
def wsL_tick : List Cond := .codeWith yL_tick cL_tick 4 (some .int) [(0, 9, 12, 13), (0, 9, 15, 15)] :: ((wsL_tick_r1 ++ (wsL_tick_r2 ++ (wsL_tick_r3 ++ (wsL_tick_r4 ++ wsL_tick_r5)))) ++ wsX20 ++ wsX00 ++ (vx_atS RX2 50 "java/lang/IllegalStateException" ["java/lang/RuntimeException", "java/lang/Exception"]).filter goodWord ++ (vx_atS RX2 159 "java/lang/IllegalArgumentException" ["java/lang/RuntimeException", "java/lang/Exception"]).filter goodWord)
def wsL_state : List Cond := .codeWith yL_state cL_state 4 (some .int) [(0, 9, 12, 21)] :: ([.classLink RL 21 "java/lang/IndexOutOfBoundsException", .methodLink RL 53 yX2_state, .instanceMethod yX2_state, .selects RX2 yX2_state yX2_state, .initialized RX2, .code yX2_state cX2_state 2 (some .int), .fieldLink RX2 136 "BootStage$Unit" "state" "I", .methodLink RX2 65 yX2_unitAt, .instanceMethod yX2_unitAt, .selects RX2 yX2_unitAt yX2_unitAt, .code yX2_unitAt cX2_unitAt 2 (some (.object "BootStage$Unit")), .classLink RX2 150 "java/lang/IndexOutOfBoundsException", .initialized "java/lang/IndexOutOfBoundsException", .fieldLink RX2 15 "BootStage" "count" "I", .fieldLink RX2 11 "BootStage" "rows" "[LBootStage$Unit;"] ++ wsX00 ++ wsX20 ++ (vx_atS RX2 154 "java/lang/IndexOutOfBoundsException" ["java/lang/RuntimeException", "java/lang/Exception"]).filter goodWord)
def wsL_waitsFor_r1 : List Cond := [Cond.classLink RL 21 "java/lang/IndexOutOfBoundsException", Cond.methodLink RL 56 yX2_waitsFor, Cond.instanceMethod yX2_waitsFor, Cond.selects RX2 yX2_waitsFor yX2_waitsFor, Cond.initialized RX2, Cond.code yX2_waitsFor cX2_waitsFor 4 (some .int), Cond.fieldLink RX2 136 "BootStage$Unit" "state" "I", Cond.fieldLink RX2 15 "BootStage" "count" "I", Cond.fieldLink RX2 11 "BootStage" "rows" "[LBootStage$Unit;", Cond.methodLink RX2 65 yX2_unitAt, Cond.instanceMethod yX2_unitAt, Cond.selects RX2 yX2_unitAt yX2_unitAt, Cond.code yX2_unitAt cX2_unitAt 2 (some (.object "BootStage$Unit")), Cond.classLink RX2 150 "java/lang/IndexOutOfBoundsException", Cond.initialized "java/lang/IndexOutOfBoundsException", Cond.methodLink RX2 139 yX2_isAwaited, Cond.instanceMethod yX2_isAwaited, Cond.selects RX2 yX2_isAwaited yX2_isAwaited, Cond.code yX2_isAwaited cX2_isAwaited 5 (some .boolean), Cond.fieldLink RX2 75 "BootStage$Unit" "needs" "I", Cond.fieldLink RX2 103 "BootStage$Unit" "keptWishes" "I", Cond.methodLink RX2 78 yX2_contains, Cond.instanceMethod yX2_contains, Cond.selects RX2 yX2_contains yX2_contains]
def wsL_waitsFor_r2 : List Cond := [Cond.code yX2_contains cX2_contains 3 (some .boolean), Cond.methodLink RX2 82 yX0_bit, Cond.instanceMethod yX0_bit, Cond.selects RX0 yX0_bit yX0_bit, Cond.initialized RX0, Cond.code yX0_bit cX0_bit 1 (some .int), Cond.fieldLink RX0 50 "BootStage$Unit" "number" "I", Cond.methodLink RX2 180 yX0_isNeedMet, Cond.instanceMethod yX0_isNeedMet, Cond.selects RX0 yX0_isNeedMet yX0_isNeedMet, Cond.code yX0_isNeedMet cX0_isNeedMet 1 (some .boolean), Cond.fieldLink RX0 38 "BootStage$Unit" "state" "I", Cond.fieldLink RX0 28 "BootStage$Unit" "substitute" "LBootStage$Unit;", Cond.methodLink RX0 53 yX0_isGone, Cond.instanceMethod yX0_isGone, Cond.selects RX0 yX0_isGone yX0_isGone, Cond.code yX0_isGone cX0_isGone 1 (some .boolean), Cond.methodLink RX2 184 yX0_isNeedLost, Cond.instanceMethod yX0_isNeedLost, Cond.selects RX0 yX0_isNeedLost yX0_isNeedLost, Cond.code yX0_isNeedLost cX0_isNeedLost 1 (some .boolean), Cond.methodLink RX2 187 yX0_isWishDone, Cond.instanceMethod yX0_isWishDone, Cond.selects RX0 yX0_isWishDone yX0_isWishDone]
def wsL_waitsFor_r3 : List Cond := [Cond.code yX0_isWishDone cX0_isWishDone 1 (some .boolean)]
def wsL_waitsFor : List Cond := .codeWith yL_waitsFor cL_waitsFor 4 (some .int) [(0, 9, 12, 21)] :: ((wsL_waitsFor_r1 ++ (wsL_waitsFor_r2 ++ wsL_waitsFor_r3)) ++ wsX00 ++ wsX20 ++ (vx_atS RX2 154 "java/lang/IndexOutOfBoundsException" ["java/lang/RuntimeException", "java/lang/Exception"]).filter goodWord)
def wsL_law0_r1 : List Cond := [Cond.classLink RL 8 RX2, Cond.instantiable RX2 7, Cond.initialized RX2, Cond.classLink RL 60 RX3, Cond.instantiable RX3 23, Cond.initialized RX3, Cond.arrayClass .long, Cond.methodLink RL 59 yX2_init, Cond.instanceMethod yX2_init, Cond.code yX2_init cX2_init 2 none, Cond.methodLink RX2 1 objectInit, Cond.instanceMethod objectInit, Cond.code objectInit ⟨#[0xb1]⟩ 1 none, Cond.classLink RX2 9 RX0, Cond.fieldLink RX2 11 "BootStage" "rows" "[LBootStage$Unit;", Cond.fieldLink RX2 15 "BootStage" "count" "I", Cond.classLink RX2 19 RJx4a65c, Cond.instantiable RJx4a65c 3, Cond.initialized RJx4a65c, Cond.fieldLink RX2 22 "BootStage" "wishes" "Ljava/util/ArrayList;", Cond.fieldLink RX2 26 "BootStage" "isGoingOn" "Z", Cond.fieldLink RX2 30 "BootStage" "bound" "I", Cond.fieldLink RX2 33 "BootStage" "total" "I", Cond.fieldLink RX2 36 "BootStage" "reachedBar" "I"]
def wsL_law0_r2 : List Cond := [Cond.instantiable RX0 13, Cond.initialized RX0, Cond.methodLink RX2 21 yJx4a65c_init_da8c8, Cond.instanceMethod yJx4a65c_init_da8c8, Cond.code yJx4a65c_init_da8c8 cJx4a65c_init_da8c8 1 none, Cond.fieldLink RJx4a65c 39 "java/util/ArrayList" "DEFAULTCAPACITY_EMPTY_ELEMENTDATA" "[Ljava/lang/Object;", Cond.fieldLink RJx4a65c 9 "java/util/ArrayList" "elementData" "[Ljava/lang/Object;", Cond.methodLink RJx4a65c 1 yJxc12de_init_da8c8, Cond.instanceMethod yJxc12de_init_da8c8, Cond.initialized RJxc12de, Cond.code yJxc12de_init_da8c8 cJxc12de_init_da8c8 1 none, Cond.fieldLink RJxc12de 7 "java/util/AbstractList" "modCount" "I", Cond.methodLink RJxc12de 1 yJxa1e45_init_da8c8, Cond.instanceMethod yJxa1e45_init_da8c8, Cond.initialized RJxa1e45, Cond.code yJxa1e45_init_da8c8 cJxa1e45_init_da8c8 1 none, Cond.methodLink RJxa1e45 1 objectInit, Cond.methodLink RX2 39 yX0_init, Cond.instanceMethod yX0_init, Cond.code yX0_init cX0_init 2 none, Cond.methodLink RX0 3 objectInit, Cond.fieldLink RX0 9 "BootStage$Unit" "time" "I", Cond.fieldLink RX0 15 "BootStage$Unit" "retries" "I", Cond.fieldLink RX0 18 "BootStage$Unit" "learned" "I"]
def wsL_law0_r3 : List Cond := [Cond.fieldLink RX0 21 "BootStage$Unit" "faults" "I", Cond.fieldLink RX0 24 "BootStage$Unit" "isHeld" "Z", Cond.fieldLink RX0 28 "BootStage$Unit" "substitute" "LBootStage$Unit;", Cond.fieldLink RX0 32 "BootStage$Unit" "needs" "I", Cond.fieldLink RX0 35 "BootStage$Unit" "keptWishes" "I", Cond.fieldLink RX0 38 "BootStage$Unit" "state" "I", Cond.fieldLink RX0 41 "BootStage$Unit" "ticksStarting" "I", Cond.fieldLink RX0 44 "BootStage$Unit" "retriesUsed" "I", Cond.fieldLink RX0 47 "BootStage$Unit" "learnedAtBegin" "I", Cond.fieldLink RX0 50 "BootStage$Unit" "number" "I", Cond.methodLink RL 62 yX3_init, Cond.instanceMethod yX3_init, Cond.code yX3_init cX3_init 1 none, Cond.methodLink RX3 1 objectInit, Cond.arrayClass .int, Cond.fieldLink RX3 7 "BootStageModel" "times" "[I", Cond.fieldLink RX3 13 "BootStageModel" "learned" "[I", Cond.fieldLink RX3 16 "BootStageModel" "retries" "[I", Cond.fieldLink RX3 19 "BootStageModel" "faults" "[I", Cond.fieldLink RX3 22 "BootStageModel" "standIns" "[I", Cond.arrayClass .boolean, Cond.fieldLink RX3 25 "BootStageModel" "isHeld" "[Z", Cond.fieldLink RX3 29 "BootStageModel" "needs" "[Z", Cond.fieldLink RX3 32 "BootStageModel" "weights" "[I"]
def wsL_law0_r4 : List Cond := [Cond.fieldLink RX3 35 "BootStageModel" "toldAt" "[I", Cond.fieldLink RX3 38 "BootStageModel" "isCut" "[Z", Cond.fieldLink RX3 41 "BootStageModel" "states" "[I", Cond.fieldLink RX3 44 "BootStageModel" "ticks" "[I", Cond.fieldLink RX3 47 "BootStageModel" "used" "[I", Cond.fieldLink RX3 50 "BootStageModel" "counted" "[I", Cond.fieldLink RX3 53 "BootStageModel" "isReached" "[Z", Cond.methodLink RL 63 yL_add, Cond.static yL_add, Cond.initialized RL, Cond.codeWith yL_add cL_add 5 (some .int) [(0, 10, 13, 13), (0, 10, 17, 15)], Cond.classLink RL 13 "java/lang/IllegalArgumentException", Cond.classLink RL 15 "java/lang/IllegalStateException", Cond.methodLink RL 7 yX2_add, Cond.instanceMethod yX2_add, Cond.selects RX2 yX2_add yX2_add, Cond.code yX2_add cX2_add 4 (some .int), Cond.classLink RX2 46 "java/lang/IllegalStateException", Cond.initialized "java/lang/IllegalStateException", Cond.fieldLink RX2 56 "BootStage$Unit" "time" "I", Cond.fieldLink RX2 59 "BootStage$Unit" "retries" "I", Cond.fieldLink RX2 62 "BootStage$Unit" "number" "I", Cond.methodLink RX2 42 yX2_checkRange, Cond.instanceMethod yX2_checkRange]
def wsL_law0_r5 : List Cond := [Cond.selects RX2 yX2_checkRange yX2_checkRange, Cond.code yX2_checkRange cX2_checkRange 4 none, Cond.classLink RX2 155 "java/lang/IllegalArgumentException", Cond.initialized "java/lang/IllegalArgumentException", Cond.methodLink RX2 53 yX2_checkNoStart, Cond.instanceMethod yX2_checkNoStart, Cond.selects RX2 yX2_checkNoStart yX2_checkNoStart, Cond.code yX2_checkNoStart cX2_checkNoStart 1 none, Cond.methodLink RL 68 yX3_add, Cond.instanceMethod yX3_add, Cond.selects RX3 yX3_add yX3_add, Cond.code yX3_add cX3_add 3 (some .int), Cond.fieldLink RX3 60 "BootStageModel" "units" "I", Cond.fieldLink RX3 67 "BootStageModel" "goesOn" "Z", Cond.methodLink RX3 63 yX3_isIn, Cond.static yX3_isIn, Cond.code yX3_isIn cX3_isIn 3 (some .boolean), Cond.methodLink RX3 71 yX3_goes, Cond.instanceMethod yX3_goes, Cond.selects RX3 yX3_goes yX3_goes, Cond.code yX3_goes cX3_goes 2 (some .boolean), Cond.fieldLink RX3 56 "BootStageModel" "thrown" "I", Cond.methodLink RL 69 yX3_thrown, Cond.instanceMethod yX3_thrown]
def wsL_law0_r6 : List Cond := [Cond.selects RX3 yX3_thrown yX3_thrown, Cond.code yX3_thrown cX3_thrown 1 (some .int), Cond.methodLink RL 73 yL_need, Cond.static yL_need, Cond.codeWith yL_need cL_need 5 (some .int) [(0, 17, 20, 21), (0, 17, 24, 15)], Cond.classLink RL 21 "java/lang/IndexOutOfBoundsException", Cond.methodLink RL 17 yX2_need, Cond.instanceMethod yX2_need, Cond.selects RX2 yX2_need yX2_need, Cond.code yX2_need cX2_need 6 (some .boolean), Cond.fieldLink RX2 75 "BootStage$Unit" "needs" "I", Cond.methodLink RX2 65 yX2_unitAt, Cond.instanceMethod yX2_unitAt, Cond.selects RX2 yX2_unitAt yX2_unitAt, Cond.code yX2_unitAt cX2_unitAt 2 (some (.object "BootStage$Unit")), Cond.classLink RX2 150 "java/lang/IndexOutOfBoundsException", Cond.initialized "java/lang/IndexOutOfBoundsException", Cond.methodLink RX2 69 yX2_reaches, Cond.instanceMethod yX2_reaches, Cond.selects RX2 yX2_reaches yX2_reaches, Cond.code yX2_reaches cX2_reaches 8 (some .boolean), Cond.fieldLink RX2 103 "BootStage$Unit" "keptWishes" "I", Cond.methodLink RX2 82 yX0_bit, Cond.instanceMethod yX0_bit]
def wsL_law0_r7 : List Cond := [Cond.selects RX0 yX0_bit yX0_bit, Cond.code yX0_bit cX0_bit 1 (some .int), Cond.methodLink RX2 78 yX2_contains, Cond.instanceMethod yX2_contains, Cond.selects RX2 yX2_contains yX2_contains, Cond.code yX2_contains cX2_contains 3 (some .boolean), Cond.methodLink RL 75 yX3_need, Cond.instanceMethod yX3_need, Cond.selects RX3 yX3_need yX3_need, Cond.code yX3_need cX3_need 4 (some .boolean), Cond.methodLink RX3 79 yX3_isUnit, Cond.instanceMethod yX3_isUnit, Cond.selects RX3 yX3_isUnit yX3_isUnit, Cond.code yX3_isUnit cX3_isUnit 2 (some .boolean), Cond.methodLink RX3 82 yX3_reaches, Cond.instanceMethod yX3_reaches, Cond.selects RX3 yX3_reaches yX3_reaches, Cond.code yX3_reaches cX3_reaches 8 (some .boolean), Cond.methodLink RX3 75 yX3_edge, Cond.static yX3_edge, Cond.code yX3_edge cX3_edge 2 (some .int), Cond.methodLink RL 76 yL_wish, Cond.static yL_wish, Cond.codeWith yL_wish cL_wish 6 (some .int) [(0, 12, 15, 21), (0, 12, 19, 13), (0, 12, 23, 15)]]
def wsL_law0_r8 : List Cond := [Cond.methodLink RL 23 yX2_wish, Cond.instanceMethod yX2_wish, Cond.selects RX2 yX2_wish yX2_wish, Cond.code yX2_wish cX2_wish 8 (some .int), Cond.classLink RX2 94 RX1, Cond.instantiable RX1 3, Cond.initialized RX1, Cond.fieldLink RX2 106 "BootStage$Wish" "weight" "I", Cond.methodLink RX2 86 yX2_checkDifferent, Cond.instanceMethod yX2_checkDifferent, Cond.selects RX2 yX2_checkDifferent yX2_checkDifferent, Cond.code yX2_checkDifferent cX2_checkDifferent 3 none, Cond.methodLink RX2 90 yX2_findWish, Cond.instanceMethod yX2_findWish, Cond.selects RX2 yX2_findWish yX2_findWish, Cond.code yX2_findWish cX2_findWish 5 (some (.object "BootStage$Wish")), Cond.classLink RX2 94 "BootStage$Wish", Cond.fieldLink RX2 171 "BootStage$Wish" "wishing" "LBootStage$Unit;", Cond.fieldLink RX2 174 "BootStage$Wish" "wished" "LBootStage$Unit;", Cond.methodLink RX2 164 yJx4a65c_size_8abf5, Cond.instanceMethod yJx4a65c_size_8abf5, Cond.selects RJx4a65c yJx4a65c_size_8abf5 yJx4a65c_size_8abf5, Cond.code yJx4a65c_size_8abf5 cJx4a65c_size_8abf5 1 (some .int), Cond.fieldLink RJx4a65c 48 "java/util/ArrayList" "size" "I"]
def wsL_law0_r9 : List Cond := [Cond.methodLink RX2 167 yJx4a65c_get_915e3, Cond.instanceMethod yJx4a65c_get_915e3, Cond.selects RJx4a65c yJx4a65c_get_915e3 yJx4a65c_get_915e3, Cond.code yJx4a65c_get_915e3 cJx4a65c_get_915e3 2 (some (.object "java/lang/Object")), Cond.methodLink RJx4a65c 118 yJ15_checkIndex_7cf53, Cond.static yJ15_checkIndex_7cf53, Cond.initialized RJ15, Cond.code yJ15_checkIndex_7cf53 cJ15_checkIndex_7cf53 2 (some .int), Cond.methodLink RJ15 105 yJ3_checkIndex_8e157, Cond.static yJ3_checkIndex_8e157, Cond.initialized RJ3, Cond.code yJ3_checkIndex_8e157 cJ3_checkIndex_8e157 3 (some .int), Cond.methodLink RJx4a65c 123 yJx4a65c_elementData_915e3, Cond.instanceMethod yJx4a65c_elementData_915e3, Cond.selects RJx4a65c yJx4a65c_elementData_915e3 yJx4a65c_elementData_915e3, Cond.code yJx4a65c_elementData_915e3 cJx4a65c_elementData_915e3 2 (some (.object "java/lang/Object")), Cond.methodLink RX2 96 yX1_init, Cond.instanceMethod yX1_init, Cond.code yX1_init cX1_init 4 none, Cond.methodLink RX1 1 objectInit, Cond.fieldLink RX1 7 "BootStage$Wish" "wishing" "LBootStage$Unit;", Cond.fieldLink RX1 13 "BootStage$Wish" "wished" "LBootStage$Unit;", Cond.fieldLink RX1 16 "BootStage$Wish" "weight" "I", Cond.methodLink RX2 99 yJx4a65c_add_9ea2d]
def wsL_law0_r10 : List Cond := [Cond.instanceMethod yJx4a65c_add_9ea2d, Cond.selects RJx4a65c yJx4a65c_add_9ea2d yJx4a65c_add_9ea2d, Cond.code yJx4a65c_add_9ea2d cJx4a65c_add_9ea2d 2 (some .boolean), Cond.fieldLink RJx4a65c 63 "java/util/ArrayList" "modCount" "I", Cond.sameField "java/util/ArrayList" "java/util/AbstractList" "modCount" "I", Cond.methodLink RJx4a65c 131 yJx4a65c_add_72be8, Cond.instanceMethod yJx4a65c_add_72be8, Cond.selects RJx4a65c yJx4a65c_add_72be8 yJx4a65c_add_72be8, Cond.code yJx4a65c_add_72be8 cJx4a65c_add_72be8 4 none, Cond.methodLink RJx4a65c 129 yJx4a65c_grow_d5877, Cond.instanceMethod yJx4a65c_grow_d5877, Cond.selects RJx4a65c yJx4a65c_grow_d5877 yJx4a65c_grow_d5877, Cond.code yJx4a65c_grow_d5877 cJx4a65c_grow_d5877 1 (some (.array (.object "java/lang/Object"))), Cond.methodLink RJx4a65c 69 yJx4a65c_grow_92f84, Cond.instanceMethod yJx4a65c_grow_92f84, Cond.selects RJx4a65c yJx4a65c_grow_92f84 yJx4a65c_grow_92f84, Cond.code yJx4a65c_grow_92f84 cJx4a65c_grow_92f84 4 (some (.array (.object "java/lang/Object"))), Cond.methodLink RJx4a65c 79 Lib.Math.max.name, Cond.static Lib.Math.max.name, Cond.initialized "java/lang/Math", Cond.code Lib.Math.max.name Lib.Math.max.code 2 (some .int), Cond.classLink RJx4a65c 7 "java/lang/Object", Cond.methodLink RJx4a65c 73 yJ8_newLength_cabcc, Cond.static yJ8_newLength_cabcc]
def wsL_law0_r11 : List Cond := [Cond.initialized RJ8, Cond.code yJ8_newLength_cabcc cJ8_newLength_cabcc 4 (some .int), Cond.methodLink RJ8 194 Lib.Math.max.name, Cond.constant RJ8 200 (2147483639), Cond.methodLink RJ8 201 yJ8_hugeLength_7cf53, Cond.static yJ8_hugeLength_7cf53, Cond.code yJ8_hugeLength_7cf53 cJ8_hugeLength_7cf53 3 (some .int), Cond.methodLink RJx4a65c 66 yJ7_copyOf_1904c, Cond.static yJ7_copyOf_1904c, Cond.initialized RJ7, Cond.code yJ7_copyOf_1904c cJ7_copyOf_1904c 2 (some (.array (.object "java/lang/Object"))), Cond.methodLink RJ7 86 ⟨"java/lang/Object", "getClass", "()Ljava/lang/Class;"⟩, Cond.selects "[Ljava/lang/Object;" ⟨"java/lang/Object", "getClass", "()Ljava/lang/Class;"⟩ ⟨"java/lang/Object", "getClass", "()Ljava/lang/Class;"⟩, Cond.instanceMethod ⟨"java/lang/Object", "getClass", "()Ljava/lang/Class;"⟩, Cond.native ⟨"java/lang/Object", "getClass", "()Ljava/lang/Class;"⟩, Cond.methodLink RJ7 300 yJ7_copyOf_6403c, Cond.static yJ7_copyOf_6403c, Cond.code yJ7_copyOf_6403c cJ7_copyOf_6403c 4 (some (.array (.object "java/lang/Object"))), Cond.classLink RJ7 110 "[Ljava/lang/Object;", Cond.classLink RJ7 2 "java/lang/Object", Cond.methodLink RJ7 304 Lib.Math.min.name, Cond.static Lib.Math.min.name, Cond.code Lib.Math.min.name Lib.Math.min.code 2 (some .int), Cond.methodLink RJ7 150 arraycopyName]
def wsL_law0_r12 : List Cond := [Cond.native arraycopyName, Cond.static arraycopyName, Cond.initialized "java/lang/System", Cond.methodLink RL 79 yX3_wish, Cond.instanceMethod yX3_wish, Cond.selects RX3 yX3_wish yX3_wish, Cond.code yX3_wish cX3_wish 6 (some .int), Cond.fieldLink RX3 86 "BootStageModel" "told" "I", Cond.methodLink RL 80 yL_standIn, Cond.static yL_standIn, Cond.codeWith yL_standIn cL_standIn 5 (some .int) [(0, 10, 13, 21), (0, 10, 17, 13), (0, 10, 21, 15)], Cond.methodLink RL 27 yX2_standIn, Cond.instanceMethod yX2_standIn, Cond.selects RX2 yX2_standIn yX2_standIn, Cond.code yX2_standIn cX2_standIn 6 (some .int), Cond.fieldLink RX2 109 "BootStage$Unit" "substitute" "LBootStage$Unit;", Cond.methodLink RL 82 yX3_standIn, Cond.instanceMethod yX3_standIn, Cond.selects RX3 yX3_standIn yX3_standIn, Cond.code yX3_standIn cX3_standIn 5 (some .int), Cond.methodLink RL 83 yL_hold, Cond.static yL_hold, Cond.codeWith yL_hold cL_hold 5 (some .int) [(0, 17, 20, 21), (0, 17, 24, 15)], Cond.methodLink RL 30 yX2_hold]
def wsL_law0_r13 : List Cond := [Cond.instanceMethod yX2_hold, Cond.selects RX2 yX2_hold yX2_hold, Cond.code yX2_hold cX2_hold 5 (some .boolean), Cond.fieldLink RX2 113 "BootStage$Unit" "isHeld" "Z", Cond.methodLink RL 86 yX3_hold, Cond.instanceMethod yX3_hold, Cond.selects RX3 yX3_hold yX3_hold, Cond.code yX3_hold cX3_hold 4 (some .boolean), Cond.methodLink RL 87 yL_setFaults, Cond.static yL_setFaults, Cond.codeWith yL_setFaults cL_setFaults 5 (some .int) [(0, 10, 13, 21), (0, 10, 17, 13)], Cond.methodLink RL 34 yX2_setFaults, Cond.instanceMethod yX2_setFaults, Cond.selects RX2 yX2_setFaults yX2_setFaults, Cond.code yX2_setFaults cX2_setFaults 5 (some .int), Cond.fieldLink RX2 116 "BootStage$Unit" "faults" "I", Cond.methodLink RL 89 yX3_setFaults, Cond.instanceMethod yX3_setFaults, Cond.selects RX3 yX3_setFaults yX3_setFaults, Cond.code yX3_setFaults cX3_setFaults 4 (some .int), Cond.methodLink RL 90 yL_setTime, Cond.static yL_setTime, Cond.codeWith yL_setTime cL_setTime 5 (some .int) [(0, 10, 13, 21), (0, 10, 17, 13)], Cond.methodLink RL 37 yX2_setTime]
def wsL_law0_r14 : List Cond := [Cond.instanceMethod yX2_setTime, Cond.selects RX2 yX2_setTime yX2_setTime, Cond.code yX2_setTime cX2_setTime 5 (some .int), Cond.methodLink RL 92 yX3_setTime, Cond.instanceMethod yX3_setTime, Cond.selects RX3 yX3_setTime yX3_setTime, Cond.code yX3_setTime cX3_setTime 4 (some .int), Cond.methodLink RL 93 yX2_units, Cond.instanceMethod yX2_units, Cond.selects RX2 yX2_units yX2_units, Cond.code yX2_units cX2_units 1 (some .int), Cond.methodLink RL 96 yX3_units, Cond.instanceMethod yX3_units, Cond.selects RX3 yX3_units yX3_units, Cond.code yX3_units cX3_units 1 (some .int), Cond.methodLink RL 97 yL_learned, Cond.static yL_learned, Cond.codeWith yL_learned cL_learned 4 (some .int) [(0, 9, 12, 21)], Cond.methodLink RL 40 yX2_learned, Cond.instanceMethod yX2_learned, Cond.selects RX2 yX2_learned yX2_learned, Cond.code yX2_learned cX2_learned 2 (some .int), Cond.fieldLink RX2 119 "BootStage$Unit" "learned" "I", Cond.methodLink RL 100 yX3_learned]
def wsL_law0_r15 : List Cond := [Cond.instanceMethod yX3_learned, Cond.selects RX3 yX3_learned yX3_learned, Cond.code yX3_learned cX3_learned 2 (some .int), Cond.methodLink RX3 89 yX3_asks, Cond.instanceMethod yX3_asks, Cond.selects RX3 yX3_asks yX3_asks, Cond.code yX3_asks cX3_asks 2 (some .boolean), Cond.methodLink RL 101 yL_faults, Cond.static yL_faults, Cond.codeWith yL_faults cL_faults 4 (some .int) [(0, 9, 12, 21)], Cond.methodLink RL 44 yX2_faults, Cond.instanceMethod yX2_faults, Cond.selects RX2 yX2_faults yX2_faults, Cond.code yX2_faults cX2_faults 2 (some .int), Cond.methodLink RL 103 yX3_faults, Cond.instanceMethod yX3_faults, Cond.selects RX3 yX3_faults yX3_faults, Cond.code yX3_faults cX3_faults 2 (some .int), Cond.methodLink RL 104 yL_begin, Cond.static yL_begin, Cond.codeWith yL_begin cL_begin 4 (some .int) [(0, 9, 12, 13), (0, 9, 15, 15)], Cond.methodLink RL 47 yX2_begin, Cond.instanceMethod yX2_begin, Cond.selects RX2 yX2_begin yX2_begin]
def wsL_law0_r16 : List Cond := [Cond.code yX2_begin cX2_begin 4 (some .int), Cond.methodLink RX2 122 yX2_cutLoops, Cond.instanceMethod yX2_cutLoops, Cond.selects RX2 yX2_cutLoops yX2_cutLoops, Cond.code yX2_cutLoops cX2_cutLoops 5 (some .int), Cond.methodLink RX2 177 yX2_keepAllWishes, Cond.instanceMethod yX2_keepAllWishes, Cond.selects RX2 yX2_keepAllWishes yX2_keepAllWishes, Cond.code yX2_keepAllWishes cX2_keepAllWishes 3 none, Cond.methodLink RX2 125 yX0_resetForStart, Cond.instanceMethod yX0_resetForStart, Cond.selects RX0 yX0_resetForStart yX0_resetForStart, Cond.code yX0_resetForStart cX0_resetForStart 1 (some .int), Cond.methodLink RX2 128 yX2_raiseBar, Cond.instanceMethod yX2_raiseBar, Cond.selects RX2 yX2_raiseBar yX2_raiseBar, Cond.code yX2_raiseBar cX2_raiseBar 2 none, Cond.methodLink RX2 220 Lib.Math.max.name, Cond.methodLink RX2 217 yX2_timeDone, Cond.instanceMethod yX2_timeDone, Cond.selects RX2 yX2_timeDone yX2_timeDone, Cond.code yX2_timeDone cX2_timeDone 3 (some .int), Cond.methodLink RX2 226 yX0_timeDone, Cond.instanceMethod yX0_timeDone]
def wsL_law0_r17 : List Cond := [Cond.selects RX0 yX0_timeDone yX0_timeDone, Cond.code yX0_timeDone cX0_timeDone 1 (some .int), Cond.methodLink RX0 63 Lib.Math.min.name, Cond.methodLink RL 106 yX3_begin, Cond.instanceMethod yX3_begin, Cond.selects RX3 yX3_begin yX3_begin, Cond.code yX3_begin cX3_begin 4 (some .int), Cond.fieldLink RX3 96 "BootStageModel" "wasBegun" "Z", Cond.fieldLink RX3 99 "BootStageModel" "bound" "I", Cond.fieldLink RX3 102 "BootStageModel" "total" "I", Cond.fieldLink RX3 105 "BootStageModel" "bar" "I", Cond.methodLink RX3 92 yX3_weakest, Cond.instanceMethod yX3_weakest, Cond.selects RX3 yX3_weakest yX3_weakest, Cond.code yX3_weakest cX3_weakest 5 (some .int), Cond.methodLink RX3 108 yX3_raised, Cond.instanceMethod yX3_raised, Cond.selects RX3 yX3_raised yX3_raised, Cond.code yX3_raised cX3_raised 4 (some .int), Cond.methodLink RL 107 yL_tick, Cond.static yL_tick, Cond.codeWith yL_tick cL_tick 4 (some .int) [(0, 9, 12, 13), (0, 9, 15, 15)], Cond.methodLink RL 50 yX2_tick, Cond.instanceMethod yX2_tick]
def wsL_law0_r18 : List Cond := [Cond.selects RX2 yX2_tick yX2_tick, Cond.code yX2_tick cX2_tick 3 (some .int), Cond.methodLink RX2 133 yX2_passOneTick, Cond.instanceMethod yX2_passOneTick, Cond.selects RX2 yX2_passOneTick yX2_passOneTick, Cond.code yX2_passOneTick cX2_passOneTick 1 none, Cond.methodLink RX2 190 yX2_endStarts, Cond.instanceMethod yX2_endStarts, Cond.selects RX2 yX2_endStarts yX2_endStarts, Cond.code yX2_endStarts cX2_endStarts 3 none, Cond.fieldLink RX2 136 "BootStage$Unit" "state" "I", Cond.fieldLink RX2 199 "BootStage$Unit" "ticksStarting" "I", Cond.methodLink RX2 202 yX0_comeToEnd, Cond.instanceMethod yX0_comeToEnd, Cond.selects RX0 yX0_comeToEnd yX0_comeToEnd, Cond.code yX0_comeToEnd cX0_comeToEnd 1 none, Cond.methodLink RX0 57 Lib.Math.max.name, Cond.methodLink RX2 193 yX2_failWithoutNeeds, Cond.instanceMethod yX2_failWithoutNeeds, Cond.selects RX2 yX2_failWithoutNeeds yX2_failWithoutNeeds, Cond.code yX2_failWithoutNeeds cX2_failWithoutNeeds 4 none, Cond.methodLink RX2 205 yX2_lostNeeds, Cond.instanceMethod yX2_lostNeeds, Cond.selects RX2 yX2_lostNeeds yX2_lostNeeds]
def wsL_law0_r19 : List Cond := [Cond.code yX2_lostNeeds cX2_lostNeeds 3 (some .int), Cond.methodLink RX2 184 yX0_isNeedLost, Cond.instanceMethod yX0_isNeedLost, Cond.selects RX0 yX0_isNeedLost yX0_isNeedLost, Cond.code yX0_isNeedLost cX0_isNeedLost 1 (some .boolean), Cond.methodLink RX0 53 yX0_isGone, Cond.instanceMethod yX0_isGone, Cond.selects RX0 yX0_isGone yX0_isGone, Cond.code yX0_isGone cX0_isGone 1 (some .boolean), Cond.methodLink RX2 196 yX2_startWaiting, Cond.instanceMethod yX2_startWaiting, Cond.selects RX2 yX2_startWaiting yX2_startWaiting, Cond.code yX2_startWaiting cX2_startWaiting 6 (some .int), Cond.methodLink RX2 208 yX2_metNeeds, Cond.instanceMethod yX2_metNeeds, Cond.selects RX2 yX2_metNeeds yX2_metNeeds, Cond.code yX2_metNeeds cX2_metNeeds 3 (some .int), Cond.methodLink RX2 180 yX0_isNeedMet, Cond.instanceMethod yX0_isNeedMet, Cond.selects RX0 yX0_isNeedMet yX0_isNeedMet, Cond.code yX0_isNeedMet cX0_isNeedMet 1 (some .boolean), Cond.methodLink RX2 211 yX2_doneWishes, Cond.instanceMethod yX2_doneWishes, Cond.selects RX2 yX2_doneWishes yX2_doneWishes]
def wsL_law0_r20 : List Cond := [Cond.code yX2_doneWishes cX2_doneWishes 3 (some .int), Cond.methodLink RX2 187 yX0_isWishDone, Cond.instanceMethod yX0_isWishDone, Cond.selects RX0 yX0_isWishDone yX0_isWishDone, Cond.code yX0_isWishDone cX0_isWishDone 1 (some .boolean), Cond.methodLink RX2 214 yX2_countStarting, Cond.instanceMethod yX2_countStarting, Cond.selects RX2 yX2_countStarting yX2_countStarting, Cond.code yX2_countStarting cX2_countStarting 3 (some .int), Cond.methodLink RL 109 yX3_tick, Cond.instanceMethod yX3_tick, Cond.selects RX3 yX3_tick yX3_tick, Cond.code yX3_tick cX3_tick 3 (some .int), Cond.methodLink RX3 134 yX3_passes, Cond.instanceMethod yX3_passes, Cond.selects RX3 yX3_passes yX3_passes, Cond.code yX3_passes cX3_passes 2 none, Cond.methodLink RX3 124 yX3_ends, Cond.instanceMethod yX3_ends, Cond.selects RX3 yX3_ends yX3_ends, Cond.code yX3_ends cX3_ends 3 none, Cond.methodLink RX3 128 yX3_isSo, Cond.instanceMethod yX3_isSo, Cond.selects RX3 yX3_isSo yX3_isSo]
def wsL_law0_r21 : List Cond := [Cond.code yX3_isSo cX3_isSo 6 (some .boolean), Cond.methodLink RX3 117 yX3_isLost, Cond.instanceMethod yX3_isLost, Cond.selects RX3 yX3_isLost yX3_isLost, Cond.code yX3_isLost cX3_isLost 3 (some .boolean), Cond.methodLink RX3 111 yX3_isOff, Cond.instanceMethod yX3_isOff, Cond.selects RX3 yX3_isOff yX3_isOff, Cond.code yX3_isOff cX3_isOff 2 (some .boolean), Cond.methodLink RX3 120 yX3_waits, Cond.instanceMethod yX3_waits, Cond.selects RX3 yX3_waits yX3_waits, Cond.code yX3_waits cX3_waits 5 (some .boolean), Cond.methodLink RX3 114 yX3_isMet, Cond.instanceMethod yX3_isMet, Cond.selects RX3 yX3_isMet yX3_isMet, Cond.code yX3_isMet cX3_isMet 3 (some .boolean), Cond.methodLink RX3 131 yX3_starting, Cond.instanceMethod yX3_starting, Cond.selects RX3 yX3_starting yX3_starting, Cond.code yX3_starting cX3_starting 3 (some .int), Cond.methodLink RL 110 yX2_goesOn, Cond.instanceMethod yX2_goesOn, Cond.selects RX2 yX2_goesOn yX2_goesOn]
def wsL_law0_r22 : List Cond := [Cond.code yX2_goesOn cX2_goesOn 1 (some .boolean), Cond.methodLink RL 114 yX3_goesOn, Cond.instanceMethod yX3_goesOn, Cond.selects RX3 yX3_goesOn yX3_goesOn, Cond.code yX3_goesOn cX3_goesOn 1 (some .boolean), Cond.methodLink RL 115 yL_state, Cond.static yL_state, Cond.codeWith yL_state cL_state 4 (some .int) [(0, 9, 12, 21)], Cond.methodLink RL 53 yX2_state, Cond.instanceMethod yX2_state, Cond.selects RX2 yX2_state yX2_state, Cond.code yX2_state cX2_state 2 (some .int), Cond.methodLink RL 117 yX3_state, Cond.instanceMethod yX3_state, Cond.selects RX3 yX3_state yX3_state, Cond.code yX3_state cX3_state 2 (some .int), Cond.methodLink RL 118 yL_waitsFor, Cond.static yL_waitsFor, Cond.codeWith yL_waitsFor cL_waitsFor 4 (some .int) [(0, 9, 12, 21)], Cond.methodLink RL 56 yX2_waitsFor, Cond.instanceMethod yX2_waitsFor, Cond.selects RX2 yX2_waitsFor yX2_waitsFor, Cond.code yX2_waitsFor cX2_waitsFor 4 (some .int), Cond.methodLink RX2 139 yX2_isAwaited]
def wsL_law0_r23 : List Cond := [Cond.instanceMethod yX2_isAwaited, Cond.selects RX2 yX2_isAwaited yX2_isAwaited, Cond.code yX2_isAwaited cX2_isAwaited 5 (some .boolean), Cond.methodLink RL 120 yX3_waitsFor, Cond.instanceMethod yX3_waitsFor, Cond.selects RX3 yX3_waitsFor yX3_waitsFor, Cond.code yX3_waitsFor cX3_waitsFor 4 (some .int), Cond.methodLink RL 121 yX2_bar, Cond.instanceMethod yX2_bar, Cond.selects RX2 yX2_bar yX2_bar, Cond.code yX2_bar cX2_bar 1 (some .int), Cond.methodLink RL 124 yX3_bar, Cond.instanceMethod yX3_bar, Cond.selects RX3 yX3_bar yX3_bar, Cond.code yX3_bar cX3_bar 1 (some .int), Cond.methodLink RL 125 yX2_ready, Cond.instanceMethod yX2_ready, Cond.selects RX2 yX2_ready yX2_ready, Cond.code yX2_ready cX2_ready 3 (some .int), Cond.methodLink RL 128 yX3_ready, Cond.instanceMethod yX3_ready, Cond.selects RX3 yX3_ready yX3_ready, Cond.code yX3_ready cX3_ready 3 (some .int), Cond.methodLink RL 129 yX2_canRun]
def wsL_law0_r24 : List Cond := [Cond.instanceMethod yX2_canRun, Cond.selects RX2 yX2_canRun yX2_canRun, Cond.code yX2_canRun cX2_canRun 4 (some .int), Cond.methodLink RX2 143 yX2_ableAlone, Cond.instanceMethod yX2_ableAlone, Cond.selects RX2 yX2_ableAlone yX2_ableAlone, Cond.code yX2_ableAlone cX2_ableAlone 4 (some .int), Cond.methodLink RX2 146 yX2_keepSupplied, Cond.instanceMethod yX2_keepSupplied, Cond.selects RX2 yX2_keepSupplied yX2_keepSupplied, Cond.code yX2_keepSupplied cX2_keepSupplied 6 (some .int), Cond.methodLink RL 132 yX3_canRun, Cond.instanceMethod yX3_canRun, Cond.selects RX3 yX3_canRun yX3_canRun, Cond.code yX3_canRun cX3_canRun 4 (some .int), Cond.methodLink RX3 137 yX3_canRunIn, Cond.instanceMethod yX3_canRunIn, Cond.selects RX3 yX3_canRunIn yX3_canRunIn, Cond.code yX3_canRunIn cX3_canRunIn 6 (some .boolean)]
def wsL_law0 : List Cond := (wsL_law0_r1 ++ (wsL_law0_r2 ++ (wsL_law0_r3 ++ (wsL_law0_r4 ++ (wsL_law0_r5 ++ (wsL_law0_r6 ++ (wsL_law0_r7 ++ (wsL_law0_r8 ++ (wsL_law0_r9 ++ (wsL_law0_r10 ++ (wsL_law0_r11 ++ (wsL_law0_r12 ++ (wsL_law0_r13 ++ (wsL_law0_r14 ++ (wsL_law0_r15 ++ (wsL_law0_r16 ++ (wsL_law0_r17 ++ (wsL_law0_r18 ++ (wsL_law0_r19 ++ (wsL_law0_r20 ++ (wsL_law0_r21 ++ (wsL_law0_r22 ++ (wsL_law0_r23 ++ wsL_law0_r24))))))))))))))))))))))) ++ wsX20 ++ wsX30 ++ wsJx4a65c0 ++ wsX00 ++ wsX10 ++ ([] : List Cond)
def wsL_law : List Cond := wsL_law0 ++ (vx_atS RX2 50 "java/lang/IllegalStateException" ["java/lang/RuntimeException", "java/lang/Exception"]).filter goodWord ++ (vx_atS RX2 159 "java/lang/IllegalArgumentException" ["java/lang/RuntimeException", "java/lang/Exception"]).filter goodWord ++ (vx_atS RX2 154 "java/lang/IndexOutOfBoundsException" ["java/lang/RuntimeException", "java/lang/Exception"]).filter goodWord
end
section
theorem dX0_init_0 : decode cX0_init 0 = .ok (.aload_n 0, 1) := by decide +kernel
theorem dX0_init_1 : decode cX0_init 1 = .ok (.invokespecial 3, 3) := by decide +kernel
theorem dX0_init_4 : decode cX0_init 4 = .ok (.aload_n 0, 1) := by decide +kernel
theorem dX0_init_5 : decode cX0_init 5 = .ok (.iconst 1, 1) := by decide +kernel
theorem dX0_init_6 : decode cX0_init 6 = .ok (.putfield 9, 3) := by decide +kernel
theorem dX0_init_9 : decode cX0_init 9 = .ok (.aload_n 0, 1) := by decide +kernel
theorem dX0_init_10 : decode cX0_init 10 = .ok (.iconst 0, 1) := by decide +kernel
theorem dX0_init_11 : decode cX0_init 11 = .ok (.putfield 15, 3) := by decide +kernel
theorem dX0_init_14 : decode cX0_init 14 = .ok (.aload_n 0, 1) := by decide +kernel
theorem dX0_init_15 : decode cX0_init 15 = .ok (.bipush 10, 2) := by decide +kernel
theorem dX0_init_17 : decode cX0_init 17 = .ok (.putfield 18, 3) := by decide +kernel
theorem dX0_init_20 : decode cX0_init 20 = .ok (.aload_n 0, 1) := by decide +kernel
theorem dX0_init_21 : decode cX0_init 21 = .ok (.iconst 0, 1) := by decide +kernel
theorem dX0_init_22 : decode cX0_init 22 = .ok (.putfield 21, 3) := by decide +kernel
theorem dX0_init_25 : decode cX0_init 25 = .ok (.aload_n 0, 1) := by decide +kernel
theorem dX0_init_26 : decode cX0_init 26 = .ok (.iconst 0, 1) := by decide +kernel
theorem dX0_init_27 : decode cX0_init 27 = .ok (.putfield 24, 3) := by decide +kernel
theorem dX0_init_30 : decode cX0_init 30 = .ok (.aload_n 0, 1) := by decide +kernel
theorem dX0_init_31 : decode cX0_init 31 = .ok (.aconst_null, 1) := by decide +kernel
theorem dX0_init_32 : decode cX0_init 32 = .ok (.putfield 28, 3) := by decide +kernel
theorem dX0_init_35 : decode cX0_init 35 = .ok (.aload_n 0, 1) := by decide +kernel
theorem dX0_init_36 : decode cX0_init 36 = .ok (.iconst 0, 1) := by decide +kernel
theorem dX0_init_37 : decode cX0_init 37 = .ok (.putfield 32, 3) := by decide +kernel
theorem dX0_init_40 : decode cX0_init 40 = .ok (.aload_n 0, 1) := by decide +kernel
theorem dX0_init_41 : decode cX0_init 41 = .ok (.iconst 0, 1) := by decide +kernel
theorem dX0_init_42 : decode cX0_init 42 = .ok (.putfield 35, 3) := by decide +kernel
theorem dX0_init_45 : decode cX0_init 45 = .ok (.aload_n 0, 1) := by decide +kernel
theorem dX0_init_46 : decode cX0_init 46 = .ok (.iconst 0, 1) := by decide +kernel
theorem dX0_init_47 : decode cX0_init 47 = .ok (.putfield 38, 3) := by decide +kernel
theorem dX0_init_50 : decode cX0_init 50 = .ok (.aload_n 0, 1) := by decide +kernel
theorem dX0_init_51 : decode cX0_init 51 = .ok (.iconst 0, 1) := by decide +kernel
theorem dX0_init_52 : decode cX0_init 52 = .ok (.putfield 41, 3) := by decide +kernel
theorem dX0_init_55 : decode cX0_init 55 = .ok (.aload_n 0, 1) := by decide +kernel
theorem dX0_init_56 : decode cX0_init 56 = .ok (.iconst 0, 1) := by decide +kernel
theorem dX0_init_57 : decode cX0_init 57 = .ok (.putfield 44, 3) := by decide +kernel
theorem dX0_init_60 : decode cX0_init 60 = .ok (.aload_n 0, 1) := by decide +kernel
theorem dX0_init_61 : decode cX0_init 61 = .ok (.iconst 0, 1) := by decide +kernel
theorem dX0_init_62 : decode cX0_init 62 = .ok (.putfield 47, 3) := by decide +kernel
theorem dX0_init_65 : decode cX0_init 65 = .ok (.aload_n 0, 1) := by decide +kernel
theorem dX0_init_66 : decode cX0_init 66 = .ok (.iload_n 1, 1) := by decide +kernel
theorem dX0_init_67 : decode cX0_init 67 = .ok (.putfield 50, 3) := by decide +kernel
theorem dX0_init_70 : decode cX0_init 70 = .ok (.return_, 1) := by decide +kernel
theorem dX0_bit_0 : decode cX0_bit 0 = .ok (.iconst 1, 1) := by decide +kernel
theorem dX0_bit_1 : decode cX0_bit 1 = .ok (.aload_n 0, 1) := by decide +kernel
theorem dX0_bit_2 : decode cX0_bit 2 = .ok (.getfield 50, 3) := by decide +kernel
theorem dX0_bit_5 : decode cX0_bit 5 = .ok (.ishl, 1) := by decide +kernel
theorem dX0_bit_6 : decode cX0_bit 6 = .ok (.ireturn, 1) := by decide +kernel
theorem dX0_resetForStart_0 : decode cX0_resetForStart 0 = .ok (.aload_n 0, 1) := by decide +kernel
theorem dX0_resetForStart_1 : decode cX0_resetForStart 1 = .ok (.aload_n 0, 1) := by decide +kernel
theorem dX0_resetForStart_2 : decode cX0_resetForStart 2 = .ok (.getfield 24, 3) := by decide +kernel
theorem dX0_resetForStart_5 : decode cX0_resetForStart 5 = .ok (.ifCond .eq 7, 3) := by decide +kernel
theorem dX0_resetForStart_8 : decode cX0_resetForStart 8 = .ok (.iconst 4, 1) := by decide +kernel
theorem dX0_resetForStart_9 : decode cX0_resetForStart 9 = .ok (.goto 4, 3) := by decide +kernel
theorem dX0_resetForStart_12 : decode cX0_resetForStart 12 = .ok (.iconst 0, 1) := by decide +kernel
theorem dX0_resetForStart_13 : decode cX0_resetForStart 13 = .ok (.putfield 38, 3) := by decide +kernel
theorem dX0_resetForStart_16 : decode cX0_resetForStart 16 = .ok (.aload_n 0, 1) := by decide +kernel
theorem dX0_resetForStart_17 : decode cX0_resetForStart 17 = .ok (.iconst 0, 1) := by decide +kernel
theorem dX0_resetForStart_18 : decode cX0_resetForStart 18 = .ok (.putfield 44, 3) := by decide +kernel
theorem dX0_resetForStart_21 : decode cX0_resetForStart 21 = .ok (.aload_n 0, 1) := by decide +kernel
theorem dX0_resetForStart_22 : decode cX0_resetForStart 22 = .ok (.aload_n 0, 1) := by decide +kernel
theorem dX0_resetForStart_23 : decode cX0_resetForStart 23 = .ok (.getfield 18, 3) := by decide +kernel
theorem dX0_resetForStart_26 : decode cX0_resetForStart 26 = .ok (.putfield 47, 3) := by decide +kernel
theorem dX0_resetForStart_29 : decode cX0_resetForStart 29 = .ok (.aload_n 0, 1) := by decide +kernel
theorem dX0_resetForStart_30 : decode cX0_resetForStart 30 = .ok (.getfield 24, 3) := by decide +kernel
theorem dX0_resetForStart_33 : decode cX0_resetForStart 33 = .ok (.ifCond .eq 7, 3) := by decide +kernel
theorem dX0_resetForStart_36 : decode cX0_resetForStart 36 = .ok (.iconst 0, 1) := by decide +kernel
theorem dX0_resetForStart_37 : decode cX0_resetForStart 37 = .ok (.goto 7, 3) := by decide +kernel
theorem dX0_resetForStart_40 : decode cX0_resetForStart 40 = .ok (.aload_n 0, 1) := by decide +kernel
theorem dX0_resetForStart_41 : decode cX0_resetForStart 41 = .ok (.getfield 18, 3) := by decide +kernel
theorem dX0_resetForStart_44 : decode cX0_resetForStart 44 = .ok (.ireturn, 1) := by decide +kernel
theorem dX0_isGone_0 : decode cX0_isGone 0 = .ok (.aload_n 0, 1) := by decide +kernel
theorem dX0_isGone_1 : decode cX0_isGone 1 = .ok (.getfield 38, 3) := by decide +kernel
theorem dX0_isGone_4 : decode cX0_isGone 4 = .ok (.iconst 3, 1) := by decide +kernel
theorem dX0_isGone_5 : decode cX0_isGone 5 = .ok (.if_icmp .eq 11, 3) := by decide +kernel
theorem dX0_isGone_8 : decode cX0_isGone 8 = .ok (.aload_n 0, 1) := by decide +kernel
theorem dX0_isGone_9 : decode cX0_isGone 9 = .ok (.getfield 38, 3) := by decide +kernel
theorem dX0_isGone_12 : decode cX0_isGone 12 = .ok (.iconst 4, 1) := by decide +kernel
theorem dX0_isGone_13 : decode cX0_isGone 13 = .ok (.if_icmp .ne 7, 3) := by decide +kernel
theorem dX0_isGone_16 : decode cX0_isGone 16 = .ok (.iconst 1, 1) := by decide +kernel
theorem dX0_isGone_17 : decode cX0_isGone 17 = .ok (.goto 4, 3) := by decide +kernel
theorem dX0_isGone_20 : decode cX0_isGone 20 = .ok (.iconst 0, 1) := by decide +kernel
theorem dX0_isGone_21 : decode cX0_isGone 21 = .ok (.ireturn, 1) := by decide +kernel
set_option maxRecDepth 20000 in
theorem ggX0_isNeedMet_X0_isGone : GoodIn wsX0_isNeedMet wsX0_isGone := goodIn_r _ [7, 1, 8, 9, 10, 11, 12, 13, 14, 15, 16, 17, 18, 19, 20] (by decide +kernel) (by decide +kernel)
set_option maxRecDepth 20000 in
theorem gX0_isNeedMet_X0_isGone : GoodIn wsX0_isNeedMet (wsV RX0 53 RX0 yX0_isGone wsX0_isGone) := goodIn_app (goodIn_of _ (by decide +kernel)) ggX0_isNeedMet_X0_isGone
theorem dX0_isNeedMet_0 : decode cX0_isNeedMet 0 = .ok (.aload_n 0, 1) := by decide +kernel
theorem dX0_isNeedMet_1 : decode cX0_isNeedMet 1 = .ok (.getfield 38, 3) := by decide +kernel
theorem dX0_isNeedMet_4 : decode cX0_isNeedMet 4 = .ok (.iconst 2, 1) := by decide +kernel
theorem dX0_isNeedMet_5 : decode cX0_isNeedMet 5 = .ok (.if_icmp .eq 28, 3) := by decide +kernel
theorem dX0_isNeedMet_8 : decode cX0_isNeedMet 8 = .ok (.aload_n 0, 1) := by decide +kernel
theorem dX0_isNeedMet_9 : decode cX0_isNeedMet 9 = .ok (.invokevirtual 53, 3) := by decide +kernel
theorem dX0_isNeedMet_12 : decode cX0_isNeedMet 12 = .ok (.ifCond .eq 25, 3) := by decide +kernel
theorem dX0_isNeedMet_15 : decode cX0_isNeedMet 15 = .ok (.aload_n 0, 1) := by decide +kernel
theorem dX0_isNeedMet_16 : decode cX0_isNeedMet 16 = .ok (.getfield 28, 3) := by decide +kernel
theorem dX0_isNeedMet_19 : decode cX0_isNeedMet 19 = .ok (.ifnull 18, 3) := by decide +kernel
theorem dX0_isNeedMet_22 : decode cX0_isNeedMet 22 = .ok (.aload_n 0, 1) := by decide +kernel
theorem dX0_isNeedMet_23 : decode cX0_isNeedMet 23 = .ok (.getfield 28, 3) := by decide +kernel
theorem dX0_isNeedMet_26 : decode cX0_isNeedMet 26 = .ok (.getfield 38, 3) := by decide +kernel
theorem dX0_isNeedMet_29 : decode cX0_isNeedMet 29 = .ok (.iconst 2, 1) := by decide +kernel
theorem dX0_isNeedMet_30 : decode cX0_isNeedMet 30 = .ok (.if_icmp .ne 7, 3) := by decide +kernel
theorem dX0_isNeedMet_33 : decode cX0_isNeedMet 33 = .ok (.iconst 1, 1) := by decide +kernel
theorem dX0_isNeedMet_34 : decode cX0_isNeedMet 34 = .ok (.goto 4, 3) := by decide +kernel
theorem dX0_isNeedMet_37 : decode cX0_isNeedMet 37 = .ok (.iconst 0, 1) := by decide +kernel
theorem dX0_isNeedMet_38 : decode cX0_isNeedMet 38 = .ok (.ireturn, 1) := by decide +kernel
set_option maxRecDepth 20000 in
theorem ggX0_isNeedLost_X0_isGone : GoodIn wsX0_isNeedLost wsX0_isGone := goodIn_r _ [6, 7, 8, 9, 10, 11, 12, 13, 14, 15, 16, 17, 18, 19, 20] (by decide +kernel) (by decide +kernel)
set_option maxRecDepth 20000 in
theorem gX0_isNeedLost_X0_isGone : GoodIn wsX0_isNeedLost (wsV RX0 53 RX0 yX0_isGone wsX0_isGone) := goodIn_app (goodIn_of _ (by decide +kernel)) ggX0_isNeedLost_X0_isGone
theorem dX0_isNeedLost_0 : decode cX0_isNeedLost 0 = .ok (.aload_n 0, 1) := by decide +kernel
theorem dX0_isNeedLost_1 : decode cX0_isNeedLost 1 = .ok (.invokevirtual 53, 3) := by decide +kernel
theorem dX0_isNeedLost_4 : decode cX0_isNeedLost 4 = .ok (.ifCond .eq 24, 3) := by decide +kernel
theorem dX0_isNeedLost_7 : decode cX0_isNeedLost 7 = .ok (.aload_n 0, 1) := by decide +kernel
theorem dX0_isNeedLost_8 : decode cX0_isNeedLost 8 = .ok (.getfield 28, 3) := by decide +kernel
theorem dX0_isNeedLost_11 : decode cX0_isNeedLost 11 = .ok (.ifnull 13, 3) := by decide +kernel
theorem dX0_isNeedLost_14 : decode cX0_isNeedLost 14 = .ok (.aload_n 0, 1) := by decide +kernel
theorem dX0_isNeedLost_15 : decode cX0_isNeedLost 15 = .ok (.getfield 28, 3) := by decide +kernel
theorem dX0_isNeedLost_18 : decode cX0_isNeedLost 18 = .ok (.invokevirtual 53, 3) := by decide +kernel
theorem dX0_isNeedLost_21 : decode cX0_isNeedLost 21 = .ok (.ifCond .eq 7, 3) := by decide +kernel
theorem dX0_isNeedLost_24 : decode cX0_isNeedLost 24 = .ok (.iconst 1, 1) := by decide +kernel
theorem dX0_isNeedLost_25 : decode cX0_isNeedLost 25 = .ok (.goto 4, 3) := by decide +kernel
theorem dX0_isNeedLost_28 : decode cX0_isNeedLost 28 = .ok (.iconst 0, 1) := by decide +kernel
theorem dX0_isNeedLost_29 : decode cX0_isNeedLost 29 = .ok (.ireturn, 1) := by decide +kernel
set_option maxRecDepth 20000 in
theorem ggX0_isWishDone_X0_isGone : GoodIn wsX0_isWishDone wsX0_isGone := goodIn_r _ [6, 1, 7, 8, 9, 10, 11, 12, 13, 14, 15, 16, 17, 18, 19] (by decide +kernel) (by decide +kernel)
set_option maxRecDepth 20000 in
theorem gX0_isWishDone_X0_isGone : GoodIn wsX0_isWishDone (wsV RX0 53 RX0 yX0_isGone wsX0_isGone) := goodIn_app (goodIn_of _ (by decide +kernel)) ggX0_isWishDone_X0_isGone
theorem dX0_isWishDone_0 : decode cX0_isWishDone 0 = .ok (.aload_n 0, 1) := by decide +kernel
theorem dX0_isWishDone_1 : decode cX0_isWishDone 1 = .ok (.getfield 38, 3) := by decide +kernel
theorem dX0_isWishDone_4 : decode cX0_isWishDone 4 = .ok (.iconst 2, 1) := by decide +kernel
theorem dX0_isWishDone_5 : decode cX0_isWishDone 5 = .ok (.if_icmp .eq 10, 3) := by decide +kernel
theorem dX0_isWishDone_8 : decode cX0_isWishDone 8 = .ok (.aload_n 0, 1) := by decide +kernel
theorem dX0_isWishDone_9 : decode cX0_isWishDone 9 = .ok (.invokevirtual 53, 3) := by decide +kernel
theorem dX0_isWishDone_12 : decode cX0_isWishDone 12 = .ok (.ifCond .eq 7, 3) := by decide +kernel
theorem dX0_isWishDone_15 : decode cX0_isWishDone 15 = .ok (.iconst 1, 1) := by decide +kernel
theorem dX0_isWishDone_16 : decode cX0_isWishDone 16 = .ok (.goto 4, 3) := by decide +kernel
theorem dX0_isWishDone_19 : decode cX0_isWishDone 19 = .ok (.iconst 0, 1) := by decide +kernel
theorem dX0_isWishDone_20 : decode cX0_isWishDone 20 = .ok (.ireturn, 1) := by decide +kernel
theorem dX0_comeToEnd_0 : decode cX0_comeToEnd 0 = .ok (.aload_n 0, 1) := by decide +kernel
theorem dX0_comeToEnd_1 : decode cX0_comeToEnd 1 = .ok (.getfield 21, 3) := by decide +kernel
theorem dX0_comeToEnd_4 : decode cX0_comeToEnd 4 = .ok (.ifCond .ne 28, 3) := by decide +kernel
theorem dX0_comeToEnd_7 : decode cX0_comeToEnd 7 = .ok (.aload_n 0, 1) := by decide +kernel
theorem dX0_comeToEnd_8 : decode cX0_comeToEnd 8 = .ok (.iconst 2, 1) := by decide +kernel
theorem dX0_comeToEnd_9 : decode cX0_comeToEnd 9 = .ok (.putfield 38, 3) := by decide +kernel
theorem dX0_comeToEnd_12 : decode cX0_comeToEnd 12 = .ok (.aload_n 0, 1) := by decide +kernel
theorem dX0_comeToEnd_13 : decode cX0_comeToEnd 13 = .ok (.iconst 1, 1) := by decide +kernel
theorem dX0_comeToEnd_14 : decode cX0_comeToEnd 14 = .ok (.aload_n 0, 1) := by decide +kernel
theorem dX0_comeToEnd_15 : decode cX0_comeToEnd 15 = .ok (.getfield 18, 3) := by decide +kernel
theorem dX0_comeToEnd_18 : decode cX0_comeToEnd 18 = .ok (.aload_n 0, 1) := by decide +kernel
theorem dX0_comeToEnd_19 : decode cX0_comeToEnd 19 = .ok (.getfield 9, 3) := by decide +kernel
theorem dX0_comeToEnd_22 : decode cX0_comeToEnd 22 = .ok (.iadd, 1) := by decide +kernel
theorem dX0_comeToEnd_23 : decode cX0_comeToEnd 23 = .ok (.iconst 2, 1) := by decide +kernel
theorem dX0_comeToEnd_24 : decode cX0_comeToEnd 24 = .ok (.idiv, 1) := by decide +kernel
theorem dX0_comeToEnd_25 : decode cX0_comeToEnd 25 = .ok (.invokestatic 57, 3) := by decide +kernel
theorem dX0_comeToEnd_28 : decode cX0_comeToEnd 28 = .ok (.putfield 18, 3) := by decide +kernel
theorem dX0_comeToEnd_31 : decode cX0_comeToEnd 31 = .ok (.return_, 1) := by decide +kernel
theorem dX0_comeToEnd_32 : decode cX0_comeToEnd 32 = .ok (.aload_n 0, 1) := by decide +kernel
theorem dX0_comeToEnd_33 : decode cX0_comeToEnd 33 = .ok (.dup, 1) := by decide +kernel
theorem dX0_comeToEnd_34 : decode cX0_comeToEnd 34 = .ok (.getfield 21, 3) := by decide +kernel
theorem dX0_comeToEnd_37 : decode cX0_comeToEnd 37 = .ok (.iconst 1, 1) := by decide +kernel
theorem dX0_comeToEnd_38 : decode cX0_comeToEnd 38 = .ok (.isub, 1) := by decide +kernel
theorem dX0_comeToEnd_39 : decode cX0_comeToEnd 39 = .ok (.putfield 21, 3) := by decide +kernel
theorem dX0_comeToEnd_42 : decode cX0_comeToEnd 42 = .ok (.aload_n 0, 1) := by decide +kernel
theorem dX0_comeToEnd_43 : decode cX0_comeToEnd 43 = .ok (.getfield 44, 3) := by decide +kernel
theorem dX0_comeToEnd_46 : decode cX0_comeToEnd 46 = .ok (.aload_n 0, 1) := by decide +kernel
theorem dX0_comeToEnd_47 : decode cX0_comeToEnd 47 = .ok (.getfield 15, 3) := by decide +kernel
theorem dX0_comeToEnd_50 : decode cX0_comeToEnd 50 = .ok (.if_icmp .ge 21, 3) := by decide +kernel
theorem dX0_comeToEnd_53 : decode cX0_comeToEnd 53 = .ok (.aload_n 0, 1) := by decide +kernel
theorem dX0_comeToEnd_54 : decode cX0_comeToEnd 54 = .ok (.dup, 1) := by decide +kernel
theorem dX0_comeToEnd_55 : decode cX0_comeToEnd 55 = .ok (.getfield 44, 3) := by decide +kernel
theorem dX0_comeToEnd_58 : decode cX0_comeToEnd 58 = .ok (.iconst 1, 1) := by decide +kernel
theorem dX0_comeToEnd_59 : decode cX0_comeToEnd 59 = .ok (.iadd, 1) := by decide +kernel
theorem dX0_comeToEnd_60 : decode cX0_comeToEnd 60 = .ok (.putfield 44, 3) := by decide +kernel
theorem dX0_comeToEnd_63 : decode cX0_comeToEnd 63 = .ok (.aload_n 0, 1) := by decide +kernel
theorem dX0_comeToEnd_64 : decode cX0_comeToEnd 64 = .ok (.iconst 0, 1) := by decide +kernel
theorem dX0_comeToEnd_65 : decode cX0_comeToEnd 65 = .ok (.putfield 38, 3) := by decide +kernel
theorem dX0_comeToEnd_68 : decode cX0_comeToEnd 68 = .ok (.goto 8, 3) := by decide +kernel
theorem dX0_comeToEnd_71 : decode cX0_comeToEnd 71 = .ok (.aload_n 0, 1) := by decide +kernel
theorem dX0_comeToEnd_72 : decode cX0_comeToEnd 72 = .ok (.iconst 3, 1) := by decide +kernel
theorem dX0_comeToEnd_73 : decode cX0_comeToEnd 73 = .ok (.putfield 38, 3) := by decide +kernel
theorem dX0_comeToEnd_76 : decode cX0_comeToEnd 76 = .ok (.return_, 1) := by decide +kernel
theorem dX0_timeDone_0 : decode cX0_timeDone 0 = .ok (.aload_n 0, 1) := by decide +kernel
theorem dX0_timeDone_1 : decode cX0_timeDone 1 = .ok (.getfield 38, 3) := by decide +kernel
theorem dX0_timeDone_4 : decode cX0_timeDone 4 = .ok (.iconst 2, 1) := by decide +kernel
theorem dX0_timeDone_5 : decode cX0_timeDone 5 = .ok (.if_icmp .eq 11, 3) := by decide +kernel
theorem dX0_timeDone_8 : decode cX0_timeDone 8 = .ok (.aload_n 0, 1) := by decide +kernel
theorem dX0_timeDone_9 : decode cX0_timeDone 9 = .ok (.getfield 38, 3) := by decide +kernel
theorem dX0_timeDone_12 : decode cX0_timeDone 12 = .ok (.iconst 3, 1) := by decide +kernel
theorem dX0_timeDone_13 : decode cX0_timeDone 13 = .ok (.if_icmp .ne 8, 3) := by decide +kernel
theorem dX0_timeDone_16 : decode cX0_timeDone 16 = .ok (.aload_n 0, 1) := by decide +kernel
theorem dX0_timeDone_17 : decode cX0_timeDone 17 = .ok (.getfield 47, 3) := by decide +kernel
theorem dX0_timeDone_20 : decode cX0_timeDone 20 = .ok (.ireturn, 1) := by decide +kernel
theorem dX0_timeDone_21 : decode cX0_timeDone 21 = .ok (.aload_n 0, 1) := by decide +kernel
theorem dX0_timeDone_22 : decode cX0_timeDone 22 = .ok (.getfield 38, 3) := by decide +kernel
theorem dX0_timeDone_25 : decode cX0_timeDone 25 = .ok (.iconst 1, 1) := by decide +kernel
theorem dX0_timeDone_26 : decode cX0_timeDone 26 = .ok (.if_icmp .ne 17, 3) := by decide +kernel
theorem dX0_timeDone_29 : decode cX0_timeDone 29 = .ok (.aload_n 0, 1) := by decide +kernel
theorem dX0_timeDone_30 : decode cX0_timeDone 30 = .ok (.getfield 41, 3) := by decide +kernel
theorem dX0_timeDone_33 : decode cX0_timeDone 33 = .ok (.aload_n 0, 1) := by decide +kernel
theorem dX0_timeDone_34 : decode cX0_timeDone 34 = .ok (.getfield 47, 3) := by decide +kernel
theorem dX0_timeDone_37 : decode cX0_timeDone 37 = .ok (.invokestatic 63, 3) := by decide +kernel
theorem dX0_timeDone_40 : decode cX0_timeDone 40 = .ok (.goto 4, 3) := by decide +kernel
theorem dX0_timeDone_43 : decode cX0_timeDone 43 = .ok (.iconst 0, 1) := by decide +kernel
theorem dX0_timeDone_44 : decode cX0_timeDone 44 = .ok (.ireturn, 1) := by decide +kernel
theorem dX1_init_0 : decode cX1_init 0 = .ok (.aload_n 0, 1) := by decide +kernel
theorem dX1_init_1 : decode cX1_init 1 = .ok (.invokespecial 1, 3) := by decide +kernel
theorem dX1_init_4 : decode cX1_init 4 = .ok (.aload_n 0, 1) := by decide +kernel
theorem dX1_init_5 : decode cX1_init 5 = .ok (.aload_n 1, 1) := by decide +kernel
theorem dX1_init_6 : decode cX1_init 6 = .ok (.putfield 7, 3) := by decide +kernel
theorem dX1_init_9 : decode cX1_init 9 = .ok (.aload_n 0, 1) := by decide +kernel
theorem dX1_init_10 : decode cX1_init 10 = .ok (.aload_n 2, 1) := by decide +kernel
theorem dX1_init_11 : decode cX1_init 11 = .ok (.putfield 13, 3) := by decide +kernel
theorem dX1_init_14 : decode cX1_init 14 = .ok (.aload_n 0, 1) := by decide +kernel
theorem dX1_init_15 : decode cX1_init 15 = .ok (.iload_n 3, 1) := by decide +kernel
theorem dX1_init_16 : decode cX1_init 16 = .ok (.putfield 16, 3) := by decide +kernel
theorem dX1_init_19 : decode cX1_init 19 = .ok (.return_, 1) := by decide +kernel
set_option maxRecDepth 20000 in
theorem ggX2_init_Jx4a65c_init_da8c8 : GoodIn wsX2_init wsJx4a65c_init_da8c8 := goodIn_r _ [19, 20, 21, 22, 23, 24, 25, 26, 27, 28, 29, 30, 31, 2, 3, 56, 57, 58] (by decide +kernel) (by decide +kernel)
set_option maxRecDepth 20000 in
theorem gX2_init_Jx4a65c_init_da8c8 : GoodIn wsX2_init (wsJx4a65c_init_da8c8) := ggX2_init_Jx4a65c_init_da8c8
set_option maxRecDepth 20000 in
theorem ggX2_init_X0_init : GoodIn wsX2_init wsX0_init := goodIn_r _ [34, 35, 2, 3, 36, 37, 38, 39, 40, 41, 42, 43, 44, 45, 46, 47, 48, 59, 60, 61, 62, 63, 64, 65, 66, 67, 68, 69, 70, 71] (by decide +kernel) (by decide +kernel)
set_option maxRecDepth 20000 in
theorem gX2_init_X0_init : GoodIn wsX2_init (wsX0_init) := ggX2_init_X0_init
end
section
theorem dX2_init_0 : decode cX2_init 0 = .ok (.aload_n 0, 1) := by decide +kernel
theorem dX2_init_1 : decode cX2_init 1 = .ok (.invokespecial 1, 3) := by decide +kernel
theorem dX2_init_4 : decode cX2_init 4 = .ok (.aload_n 0, 1) := by decide +kernel
theorem dX2_init_5 : decode cX2_init 5 = .ok (.bipush 20, 2) := by decide +kernel
theorem dX2_init_7 : decode cX2_init 7 = .ok (.anewarray 9, 3) := by decide +kernel
theorem dX2_init_10 : decode cX2_init 10 = .ok (.putfield 11, 3) := by decide +kernel
theorem dX2_init_13 : decode cX2_init 13 = .ok (.aload_n 0, 1) := by decide +kernel
theorem dX2_init_14 : decode cX2_init 14 = .ok (.iconst 0, 1) := by decide +kernel
theorem dX2_init_15 : decode cX2_init 15 = .ok (.putfield 15, 3) := by decide +kernel
theorem dX2_init_18 : decode cX2_init 18 = .ok (.aload_n 0, 1) := by decide +kernel
theorem dX2_init_19 : decode cX2_init 19 = .ok (.new 19, 3) := by decide +kernel
theorem dX2_init_22 : decode cX2_init 22 = .ok (.dup, 1) := by decide +kernel
theorem dX2_init_23 : decode cX2_init 23 = .ok (.invokespecial 21, 3) := by decide +kernel
theorem dX2_init_26 : decode cX2_init 26 = .ok (.putfield 22, 3) := by decide +kernel
theorem dX2_init_29 : decode cX2_init 29 = .ok (.aload_n 0, 1) := by decide +kernel
theorem dX2_init_30 : decode cX2_init 30 = .ok (.iconst 0, 1) := by decide +kernel
theorem dX2_init_31 : decode cX2_init 31 = .ok (.putfield 26, 3) := by decide +kernel
theorem dX2_init_34 : decode cX2_init 34 = .ok (.aload_n 0, 1) := by decide +kernel
theorem dX2_init_35 : decode cX2_init 35 = .ok (.iconst 0, 1) := by decide +kernel
theorem dX2_init_36 : decode cX2_init 36 = .ok (.putfield 30, 3) := by decide +kernel
theorem dX2_init_39 : decode cX2_init 39 = .ok (.aload_n 0, 1) := by decide +kernel
theorem dX2_init_40 : decode cX2_init 40 = .ok (.iconst 0, 1) := by decide +kernel
theorem dX2_init_41 : decode cX2_init 41 = .ok (.putfield 33, 3) := by decide +kernel
theorem dX2_init_44 : decode cX2_init 44 = .ok (.aload_n 0, 1) := by decide +kernel
theorem dX2_init_45 : decode cX2_init 45 = .ok (.iconst 0, 1) := by decide +kernel
theorem dX2_init_46 : decode cX2_init 46 = .ok (.putfield 36, 3) := by decide +kernel
theorem dX2_init_49 : decode cX2_init 49 = .ok (.iconst 0, 1) := by decide +kernel
theorem dX2_init_50 : decode cX2_init 50 = .ok (.istore_n 1, 1) := by decide +kernel
theorem dX2_init_51 : decode cX2_init 51 = .ok (.iload_n 1, 1) := by decide +kernel
theorem dX2_init_52 : decode cX2_init 52 = .ok (.bipush 20, 2) := by decide +kernel
theorem dX2_init_54 : decode cX2_init 54 = .ok (.if_icmp .ge 23, 3) := by decide +kernel
theorem dX2_init_57 : decode cX2_init 57 = .ok (.aload_n 0, 1) := by decide +kernel
theorem dX2_init_58 : decode cX2_init 58 = .ok (.getfield 11, 3) := by decide +kernel
theorem dX2_init_61 : decode cX2_init 61 = .ok (.iload_n 1, 1) := by decide +kernel
theorem dX2_init_62 : decode cX2_init 62 = .ok (.new 9, 3) := by decide +kernel
theorem dX2_init_65 : decode cX2_init 65 = .ok (.dup, 1) := by decide +kernel
theorem dX2_init_66 : decode cX2_init 66 = .ok (.iload_n 1, 1) := by decide +kernel
theorem dX2_init_67 : decode cX2_init 67 = .ok (.invokespecial 39, 3) := by decide +kernel
theorem dX2_init_70 : decode cX2_init 70 = .ok (.aastore, 1) := by decide +kernel
theorem dX2_init_71 : decode cX2_init 71 = .ok (.iinc 1 1, 3) := by decide +kernel
theorem dX2_init_74 : decode cX2_init 74 = .ok (.goto (-23), 3) := by decide +kernel
theorem dX2_init_77 : decode cX2_init 77 = .ok (.return_, 1) := by decide +kernel
set_option maxRecDepth 20000 in
theorem ggX2_add_X2_checkRange : GoodIn wsX2_add wsX2_checkRange := goodIn_ca (goodIn_r _ [12, 13, 14] (by decide +kernel) (by decide +kernel)) (goodIn_sub (fun _ h => List.mem_cons_of_mem _ (List.mem_append_right _ h)) (by decide +kernel))
set_option maxRecDepth 20000 in
theorem gX2_add_X2_checkRange : GoodIn wsX2_add (wsV RX2 42 RX2 yX2_checkRange wsX2_checkRange) := goodIn_app (goodIn_of _ (by decide +kernel)) ggX2_add_X2_checkRange
set_option maxRecDepth 20000 in
theorem ggX2_add_X2_checkNoStart : GoodIn wsX2_add wsX2_checkNoStart := goodIn_ca (goodIn_r _ [18, 1, 2, 19, 20, 21, 22, 23, 24, 25, 26] (by decide +kernel) (by decide +kernel)) (goodIn_sub (fun _ h => List.mem_cons_of_mem _ (List.mem_append_left _ (List.mem_append_right _ h))) (by decide +kernel))
set_option maxRecDepth 20000 in
theorem gX2_add_X2_checkNoStart : GoodIn wsX2_add (wsV RX2 53 RX2 yX2_checkNoStart wsX2_checkNoStart) := goodIn_app (goodIn_of _ (by decide +kernel)) ggX2_add_X2_checkNoStart
theorem dX2_add_0 : decode cX2_add 0 = .ok (.aload_n 0, 1) := by decide +kernel
theorem dX2_add_1 : decode cX2_add 1 = .ok (.iload_n 1, 1) := by decide +kernel
theorem dX2_add_2 : decode cX2_add 2 = .ok (.iconst 1, 1) := by decide +kernel
theorem dX2_add_3 : decode cX2_add 3 = .ok (.bipush 100, 2) := by decide +kernel
theorem dX2_add_5 : decode cX2_add 5 = .ok (.invokevirtual 42, 3) := by decide +kernel
theorem dX2_add_8 : decode cX2_add 8 = .ok (.aload_n 0, 1) := by decide +kernel
theorem dX2_add_9 : decode cX2_add 9 = .ok (.iload_n 2, 1) := by decide +kernel
theorem dX2_add_10 : decode cX2_add 10 = .ok (.iconst 0, 1) := by decide +kernel
theorem dX2_add_11 : decode cX2_add 11 = .ok (.iconst 3, 1) := by decide +kernel
theorem dX2_add_12 : decode cX2_add 12 = .ok (.invokevirtual 42, 3) := by decide +kernel
theorem dX2_add_15 : decode cX2_add 15 = .ok (.aload_n 0, 1) := by decide +kernel
theorem dX2_add_16 : decode cX2_add 16 = .ok (.getfield 15, 3) := by decide +kernel
theorem dX2_add_19 : decode cX2_add 19 = .ok (.bipush 20, 2) := by decide +kernel
theorem dX2_add_21 : decode cX2_add 21 = .ok (.if_icmp .lt 13, 3) := by decide +kernel
theorem dX2_add_24 : decode cX2_add 24 = .ok (.new 46, 3) := by decide +kernel
theorem dX2_add_27 : decode cX2_add 27 = .ok (.dup, 1) := by decide +kernel
theorem dX2_add_28 : decode cX2_add 28 = .ok (.ldc 48, 2) := by decide +kernel
theorem dX2_add_30 : decode cX2_add 30 = .ok (.invokespecial 50, 3) := by decide +kernel
theorem dX2_add_33 : decode cX2_add 33 = .ok (.athrow, 1) := by decide +kernel
theorem dX2_add_34 : decode cX2_add 34 = .ok (.aload_n 0, 1) := by decide +kernel
theorem dX2_add_35 : decode cX2_add 35 = .ok (.invokevirtual 53, 3) := by decide +kernel
theorem dX2_add_38 : decode cX2_add 38 = .ok (.aload_n 0, 1) := by decide +kernel
theorem dX2_add_39 : decode cX2_add 39 = .ok (.getfield 11, 3) := by decide +kernel
theorem dX2_add_42 : decode cX2_add 42 = .ok (.aload_n 0, 1) := by decide +kernel
theorem dX2_add_43 : decode cX2_add 43 = .ok (.getfield 15, 3) := by decide +kernel
theorem dX2_add_46 : decode cX2_add 46 = .ok (.aaload, 1) := by decide +kernel
theorem dX2_add_47 : decode cX2_add 47 = .ok (.astore_n 3, 1) := by decide +kernel
theorem dX2_add_48 : decode cX2_add 48 = .ok (.aload_n 3, 1) := by decide +kernel
theorem dX2_add_49 : decode cX2_add 49 = .ok (.iload_n 1, 1) := by decide +kernel
theorem dX2_add_50 : decode cX2_add 50 = .ok (.putfield 56, 3) := by decide +kernel
theorem dX2_add_53 : decode cX2_add 53 = .ok (.aload_n 3, 1) := by decide +kernel
theorem dX2_add_54 : decode cX2_add 54 = .ok (.iload_n 2, 1) := by decide +kernel
theorem dX2_add_55 : decode cX2_add 55 = .ok (.putfield 59, 3) := by decide +kernel
theorem dX2_add_58 : decode cX2_add 58 = .ok (.aload_n 0, 1) := by decide +kernel
theorem dX2_add_59 : decode cX2_add 59 = .ok (.dup, 1) := by decide +kernel
theorem dX2_add_60 : decode cX2_add 60 = .ok (.getfield 15, 3) := by decide +kernel
theorem dX2_add_63 : decode cX2_add 63 = .ok (.iconst 1, 1) := by decide +kernel
theorem dX2_add_64 : decode cX2_add 64 = .ok (.iadd, 1) := by decide +kernel
theorem dX2_add_65 : decode cX2_add 65 = .ok (.putfield 15, 3) := by decide +kernel
theorem dX2_add_68 : decode cX2_add 68 = .ok (.aload_n 3, 1) := by decide +kernel
theorem dX2_add_69 : decode cX2_add 69 = .ok (.getfield 62, 3) := by decide +kernel
theorem dX2_add_72 : decode cX2_add 72 = .ok (.ireturn, 1) := by decide +kernel
set_option maxRecDepth 20000 in
theorem ggX2_need_X2_unitAt : GoodIn wsX2_need wsX2_unitAt := goodIn_ca (goodIn_r _ [8, 9, 10, 11, 12, 46, 47, 48, 49, 50, 51, 52] (by decide +kernel) (by decide +kernel)) (goodIn_sub (fun _ h => List.mem_cons_of_mem _ (List.mem_append_right _ h)) (by decide +kernel))
set_option maxRecDepth 20000 in
theorem gX2_need_X2_unitAt : GoodIn wsX2_need (wsV RX2 65 RX2 yX2_unitAt wsX2_unitAt) := goodIn_app (goodIn_of _ (by decide +kernel)) ggX2_need_X2_unitAt
set_option maxRecDepth 20000 in
theorem ggX2_need_X2_reaches : GoodIn wsX2_need wsX2_reaches := goodIn_r _ [16, 11, 12, 3, 17, 18, 19, 20, 21, 22, 23, 24, 25, 26, 7, 27, 46, 47, 48, 49, 50, 51, 52, 33, 34, 35, 36, 37, 38, 39, 40, 41, 42, 43, 44, 45] (by decide +kernel) (by decide +kernel)
set_option maxRecDepth 20000 in
theorem gX2_need_X2_reaches : GoodIn wsX2_need (wsV RX2 69 RX2 yX2_reaches wsX2_reaches) := goodIn_app (goodIn_of _ (by decide +kernel)) ggX2_need_X2_reaches
set_option maxRecDepth 20000 in
theorem ggX2_need_X2_checkNoStart : GoodIn wsX2_need wsX2_checkNoStart := goodIn_ca (goodIn_r _ [31, 1, 2, 32, 46, 47, 48, 49, 50, 51, 52] (by decide +kernel) (by decide +kernel)) (goodIn_sub (fun _ h => List.mem_cons_of_mem _ (List.mem_append_left _ (List.mem_append_right _ h))) (by decide +kernel))
set_option maxRecDepth 20000 in
theorem gX2_need_X2_checkNoStart : GoodIn wsX2_need (wsV RX2 53 RX2 yX2_checkNoStart wsX2_checkNoStart) := goodIn_app (goodIn_of _ (by decide +kernel)) ggX2_need_X2_checkNoStart
set_option maxRecDepth 20000 in
theorem ggX2_need_X2_contains : GoodIn wsX2_need wsX2_contains := goodIn_r _ [27, 18, 19, 20, 21, 22, 23, 33, 34, 35, 36, 37, 38, 39, 40, 41, 42, 43, 44, 45] (by decide +kernel) (by decide +kernel)
set_option maxRecDepth 20000 in
theorem gX2_need_X2_contains : GoodIn wsX2_need (wsV RX2 78 RX2 yX2_contains wsX2_contains) := goodIn_app (goodIn_of _ (by decide +kernel)) ggX2_need_X2_contains
set_option maxRecDepth 20000 in
theorem ggX2_need_X0_bit : GoodIn wsX2_need wsX0_bit := goodIn_r _ [22, 23, 33, 34, 35, 36, 37, 38, 39, 40, 41, 42, 43, 44, 45] (by decide +kernel) (by decide +kernel)
set_option maxRecDepth 20000 in
theorem gX2_need_X0_bit : GoodIn wsX2_need (wsV RX2 82 RX0 yX0_bit wsX0_bit) := goodIn_app (goodIn_of _ (by decide +kernel)) ggX2_need_X0_bit
theorem dX2_need_0 : decode cX2_need 0 = .ok (.aload_n 0, 1) := by decide +kernel
theorem dX2_need_1 : decode cX2_need 1 = .ok (.iload_n 1, 1) := by decide +kernel
theorem dX2_need_2 : decode cX2_need 2 = .ok (.invokevirtual 65, 3) := by decide +kernel
theorem dX2_need_5 : decode cX2_need 5 = .ok (.astore_n 3, 1) := by decide +kernel
theorem dX2_need_6 : decode cX2_need 6 = .ok (.aload_n 0, 1) := by decide +kernel
theorem dX2_need_7 : decode cX2_need 7 = .ok (.iload_n 2, 1) := by decide +kernel
theorem dX2_need_8 : decode cX2_need 8 = .ok (.invokevirtual 65, 3) := by decide +kernel
theorem dX2_need_11 : decode cX2_need 11 = .ok (.astore 4, 2) := by decide +kernel
theorem dX2_need_13 : decode cX2_need 13 = .ok (.aload_n 0, 1) := by decide +kernel
theorem dX2_need_14 : decode cX2_need 14 = .ok (.aload 4, 2) := by decide +kernel
theorem dX2_need_16 : decode cX2_need 16 = .ok (.aload_n 3, 1) := by decide +kernel
theorem dX2_need_17 : decode cX2_need 17 = .ok (.iconst 0, 1) := by decide +kernel
theorem dX2_need_18 : decode cX2_need 18 = .ok (.invokevirtual 69, 3) := by decide +kernel
theorem dX2_need_21 : decode cX2_need 21 = .ok (.ifCond .eq 13, 3) := by decide +kernel
theorem dX2_need_24 : decode cX2_need 24 = .ok (.new 46, 3) := by decide +kernel
theorem dX2_need_27 : decode cX2_need 27 = .ok (.dup, 1) := by decide +kernel
theorem dX2_need_28 : decode cX2_need 28 = .ok (.ldc 73, 2) := by decide +kernel
theorem dX2_need_30 : decode cX2_need 30 = .ok (.invokespecial 50, 3) := by decide +kernel
theorem dX2_need_33 : decode cX2_need 33 = .ok (.athrow, 1) := by decide +kernel
theorem dX2_need_34 : decode cX2_need 34 = .ok (.aload_n 0, 1) := by decide +kernel
theorem dX2_need_35 : decode cX2_need 35 = .ok (.invokevirtual 53, 3) := by decide +kernel
theorem dX2_need_38 : decode cX2_need 38 = .ok (.aload_n 0, 1) := by decide +kernel
theorem dX2_need_39 : decode cX2_need 39 = .ok (.aload_n 3, 1) := by decide +kernel
theorem dX2_need_40 : decode cX2_need 40 = .ok (.getfield 75, 3) := by decide +kernel
theorem dX2_need_43 : decode cX2_need 43 = .ok (.aload 4, 2) := by decide +kernel
theorem dX2_need_45 : decode cX2_need 45 = .ok (.invokevirtual 78, 3) := by decide +kernel
theorem dX2_need_48 : decode cX2_need 48 = .ok (.istore 5, 2) := by decide +kernel
theorem dX2_need_50 : decode cX2_need 50 = .ok (.aload_n 3, 1) := by decide +kernel
theorem dX2_need_51 : decode cX2_need 51 = .ok (.dup, 1) := by decide +kernel
theorem dX2_need_52 : decode cX2_need 52 = .ok (.getfield 75, 3) := by decide +kernel
theorem dX2_need_55 : decode cX2_need 55 = .ok (.aload 4, 2) := by decide +kernel
theorem dX2_need_57 : decode cX2_need 57 = .ok (.invokevirtual 82, 3) := by decide +kernel
theorem dX2_need_60 : decode cX2_need 60 = .ok (.ior, 1) := by decide +kernel
theorem dX2_need_61 : decode cX2_need 61 = .ok (.putfield 75, 3) := by decide +kernel
theorem dX2_need_64 : decode cX2_need 64 = .ok (.iload 5, 2) := by decide +kernel
theorem dX2_need_66 : decode cX2_need 66 = .ok (.ireturn, 1) := by decide +kernel
set_option maxRecDepth 20000 in
theorem ggX2_wish_X2_unitAt : GoodIn wsX2_wish wsX2_unitAt := goodIn_ca (goodIn_r _ [11, 12, 13, 14, 15, 131, 132, 133, 134, 135, 136, 137] (by decide +kernel) (by decide +kernel)) (goodIn_sub (fun _ h => List.mem_cons_of_mem _ (List.mem_append_left _ (List.mem_append_left _ (List.mem_append_right _ h)))) (by decide +kernel))
set_option maxRecDepth 20000 in
theorem gX2_wish_X2_unitAt : GoodIn wsX2_wish (wsV RX2 65 RX2 yX2_unitAt wsX2_unitAt) := goodIn_app (goodIn_of _ (by decide +kernel)) ggX2_wish_X2_unitAt
set_option maxRecDepth 20000 in
theorem ggX2_wish_X2_checkRange : GoodIn wsX2_wish wsX2_checkRange := goodIn_ca (goodIn_r _ [19, 20, 21] (by decide +kernel) (by decide +kernel)) (goodIn_sub (fun _ h => List.mem_cons_of_mem _ (List.mem_append_left _ (List.mem_append_right _ h))) (by decide +kernel))
set_option maxRecDepth 20000 in
theorem gX2_wish_X2_checkRange : GoodIn wsX2_wish (wsV RX2 42 RX2 yX2_checkRange wsX2_checkRange) := goodIn_app (goodIn_of _ (by decide +kernel)) ggX2_wish_X2_checkRange
set_option maxRecDepth 20000 in
theorem ggX2_wish_X2_checkDifferent : GoodIn wsX2_wish wsX2_checkDifferent := goodIn_ca (goodIn_r _ [25, 20, 21] (by decide +kernel) (by decide +kernel)) (goodIn_sub (fun _ h => List.mem_cons_of_mem _ (List.mem_append_left _ (List.mem_append_right _ h))) (by decide +kernel))
set_option maxRecDepth 20000 in
theorem gX2_wish_X2_checkDifferent : GoodIn wsX2_wish (wsV RX2 86 RX2 yX2_checkDifferent wsX2_checkDifferent) := goodIn_app (goodIn_of _ (by decide +kernel)) ggX2_wish_X2_checkDifferent
set_option maxRecDepth 20000 in
theorem ggX2_wish_X2_checkNoStart : GoodIn wsX2_wish wsX2_checkNoStart := goodIn_ca (goodIn_r _ [29, 30, 31, 32, 131, 132, 133, 134, 135, 136, 137] (by decide +kernel) (by decide +kernel)) (goodIn_sub (fun _ h => List.mem_cons_of_mem _ (List.mem_append_right _ h)) (by decide +kernel))
set_option maxRecDepth 20000 in
theorem gX2_wish_X2_checkNoStart : GoodIn wsX2_wish (wsV RX2 53 RX2 yX2_checkNoStart wsX2_checkNoStart) := goodIn_app (goodIn_of _ (by decide +kernel)) ggX2_wish_X2_checkNoStart
set_option maxRecDepth 20000 in
theorem ggX2_wish_X2_findWish : GoodIn wsX2_wish wsX2_findWish := goodIn_r _ [36, 1, 37, 38, 39, 40, 41, 42, 43, 44, 45, 46, 47, 48, 49, 50, 51, 52, 53, 54, 55, 56, 57, 58, 59, 60, 61, 62, 131, 132, 133, 134, 135, 136, 137, 138, 139, 140, 154, 155, 156] (by decide +kernel) (by decide +kernel)
set_option maxRecDepth 20000 in
theorem gX2_wish_X2_findWish : GoodIn wsX2_wish (wsV RX2 90 RX2 yX2_findWish wsX2_findWish) := goodIn_app (goodIn_of _ (by decide +kernel)) ggX2_wish_X2_findWish
set_option maxRecDepth 20000 in
theorem ggX2_wish_X1_init : GoodIn wsX2_wish wsX1_init := goodIn_r _ [65, 66, 67, 68, 69, 70, 71, 138, 139, 140] (by decide +kernel) (by decide +kernel)
set_option maxRecDepth 20000 in
theorem gX2_wish_X1_init : GoodIn wsX2_wish (wsX1_init) := ggX2_wish_X1_init
set_option maxRecDepth 20000 in
theorem ggX2_wish_Jx4a65c_add_9ea2d : GoodIn wsX2_wish wsJx4a65c_add_9ea2d := goodIn_r _ [75, 76, 77, 62, 45, 78, 79, 80, 43, 81, 82, 83, 84, 85, 86, 87, 88, 89, 90, 91, 92, 93, 94, 95, 96, 97, 98, 99, 100, 101, 102, 103, 104, 105, 106, 107, 108, 109, 110, 111, 112, 113, 114, 115, 116, 117, 118, 119, 120, 121, 122, 123, 124, 154, 155, 156] (by decide +kernel) (by decide +kernel)
set_option maxRecDepth 20000 in
theorem gX2_wish_Jx4a65c_add_9ea2d : GoodIn wsX2_wish (wsV RX2 99 RJx4a65c yJx4a65c_add_9ea2d wsJx4a65c_add_9ea2d) := goodIn_app (goodIn_of _ (by decide +kernel)) ggX2_wish_Jx4a65c_add_9ea2d
set_option maxRecDepth 20000 in
theorem ggX2_wish_X0_bit : GoodIn wsX2_wish wsX0_bit := goodIn_r _ [129, 130, 141, 142, 143, 144, 145, 146, 147, 148, 149, 150, 151, 152, 153] (by decide +kernel) (by decide +kernel)
set_option maxRecDepth 20000 in
theorem gX2_wish_X0_bit : GoodIn wsX2_wish (wsV RX2 82 RX0 yX0_bit wsX0_bit) := goodIn_app (goodIn_of _ (by decide +kernel)) ggX2_wish_X0_bit
theorem dX2_wish_0 : decode cX2_wish 0 = .ok (.aload_n 0, 1) := by decide +kernel
theorem dX2_wish_1 : decode cX2_wish 1 = .ok (.iload_n 1, 1) := by decide +kernel
theorem dX2_wish_2 : decode cX2_wish 2 = .ok (.invokevirtual 65, 3) := by decide +kernel
theorem dX2_wish_5 : decode cX2_wish 5 = .ok (.astore 4, 2) := by decide +kernel
theorem dX2_wish_7 : decode cX2_wish 7 = .ok (.aload_n 0, 1) := by decide +kernel
theorem dX2_wish_8 : decode cX2_wish 8 = .ok (.iload_n 2, 1) := by decide +kernel
theorem dX2_wish_9 : decode cX2_wish 9 = .ok (.invokevirtual 65, 3) := by decide +kernel
theorem dX2_wish_12 : decode cX2_wish 12 = .ok (.astore 5, 2) := by decide +kernel
theorem dX2_wish_14 : decode cX2_wish 14 = .ok (.aload_n 0, 1) := by decide +kernel
theorem dX2_wish_15 : decode cX2_wish 15 = .ok (.iload_n 3, 1) := by decide +kernel
theorem dX2_wish_16 : decode cX2_wish 16 = .ok (.iconst 1, 1) := by decide +kernel
theorem dX2_wish_17 : decode cX2_wish 17 = .ok (.bipush 100, 2) := by decide +kernel
theorem dX2_wish_19 : decode cX2_wish 19 = .ok (.invokevirtual 42, 3) := by decide +kernel
theorem dX2_wish_22 : decode cX2_wish 22 = .ok (.aload_n 0, 1) := by decide +kernel
theorem dX2_wish_23 : decode cX2_wish 23 = .ok (.aload 4, 2) := by decide +kernel
theorem dX2_wish_25 : decode cX2_wish 25 = .ok (.aload 5, 2) := by decide +kernel
theorem dX2_wish_27 : decode cX2_wish 27 = .ok (.invokevirtual 86, 3) := by decide +kernel
theorem dX2_wish_30 : decode cX2_wish 30 = .ok (.aload_n 0, 1) := by decide +kernel
theorem dX2_wish_31 : decode cX2_wish 31 = .ok (.invokevirtual 53, 3) := by decide +kernel
theorem dX2_wish_34 : decode cX2_wish 34 = .ok (.aload_n 0, 1) := by decide +kernel
theorem dX2_wish_35 : decode cX2_wish 35 = .ok (.aload 4, 2) := by decide +kernel
theorem dX2_wish_37 : decode cX2_wish 37 = .ok (.aload 5, 2) := by decide +kernel
theorem dX2_wish_39 : decode cX2_wish 39 = .ok (.invokevirtual 90, 3) := by decide +kernel
theorem dX2_wish_42 : decode cX2_wish 42 = .ok (.astore 6, 2) := by decide +kernel
theorem dX2_wish_44 : decode cX2_wish 44 = .ok (.aload 6, 2) := by decide +kernel
theorem dX2_wish_46 : decode cX2_wish 46 = .ok (.ifnonnull 40, 3) := by decide +kernel
theorem dX2_wish_49 : decode cX2_wish 49 = .ok (.aload_n 0, 1) := by decide +kernel
theorem dX2_wish_50 : decode cX2_wish 50 = .ok (.getfield 22, 3) := by decide +kernel
theorem dX2_wish_53 : decode cX2_wish 53 = .ok (.new 94, 3) := by decide +kernel
theorem dX2_wish_56 : decode cX2_wish 56 = .ok (.dup, 1) := by decide +kernel
theorem dX2_wish_57 : decode cX2_wish 57 = .ok (.aload 4, 2) := by decide +kernel
theorem dX2_wish_59 : decode cX2_wish 59 = .ok (.aload 5, 2) := by decide +kernel
theorem dX2_wish_61 : decode cX2_wish 61 = .ok (.iload_n 3, 1) := by decide +kernel
theorem dX2_wish_62 : decode cX2_wish 62 = .ok (.invokespecial 96, 3) := by decide +kernel
theorem dX2_wish_65 : decode cX2_wish 65 = .ok (.invokevirtual 99, 3) := by decide +kernel
theorem dX2_wish_68 : decode cX2_wish 68 = .ok (.pop, 1) := by decide +kernel
theorem dX2_wish_69 : decode cX2_wish 69 = .ok (.aload 4, 2) := by decide +kernel
theorem dX2_wish_71 : decode cX2_wish 71 = .ok (.dup, 1) := by decide +kernel
theorem dX2_wish_72 : decode cX2_wish 72 = .ok (.getfield 103, 3) := by decide +kernel
theorem dX2_wish_75 : decode cX2_wish 75 = .ok (.aload 5, 2) := by decide +kernel
theorem dX2_wish_77 : decode cX2_wish 77 = .ok (.invokevirtual 82, 3) := by decide +kernel
theorem dX2_wish_80 : decode cX2_wish 80 = .ok (.ior, 1) := by decide +kernel
theorem dX2_wish_81 : decode cX2_wish 81 = .ok (.putfield 103, 3) := by decide +kernel
theorem dX2_wish_84 : decode cX2_wish 84 = .ok (.iconst 0, 1) := by decide +kernel
theorem dX2_wish_85 : decode cX2_wish 85 = .ok (.ireturn, 1) := by decide +kernel
theorem dX2_wish_86 : decode cX2_wish 86 = .ok (.aload 6, 2) := by decide +kernel
theorem dX2_wish_88 : decode cX2_wish 88 = .ok (.getfield 106, 3) := by decide +kernel
theorem dX2_wish_91 : decode cX2_wish 91 = .ok (.istore 7, 2) := by decide +kernel
theorem dX2_wish_93 : decode cX2_wish 93 = .ok (.aload 6, 2) := by decide +kernel
theorem dX2_wish_95 : decode cX2_wish 95 = .ok (.iload_n 3, 1) := by decide +kernel
theorem dX2_wish_96 : decode cX2_wish 96 = .ok (.putfield 106, 3) := by decide +kernel
theorem dX2_wish_99 : decode cX2_wish 99 = .ok (.iload 7, 2) := by decide +kernel
theorem dX2_wish_101 : decode cX2_wish 101 = .ok (.ireturn, 1) := by decide +kernel
set_option maxRecDepth 20000 in
theorem ggX2_standIn_X2_unitAt : GoodIn wsX2_standIn wsX2_unitAt := goodIn_ca (goodIn_r _ [7, 8, 9, 10, 11, 38, 39, 40, 41, 42, 43, 44] (by decide +kernel) (by decide +kernel)) (goodIn_sub (fun _ h => List.mem_cons_of_mem _ (List.mem_append_left _ (List.mem_append_left _ (List.mem_append_right _ h)))) (by decide +kernel))
set_option maxRecDepth 20000 in
theorem gX2_standIn_X2_unitAt : GoodIn wsX2_standIn (wsV RX2 65 RX2 yX2_unitAt wsX2_unitAt) := goodIn_app (goodIn_of _ (by decide +kernel)) ggX2_standIn_X2_unitAt
set_option maxRecDepth 20000 in
theorem ggX2_standIn_X2_checkDifferent : GoodIn wsX2_standIn wsX2_checkDifferent := goodIn_ca (goodIn_r _ [15, 16, 17] (by decide +kernel) (by decide +kernel)) (goodIn_sub (fun _ h => List.mem_cons_of_mem _ (List.mem_append_left _ (List.mem_append_right _ h))) (by decide +kernel))
set_option maxRecDepth 20000 in
theorem gX2_standIn_X2_checkDifferent : GoodIn wsX2_standIn (wsV RX2 86 RX2 yX2_checkDifferent wsX2_checkDifferent) := goodIn_app (goodIn_of _ (by decide +kernel)) ggX2_standIn_X2_checkDifferent
set_option maxRecDepth 20000 in
theorem ggX2_standIn_X2_checkNoStart : GoodIn wsX2_standIn wsX2_checkNoStart := goodIn_ca (goodIn_r _ [21, 22, 23, 24, 38, 39, 40, 41, 42, 43, 44] (by decide +kernel) (by decide +kernel)) (goodIn_sub (fun _ h => List.mem_cons_of_mem _ (List.mem_append_right _ h)) (by decide +kernel))
set_option maxRecDepth 20000 in
theorem gX2_standIn_X2_checkNoStart : GoodIn wsX2_standIn (wsV RX2 53 RX2 yX2_checkNoStart wsX2_checkNoStart) := goodIn_app (goodIn_of _ (by decide +kernel)) ggX2_standIn_X2_checkNoStart
theorem dX2_standIn_0 : decode cX2_standIn 0 = .ok (.aload_n 0, 1) := by decide +kernel
theorem dX2_standIn_1 : decode cX2_standIn 1 = .ok (.iload_n 1, 1) := by decide +kernel
theorem dX2_standIn_2 : decode cX2_standIn 2 = .ok (.invokevirtual 65, 3) := by decide +kernel
theorem dX2_standIn_5 : decode cX2_standIn 5 = .ok (.astore_n 3, 1) := by decide +kernel
theorem dX2_standIn_6 : decode cX2_standIn 6 = .ok (.iload_n 2, 1) := by decide +kernel
theorem dX2_standIn_7 : decode cX2_standIn 7 = .ok (.iconst (-1), 1) := by decide +kernel
theorem dX2_standIn_8 : decode cX2_standIn 8 = .ok (.if_icmp .ne 7, 3) := by decide +kernel
theorem dX2_standIn_11 : decode cX2_standIn 11 = .ok (.aconst_null, 1) := by decide +kernel
theorem dX2_standIn_12 : decode cX2_standIn 12 = .ok (.goto 8, 3) := by decide +kernel
theorem dX2_standIn_15 : decode cX2_standIn 15 = .ok (.aload_n 0, 1) := by decide +kernel
theorem dX2_standIn_16 : decode cX2_standIn 16 = .ok (.iload_n 2, 1) := by decide +kernel
theorem dX2_standIn_17 : decode cX2_standIn 17 = .ok (.invokevirtual 65, 3) := by decide +kernel
theorem dX2_standIn_20 : decode cX2_standIn 20 = .ok (.astore 4, 2) := by decide +kernel
theorem dX2_standIn_22 : decode cX2_standIn 22 = .ok (.aload_n 0, 1) := by decide +kernel
theorem dX2_standIn_23 : decode cX2_standIn 23 = .ok (.aload_n 3, 1) := by decide +kernel
theorem dX2_standIn_24 : decode cX2_standIn 24 = .ok (.aload 4, 2) := by decide +kernel
theorem dX2_standIn_26 : decode cX2_standIn 26 = .ok (.invokevirtual 86, 3) := by decide +kernel
theorem dX2_standIn_29 : decode cX2_standIn 29 = .ok (.aload_n 0, 1) := by decide +kernel
theorem dX2_standIn_30 : decode cX2_standIn 30 = .ok (.invokevirtual 53, 3) := by decide +kernel
theorem dX2_standIn_33 : decode cX2_standIn 33 = .ok (.aload_n 3, 1) := by decide +kernel
theorem dX2_standIn_34 : decode cX2_standIn 34 = .ok (.getfield 109, 3) := by decide +kernel
theorem dX2_standIn_37 : decode cX2_standIn 37 = .ok (.ifnonnull 7, 3) := by decide +kernel
theorem dX2_standIn_40 : decode cX2_standIn 40 = .ok (.iconst (-1), 1) := by decide +kernel
theorem dX2_standIn_41 : decode cX2_standIn 41 = .ok (.goto 10, 3) := by decide +kernel
theorem dX2_standIn_44 : decode cX2_standIn 44 = .ok (.aload_n 3, 1) := by decide +kernel
theorem dX2_standIn_45 : decode cX2_standIn 45 = .ok (.getfield 109, 3) := by decide +kernel
theorem dX2_standIn_48 : decode cX2_standIn 48 = .ok (.getfield 62, 3) := by decide +kernel
theorem dX2_standIn_51 : decode cX2_standIn 51 = .ok (.istore 5, 2) := by decide +kernel
theorem dX2_standIn_53 : decode cX2_standIn 53 = .ok (.aload_n 3, 1) := by decide +kernel
theorem dX2_standIn_54 : decode cX2_standIn 54 = .ok (.aload 4, 2) := by decide +kernel
theorem dX2_standIn_56 : decode cX2_standIn 56 = .ok (.putfield 109, 3) := by decide +kernel
theorem dX2_standIn_59 : decode cX2_standIn 59 = .ok (.iload 5, 2) := by decide +kernel
theorem dX2_standIn_61 : decode cX2_standIn 61 = .ok (.ireturn, 1) := by decide +kernel
set_option maxRecDepth 20000 in
theorem ggX2_hold_X2_unitAt : GoodIn wsX2_hold wsX2_unitAt := goodIn_ca (goodIn_r _ [6, 7, 8, 9, 10, 31, 32, 33, 34, 35, 36, 37] (by decide +kernel) (by decide +kernel)) (goodIn_sub (fun _ h => List.mem_cons_of_mem _ (List.mem_append_left _ (List.mem_append_right _ h))) (by decide +kernel))
set_option maxRecDepth 20000 in
theorem gX2_hold_X2_unitAt : GoodIn wsX2_hold (wsV RX2 65 RX2 yX2_unitAt wsX2_unitAt) := goodIn_app (goodIn_of _ (by decide +kernel)) ggX2_hold_X2_unitAt
set_option maxRecDepth 20000 in
theorem ggX2_hold_X2_checkNoStart : GoodIn wsX2_hold wsX2_checkNoStart := goodIn_ca (goodIn_r _ [14, 15, 16, 17, 31, 32, 33, 34, 35, 36, 37] (by decide +kernel) (by decide +kernel)) (goodIn_sub (fun _ h => List.mem_cons_of_mem _ (List.mem_append_right _ h)) (by decide +kernel))
set_option maxRecDepth 20000 in
theorem gX2_hold_X2_checkNoStart : GoodIn wsX2_hold (wsV RX2 53 RX2 yX2_checkNoStart wsX2_checkNoStart) := goodIn_app (goodIn_of _ (by decide +kernel)) ggX2_hold_X2_checkNoStart
theorem dX2_hold_0 : decode cX2_hold 0 = .ok (.aload_n 0, 1) := by decide +kernel
theorem dX2_hold_1 : decode cX2_hold 1 = .ok (.iload_n 1, 1) := by decide +kernel
theorem dX2_hold_2 : decode cX2_hold 2 = .ok (.invokevirtual 65, 3) := by decide +kernel
theorem dX2_hold_5 : decode cX2_hold 5 = .ok (.astore_n 3, 1) := by decide +kernel
theorem dX2_hold_6 : decode cX2_hold 6 = .ok (.aload_n 0, 1) := by decide +kernel
theorem dX2_hold_7 : decode cX2_hold 7 = .ok (.invokevirtual 53, 3) := by decide +kernel
theorem dX2_hold_10 : decode cX2_hold 10 = .ok (.aload_n 3, 1) := by decide +kernel
theorem dX2_hold_11 : decode cX2_hold 11 = .ok (.getfield 113, 3) := by decide +kernel
theorem dX2_hold_14 : decode cX2_hold 14 = .ok (.istore 4, 2) := by decide +kernel
theorem dX2_hold_16 : decode cX2_hold 16 = .ok (.aload_n 3, 1) := by decide +kernel
theorem dX2_hold_17 : decode cX2_hold 17 = .ok (.iload_n 2, 1) := by decide +kernel
theorem dX2_hold_18 : decode cX2_hold 18 = .ok (.putfield 113, 3) := by decide +kernel
theorem dX2_hold_21 : decode cX2_hold 21 = .ok (.iload 4, 2) := by decide +kernel
theorem dX2_hold_23 : decode cX2_hold 23 = .ok (.ireturn, 1) := by decide +kernel
set_option maxRecDepth 20000 in
theorem ggX2_setFaults_X2_unitAt : GoodIn wsX2_setFaults wsX2_unitAt := goodIn_ca (goodIn_r _ [6, 7, 8, 9, 10, 30, 31, 32, 33, 34, 35, 36] (by decide +kernel) (by decide +kernel)) (goodIn_sub (fun _ h => List.mem_cons_of_mem _ (List.mem_append_left _ (List.mem_append_right _ h))) (by decide +kernel))
set_option maxRecDepth 20000 in
theorem gX2_setFaults_X2_unitAt : GoodIn wsX2_setFaults (wsV RX2 65 RX2 yX2_unitAt wsX2_unitAt) := goodIn_app (goodIn_of _ (by decide +kernel)) ggX2_setFaults_X2_unitAt
set_option maxRecDepth 20000 in
theorem ggX2_setFaults_X2_checkRange : GoodIn wsX2_setFaults wsX2_checkRange := goodIn_ca (goodIn_r _ [14, 15, 16] (by decide +kernel) (by decide +kernel)) (goodIn_sub (fun _ h => List.mem_cons_of_mem _ (List.mem_append_right _ h)) (by decide +kernel))
set_option maxRecDepth 20000 in
theorem gX2_setFaults_X2_checkRange : GoodIn wsX2_setFaults (wsV RX2 42 RX2 yX2_checkRange wsX2_checkRange) := goodIn_app (goodIn_of _ (by decide +kernel)) ggX2_setFaults_X2_checkRange
theorem dX2_setFaults_0 : decode cX2_setFaults 0 = .ok (.aload_n 0, 1) := by decide +kernel
theorem dX2_setFaults_1 : decode cX2_setFaults 1 = .ok (.iload_n 1, 1) := by decide +kernel
theorem dX2_setFaults_2 : decode cX2_setFaults 2 = .ok (.invokevirtual 65, 3) := by decide +kernel
theorem dX2_setFaults_5 : decode cX2_setFaults 5 = .ok (.astore_n 3, 1) := by decide +kernel
theorem dX2_setFaults_6 : decode cX2_setFaults 6 = .ok (.aload_n 0, 1) := by decide +kernel
theorem dX2_setFaults_7 : decode cX2_setFaults 7 = .ok (.iload_n 2, 1) := by decide +kernel
theorem dX2_setFaults_8 : decode cX2_setFaults 8 = .ok (.iconst 0, 1) := by decide +kernel
theorem dX2_setFaults_9 : decode cX2_setFaults 9 = .ok (.bipush 10, 2) := by decide +kernel
theorem dX2_setFaults_11 : decode cX2_setFaults 11 = .ok (.invokevirtual 42, 3) := by decide +kernel
theorem dX2_setFaults_14 : decode cX2_setFaults 14 = .ok (.aload_n 3, 1) := by decide +kernel
theorem dX2_setFaults_15 : decode cX2_setFaults 15 = .ok (.getfield 116, 3) := by decide +kernel
theorem dX2_setFaults_18 : decode cX2_setFaults 18 = .ok (.istore 4, 2) := by decide +kernel
theorem dX2_setFaults_20 : decode cX2_setFaults 20 = .ok (.aload_n 3, 1) := by decide +kernel
theorem dX2_setFaults_21 : decode cX2_setFaults 21 = .ok (.iload_n 2, 1) := by decide +kernel
theorem dX2_setFaults_22 : decode cX2_setFaults 22 = .ok (.putfield 116, 3) := by decide +kernel
theorem dX2_setFaults_25 : decode cX2_setFaults 25 = .ok (.iload 4, 2) := by decide +kernel
theorem dX2_setFaults_27 : decode cX2_setFaults 27 = .ok (.ireturn, 1) := by decide +kernel
set_option maxRecDepth 20000 in
theorem ggX2_setTime_X2_unitAt : GoodIn wsX2_setTime wsX2_unitAt := goodIn_ca (goodIn_r _ [6, 7, 8, 9, 10, 30, 31, 32, 33, 34, 35, 36] (by decide +kernel) (by decide +kernel)) (goodIn_sub (fun _ h => List.mem_cons_of_mem _ (List.mem_append_left _ (List.mem_append_right _ h))) (by decide +kernel))
set_option maxRecDepth 20000 in
theorem gX2_setTime_X2_unitAt : GoodIn wsX2_setTime (wsV RX2 65 RX2 yX2_unitAt wsX2_unitAt) := goodIn_app (goodIn_of _ (by decide +kernel)) ggX2_setTime_X2_unitAt
set_option maxRecDepth 20000 in
theorem ggX2_setTime_X2_checkRange : GoodIn wsX2_setTime wsX2_checkRange := goodIn_ca (goodIn_r _ [14, 15, 16] (by decide +kernel) (by decide +kernel)) (goodIn_sub (fun _ h => List.mem_cons_of_mem _ (List.mem_append_right _ h)) (by decide +kernel))
set_option maxRecDepth 20000 in
theorem gX2_setTime_X2_checkRange : GoodIn wsX2_setTime (wsV RX2 42 RX2 yX2_checkRange wsX2_checkRange) := goodIn_app (goodIn_of _ (by decide +kernel)) ggX2_setTime_X2_checkRange
theorem dX2_setTime_0 : decode cX2_setTime 0 = .ok (.aload_n 0, 1) := by decide +kernel
theorem dX2_setTime_1 : decode cX2_setTime 1 = .ok (.iload_n 1, 1) := by decide +kernel
theorem dX2_setTime_2 : decode cX2_setTime 2 = .ok (.invokevirtual 65, 3) := by decide +kernel
theorem dX2_setTime_5 : decode cX2_setTime 5 = .ok (.astore_n 3, 1) := by decide +kernel
theorem dX2_setTime_6 : decode cX2_setTime 6 = .ok (.aload_n 0, 1) := by decide +kernel
theorem dX2_setTime_7 : decode cX2_setTime 7 = .ok (.iload_n 2, 1) := by decide +kernel
theorem dX2_setTime_8 : decode cX2_setTime 8 = .ok (.iconst 1, 1) := by decide +kernel
theorem dX2_setTime_9 : decode cX2_setTime 9 = .ok (.bipush 100, 2) := by decide +kernel
theorem dX2_setTime_11 : decode cX2_setTime 11 = .ok (.invokevirtual 42, 3) := by decide +kernel
theorem dX2_setTime_14 : decode cX2_setTime 14 = .ok (.aload_n 3, 1) := by decide +kernel
theorem dX2_setTime_15 : decode cX2_setTime 15 = .ok (.getfield 56, 3) := by decide +kernel
theorem dX2_setTime_18 : decode cX2_setTime 18 = .ok (.istore 4, 2) := by decide +kernel
theorem dX2_setTime_20 : decode cX2_setTime 20 = .ok (.aload_n 3, 1) := by decide +kernel
theorem dX2_setTime_21 : decode cX2_setTime 21 = .ok (.iload_n 2, 1) := by decide +kernel
theorem dX2_setTime_22 : decode cX2_setTime 22 = .ok (.putfield 56, 3) := by decide +kernel
theorem dX2_setTime_25 : decode cX2_setTime 25 = .ok (.iload 4, 2) := by decide +kernel
theorem dX2_setTime_27 : decode cX2_setTime 27 = .ok (.ireturn, 1) := by decide +kernel
theorem dX2_units_0 : decode cX2_units 0 = .ok (.aload_n 0, 1) := by decide +kernel
theorem dX2_units_1 : decode cX2_units 1 = .ok (.getfield 15, 3) := by decide +kernel
theorem dX2_units_4 : decode cX2_units 4 = .ok (.ireturn, 1) := by decide +kernel
set_option maxRecDepth 20000 in
theorem ggX2_learned_X2_unitAt : GoodIn wsX2_learned wsX2_unitAt := goodIn_ca (goodIn_r _ [6, 7, 8, 9, 10, 24, 25, 26, 27, 28, 29, 30] (by decide +kernel) (by decide +kernel)) (goodIn_sub (fun _ h => List.mem_cons_of_mem _ (List.mem_append_right _ h)) (by decide +kernel))
set_option maxRecDepth 20000 in
theorem gX2_learned_X2_unitAt : GoodIn wsX2_learned (wsV RX2 65 RX2 yX2_unitAt wsX2_unitAt) := goodIn_app (goodIn_of _ (by decide +kernel)) ggX2_learned_X2_unitAt
theorem dX2_learned_0 : decode cX2_learned 0 = .ok (.aload_n 0, 1) := by decide +kernel
theorem dX2_learned_1 : decode cX2_learned 1 = .ok (.iload_n 1, 1) := by decide +kernel
theorem dX2_learned_2 : decode cX2_learned 2 = .ok (.invokevirtual 65, 3) := by decide +kernel
theorem dX2_learned_5 : decode cX2_learned 5 = .ok (.getfield 119, 3) := by decide +kernel
theorem dX2_learned_8 : decode cX2_learned 8 = .ok (.ireturn, 1) := by decide +kernel
set_option maxRecDepth 20000 in
theorem ggX2_faults_X2_unitAt : GoodIn wsX2_faults wsX2_unitAt := goodIn_ca (goodIn_r _ [6, 7, 8, 9, 10, 24, 25, 26, 27, 28, 29, 30] (by decide +kernel) (by decide +kernel)) (goodIn_sub (fun _ h => List.mem_cons_of_mem _ (List.mem_append_right _ h)) (by decide +kernel))
set_option maxRecDepth 20000 in
theorem gX2_faults_X2_unitAt : GoodIn wsX2_faults (wsV RX2 65 RX2 yX2_unitAt wsX2_unitAt) := goodIn_app (goodIn_of _ (by decide +kernel)) ggX2_faults_X2_unitAt
theorem dX2_faults_0 : decode cX2_faults 0 = .ok (.aload_n 0, 1) := by decide +kernel
theorem dX2_faults_1 : decode cX2_faults 1 = .ok (.iload_n 1, 1) := by decide +kernel
theorem dX2_faults_2 : decode cX2_faults 2 = .ok (.invokevirtual 65, 3) := by decide +kernel
theorem dX2_faults_5 : decode cX2_faults 5 = .ok (.getfield 116, 3) := by decide +kernel
theorem dX2_faults_8 : decode cX2_faults 8 = .ok (.ireturn, 1) := by decide +kernel
set_option maxRecDepth 20000 in
theorem ggX2_begin_X2_checkRange : GoodIn wsX2_begin wsX2_checkRange := goodIn_ca (goodIn_r _ [11, 12, 13] (by decide +kernel) (by decide +kernel)) (goodIn_sub (fun _ h => List.mem_cons_of_mem _ (List.mem_append_left _ (List.mem_append_right _ h))) (by decide +kernel))
set_option maxRecDepth 20000 in
theorem gX2_begin_X2_checkRange : GoodIn wsX2_begin (wsV RX2 42 RX2 yX2_checkRange wsX2_checkRange) := goodIn_app (goodIn_of _ (by decide +kernel)) ggX2_begin_X2_checkRange
set_option maxRecDepth 20000 in
theorem ggX2_begin_X2_checkNoStart : GoodIn wsX2_begin wsX2_checkNoStart := goodIn_ca (goodIn_r _ [17, 18, 19, 5, 101, 102, 103, 104, 105, 106, 107] (by decide +kernel) (by decide +kernel)) (goodIn_sub (fun _ h => List.mem_cons_of_mem _ (List.mem_append_right _ h)) (by decide +kernel))
set_option maxRecDepth 20000 in
theorem gX2_begin_X2_checkNoStart : GoodIn wsX2_begin (wsV RX2 53 RX2 yX2_checkNoStart wsX2_checkNoStart) := goodIn_app (goodIn_of _ (by decide +kernel)) ggX2_begin_X2_checkNoStart
set_option maxRecDepth 20000 in
theorem ggX2_begin_X2_cutLoops : GoodIn wsX2_begin wsX2_cutLoops := goodIn_r _ [23, 24, 25, 26, 27, 28, 29, 30, 31, 32, 10, 33, 34, 35, 36, 37, 38, 39, 40, 41, 42, 43, 44, 45, 46, 47, 48, 49, 50, 51, 52, 53, 54, 55, 56, 57, 58, 59, 60, 61, 62, 63, 64, 65, 66, 3, 4, 67, 68, 69, 70, 71, 101, 102, 103, 104, 105, 106, 107, 108, 109, 110, 111, 112, 113, 114, 115, 116, 117, 118, 119, 120, 121, 122, 123, 124, 125, 126] (by decide +kernel) (by decide +kernel)
set_option maxRecDepth 20000 in
theorem gX2_begin_X2_cutLoops : GoodIn wsX2_begin (wsV RX2 122 RX2 yX2_cutLoops wsX2_cutLoops) := goodIn_app (goodIn_of _ (by decide +kernel)) ggX2_begin_X2_cutLoops
set_option maxRecDepth 20000 in
theorem ggX2_begin_X0_resetForStart : GoodIn wsX2_begin wsX0_resetForStart := goodIn_r _ [75, 76, 77, 78, 79, 80, 111, 112, 113, 114, 115, 116, 117, 118, 119, 120, 121, 122, 123] (by decide +kernel) (by decide +kernel)
set_option maxRecDepth 20000 in
theorem gX2_begin_X0_resetForStart : GoodIn wsX2_begin (wsV RX2 125 RX0 yX0_resetForStart wsX0_resetForStart) := goodIn_app (goodIn_of _ (by decide +kernel)) ggX2_begin_X0_resetForStart
set_option maxRecDepth 20000 in
theorem ggX2_begin_X2_raiseBar : GoodIn wsX2_begin wsX2_raiseBar := goodIn_r _ [84, 5, 2, 6, 85, 86, 87, 88, 89, 90, 91, 10, 92, 3, 4, 93, 94, 95, 60, 96, 77, 80, 97, 98, 99, 100, 101, 102, 103, 104, 105, 106, 107, 111, 112, 113, 114, 115, 116, 117, 118, 119, 120, 121, 122, 123] (by decide +kernel) (by decide +kernel)
set_option maxRecDepth 20000 in
theorem gX2_begin_X2_raiseBar : GoodIn wsX2_begin (wsV RX2 128 RX2 yX2_raiseBar wsX2_raiseBar) := goodIn_app (goodIn_of _ (by decide +kernel)) ggX2_begin_X2_raiseBar
theorem dX2_begin_0 : decode cX2_begin 0 = .ok (.aload_n 0, 1) := by decide +kernel
theorem dX2_begin_1 : decode cX2_begin 1 = .ok (.iload_n 1, 1) := by decide +kernel
theorem dX2_begin_2 : decode cX2_begin 2 = .ok (.iconst 1, 1) := by decide +kernel
theorem dX2_begin_3 : decode cX2_begin 3 = .ok (.bipush 20, 2) := by decide +kernel
theorem dX2_begin_5 : decode cX2_begin 5 = .ok (.invokevirtual 42, 3) := by decide +kernel
theorem dX2_begin_8 : decode cX2_begin 8 = .ok (.aload_n 0, 1) := by decide +kernel
theorem dX2_begin_9 : decode cX2_begin 9 = .ok (.invokevirtual 53, 3) := by decide +kernel
theorem dX2_begin_12 : decode cX2_begin 12 = .ok (.aload_n 0, 1) := by decide +kernel
theorem dX2_begin_13 : decode cX2_begin 13 = .ok (.iload_n 1, 1) := by decide +kernel
theorem dX2_begin_14 : decode cX2_begin 14 = .ok (.putfield 30, 3) := by decide +kernel
theorem dX2_begin_17 : decode cX2_begin 17 = .ok (.aload_n 0, 1) := by decide +kernel
theorem dX2_begin_18 : decode cX2_begin 18 = .ok (.invokevirtual 122, 3) := by decide +kernel
theorem dX2_begin_21 : decode cX2_begin 21 = .ok (.istore_n 2, 1) := by decide +kernel
theorem dX2_begin_22 : decode cX2_begin 22 = .ok (.aload_n 0, 1) := by decide +kernel
theorem dX2_begin_23 : decode cX2_begin 23 = .ok (.iconst 0, 1) := by decide +kernel
theorem dX2_begin_24 : decode cX2_begin 24 = .ok (.putfield 33, 3) := by decide +kernel
theorem dX2_begin_27 : decode cX2_begin 27 = .ok (.iconst 0, 1) := by decide +kernel
theorem dX2_begin_28 : decode cX2_begin 28 = .ok (.istore_n 3, 1) := by decide +kernel
theorem dX2_begin_29 : decode cX2_begin 29 = .ok (.iload_n 3, 1) := by decide +kernel
theorem dX2_begin_30 : decode cX2_begin 30 = .ok (.aload_n 0, 1) := by decide +kernel
theorem dX2_begin_31 : decode cX2_begin 31 = .ok (.getfield 15, 3) := by decide +kernel
theorem dX2_begin_34 : decode cX2_begin 34 = .ok (.if_icmp .ge 27, 3) := by decide +kernel
theorem dX2_begin_37 : decode cX2_begin 37 = .ok (.aload_n 0, 1) := by decide +kernel
theorem dX2_begin_38 : decode cX2_begin 38 = .ok (.dup, 1) := by decide +kernel
theorem dX2_begin_39 : decode cX2_begin 39 = .ok (.getfield 33, 3) := by decide +kernel
theorem dX2_begin_42 : decode cX2_begin 42 = .ok (.aload_n 0, 1) := by decide +kernel
theorem dX2_begin_43 : decode cX2_begin 43 = .ok (.getfield 11, 3) := by decide +kernel
theorem dX2_begin_46 : decode cX2_begin 46 = .ok (.iload_n 3, 1) := by decide +kernel
theorem dX2_begin_47 : decode cX2_begin 47 = .ok (.aaload, 1) := by decide +kernel
theorem dX2_begin_48 : decode cX2_begin 48 = .ok (.invokevirtual 125, 3) := by decide +kernel
theorem dX2_begin_51 : decode cX2_begin 51 = .ok (.iadd, 1) := by decide +kernel
theorem dX2_begin_52 : decode cX2_begin 52 = .ok (.putfield 33, 3) := by decide +kernel
theorem dX2_begin_55 : decode cX2_begin 55 = .ok (.iinc 3 1, 3) := by decide +kernel
theorem dX2_begin_58 : decode cX2_begin 58 = .ok (.goto (-29), 3) := by decide +kernel
theorem dX2_begin_61 : decode cX2_begin 61 = .ok (.aload_n 0, 1) := by decide +kernel
theorem dX2_begin_62 : decode cX2_begin 62 = .ok (.iconst 1, 1) := by decide +kernel
theorem dX2_begin_63 : decode cX2_begin 63 = .ok (.putfield 26, 3) := by decide +kernel
theorem dX2_begin_66 : decode cX2_begin 66 = .ok (.aload_n 0, 1) := by decide +kernel
theorem dX2_begin_67 : decode cX2_begin 67 = .ok (.iconst 0, 1) := by decide +kernel
theorem dX2_begin_68 : decode cX2_begin 68 = .ok (.putfield 36, 3) := by decide +kernel
theorem dX2_begin_71 : decode cX2_begin 71 = .ok (.aload_n 0, 1) := by decide +kernel
theorem dX2_begin_72 : decode cX2_begin 72 = .ok (.invokevirtual 128, 3) := by decide +kernel
theorem dX2_begin_75 : decode cX2_begin 75 = .ok (.iload_n 2, 1) := by decide +kernel
theorem dX2_begin_76 : decode cX2_begin 76 = .ok (.ireturn, 1) := by decide +kernel
set_option maxRecDepth 20000 in
theorem ggX2_tick_X2_checkRange : GoodIn wsX2_tick wsX2_checkRange := goodIn_ca (goodIn_r _ [8, 9, 10] (by decide +kernel) (by decide +kernel)) (goodIn_sub (fun _ h => List.mem_cons_of_mem _ (List.mem_append_right _ h)) (by decide +kernel))
set_option maxRecDepth 20000 in
theorem gX2_tick_X2_checkRange : GoodIn wsX2_tick (wsV RX2 42 RX2 yX2_checkRange wsX2_checkRange) := goodIn_app (goodIn_of _ (by decide +kernel)) ggX2_tick_X2_checkRange
set_option maxRecDepth 20000 in
theorem ggX2_tick_X2_passOneTick : GoodIn wsX2_tick wsX2_passOneTick := goodIn_r _ [14, 3, 15, 16, 17, 7, 18, 19, 20, 21, 22, 23, 24, 25, 26, 27, 28, 29, 30, 31, 32, 33, 34, 35, 36, 37, 38, 39, 40, 41, 42, 43, 44, 45, 46, 47, 48, 49, 50, 51, 52, 53, 54, 55, 56, 57, 58, 59, 60, 61, 62, 63, 64, 65, 66, 67, 68, 69, 70, 71, 72, 73, 74, 75, 76, 77, 78, 79, 80, 81, 82, 83, 84, 85, 86, 87, 88, 89, 90, 91, 92, 93, 94, 95, 96, 97, 98, 99, 100, 101, 102, 103, 104, 105, 106, 107, 108, 109, 110, 111, 112, 113, 114, 115, 116, 117, 118, 119, 120, 121, 122, 123, 124, 125, 126, 127] (by decide +kernel) (by decide +kernel)
set_option maxRecDepth 20000 in
theorem gX2_tick_X2_passOneTick : GoodIn wsX2_tick (wsV RX2 133 RX2 yX2_passOneTick wsX2_passOneTick) := goodIn_app (goodIn_of _ (by decide +kernel)) ggX2_tick_X2_passOneTick
theorem dX2_tick_0 : decode cX2_tick 0 = .ok (.aload_n 0, 1) := by decide +kernel
theorem dX2_tick_1 : decode cX2_tick 1 = .ok (.iload_n 1, 1) := by decide +kernel
theorem dX2_tick_2 : decode cX2_tick 2 = .ok (.iconst 1, 1) := by decide +kernel
theorem dX2_tick_3 : decode cX2_tick 3 = .ok (.sipush 200, 3) := by decide +kernel
theorem dX2_tick_6 : decode cX2_tick 6 = .ok (.invokevirtual 42, 3) := by decide +kernel
theorem dX2_tick_9 : decode cX2_tick 9 = .ok (.aload_n 0, 1) := by decide +kernel
theorem dX2_tick_10 : decode cX2_tick 10 = .ok (.getfield 26, 3) := by decide +kernel
theorem dX2_tick_13 : decode cX2_tick 13 = .ok (.ifCond .ne 13, 3) := by decide +kernel
theorem dX2_tick_16 : decode cX2_tick 16 = .ok (.new 46, 3) := by decide +kernel
theorem dX2_tick_19 : decode cX2_tick 19 = .ok (.dup, 1) := by decide +kernel
theorem dX2_tick_20 : decode cX2_tick 20 = .ok (.ldc 131, 2) := by decide +kernel
theorem dX2_tick_22 : decode cX2_tick 22 = .ok (.invokespecial 50, 3) := by decide +kernel
theorem dX2_tick_25 : decode cX2_tick 25 = .ok (.athrow, 1) := by decide +kernel
theorem dX2_tick_26 : decode cX2_tick 26 = .ok (.iconst 0, 1) := by decide +kernel
theorem dX2_tick_27 : decode cX2_tick 27 = .ok (.istore_n 2, 1) := by decide +kernel
theorem dX2_tick_28 : decode cX2_tick 28 = .ok (.iload_n 2, 1) := by decide +kernel
theorem dX2_tick_29 : decode cX2_tick 29 = .ok (.iload_n 1, 1) := by decide +kernel
theorem dX2_tick_30 : decode cX2_tick 30 = .ok (.if_icmp .ge 20, 3) := by decide +kernel
theorem dX2_tick_33 : decode cX2_tick 33 = .ok (.aload_n 0, 1) := by decide +kernel
theorem dX2_tick_34 : decode cX2_tick 34 = .ok (.getfield 26, 3) := by decide +kernel
theorem dX2_tick_37 : decode cX2_tick 37 = .ok (.ifCond .eq 13, 3) := by decide +kernel
theorem dX2_tick_40 : decode cX2_tick 40 = .ok (.aload_n 0, 1) := by decide +kernel
theorem dX2_tick_41 : decode cX2_tick 41 = .ok (.invokevirtual 133, 3) := by decide +kernel
theorem dX2_tick_44 : decode cX2_tick 44 = .ok (.iinc 2 1, 3) := by decide +kernel
theorem dX2_tick_47 : decode cX2_tick 47 = .ok (.goto (-19), 3) := by decide +kernel
theorem dX2_tick_50 : decode cX2_tick 50 = .ok (.iload_n 2, 1) := by decide +kernel
theorem dX2_tick_51 : decode cX2_tick 51 = .ok (.ireturn, 1) := by decide +kernel
theorem dX2_goesOn_0 : decode cX2_goesOn 0 = .ok (.aload_n 0, 1) := by decide +kernel
theorem dX2_goesOn_1 : decode cX2_goesOn 1 = .ok (.getfield 26, 3) := by decide +kernel
theorem dX2_goesOn_4 : decode cX2_goesOn 4 = .ok (.ireturn, 1) := by decide +kernel
set_option maxRecDepth 20000 in
theorem ggX2_state_X2_unitAt : GoodIn wsX2_state wsX2_unitAt := goodIn_ca (goodIn_r _ [6, 7, 8, 9, 10, 24, 25, 26, 27, 28, 29, 30] (by decide +kernel) (by decide +kernel)) (goodIn_sub (fun _ h => List.mem_cons_of_mem _ (List.mem_append_right _ h)) (by decide +kernel))
set_option maxRecDepth 20000 in
theorem gX2_state_X2_unitAt : GoodIn wsX2_state (wsV RX2 65 RX2 yX2_unitAt wsX2_unitAt) := goodIn_app (goodIn_of _ (by decide +kernel)) ggX2_state_X2_unitAt
theorem dX2_state_0 : decode cX2_state 0 = .ok (.aload_n 0, 1) := by decide +kernel
theorem dX2_state_1 : decode cX2_state 1 = .ok (.iload_n 1, 1) := by decide +kernel
theorem dX2_state_2 : decode cX2_state 2 = .ok (.invokevirtual 65, 3) := by decide +kernel
theorem dX2_state_5 : decode cX2_state 5 = .ok (.getfield 136, 3) := by decide +kernel
theorem dX2_state_8 : decode cX2_state 8 = .ok (.ireturn, 1) := by decide +kernel
set_option maxRecDepth 20000 in
theorem ggX2_waitsFor_X2_unitAt : GoodIn wsX2_waitsFor wsX2_unitAt := goodIn_ca (goodIn_r _ [8, 9, 10, 2, 3, 58, 59, 60, 61, 62, 63, 64] (by decide +kernel) (by decide +kernel)) (goodIn_sub (fun _ h => List.mem_cons_of_mem _ (List.mem_append_right _ h)) (by decide +kernel))
set_option maxRecDepth 20000 in
theorem gX2_waitsFor_X2_unitAt : GoodIn wsX2_waitsFor (wsV RX2 65 RX2 yX2_unitAt wsX2_unitAt) := goodIn_app (goodIn_of _ (by decide +kernel)) ggX2_waitsFor_X2_unitAt
set_option maxRecDepth 20000 in
theorem ggX2_waitsFor_X2_isAwaited : GoodIn wsX2_waitsFor wsX2_isAwaited := goodIn_r _ [14, 15, 16, 17, 18, 19, 7, 20, 21, 22, 23, 24, 25, 26, 27, 28, 29, 30, 31, 32, 33, 34, 35, 36, 37, 38, 39, 40, 41, 42, 43, 44, 45, 46, 47, 48, 49, 50, 51, 52, 53, 54, 55, 56, 57] (by decide +kernel) (by decide +kernel)
set_option maxRecDepth 20000 in
theorem gX2_waitsFor_X2_isAwaited : GoodIn wsX2_waitsFor (wsV RX2 139 RX2 yX2_isAwaited wsX2_isAwaited) := goodIn_app (goodIn_of _ (by decide +kernel)) ggX2_waitsFor_X2_isAwaited
theorem dX2_waitsFor_0 : decode cX2_waitsFor 0 = .ok (.aload_n 0, 1) := by decide +kernel
theorem dX2_waitsFor_1 : decode cX2_waitsFor 1 = .ok (.iload_n 1, 1) := by decide +kernel
theorem dX2_waitsFor_2 : decode cX2_waitsFor 2 = .ok (.invokevirtual 65, 3) := by decide +kernel
theorem dX2_waitsFor_5 : decode cX2_waitsFor 5 = .ok (.astore_n 2, 1) := by decide +kernel
theorem dX2_waitsFor_6 : decode cX2_waitsFor 6 = .ok (.aload_n 2, 1) := by decide +kernel
theorem dX2_waitsFor_7 : decode cX2_waitsFor 7 = .ok (.getfield 136, 3) := by decide +kernel
theorem dX2_waitsFor_10 : decode cX2_waitsFor 10 = .ok (.ifCond .eq 5, 3) := by decide +kernel
theorem dX2_waitsFor_13 : decode cX2_waitsFor 13 = .ok (.iconst (-1), 1) := by decide +kernel
theorem dX2_waitsFor_14 : decode cX2_waitsFor 14 = .ok (.ireturn, 1) := by decide +kernel
theorem dX2_waitsFor_15 : decode cX2_waitsFor 15 = .ok (.iconst 0, 1) := by decide +kernel
theorem dX2_waitsFor_16 : decode cX2_waitsFor 16 = .ok (.istore_n 3, 1) := by decide +kernel
theorem dX2_waitsFor_17 : decode cX2_waitsFor 17 = .ok (.iload_n 3, 1) := by decide +kernel
theorem dX2_waitsFor_18 : decode cX2_waitsFor 18 = .ok (.aload_n 0, 1) := by decide +kernel
theorem dX2_waitsFor_19 : decode cX2_waitsFor 19 = .ok (.getfield 15, 3) := by decide +kernel
theorem dX2_waitsFor_22 : decode cX2_waitsFor 22 = .ok (.if_icmp .ge 25, 3) := by decide +kernel
theorem dX2_waitsFor_25 : decode cX2_waitsFor 25 = .ok (.aload_n 0, 1) := by decide +kernel
theorem dX2_waitsFor_26 : decode cX2_waitsFor 26 = .ok (.aload_n 0, 1) := by decide +kernel
theorem dX2_waitsFor_27 : decode cX2_waitsFor 27 = .ok (.getfield 11, 3) := by decide +kernel
theorem dX2_waitsFor_30 : decode cX2_waitsFor 30 = .ok (.iload_n 3, 1) := by decide +kernel
theorem dX2_waitsFor_31 : decode cX2_waitsFor 31 = .ok (.aaload, 1) := by decide +kernel
theorem dX2_waitsFor_32 : decode cX2_waitsFor 32 = .ok (.aload_n 2, 1) := by decide +kernel
theorem dX2_waitsFor_33 : decode cX2_waitsFor 33 = .ok (.invokevirtual 139, 3) := by decide +kernel
theorem dX2_waitsFor_36 : decode cX2_waitsFor 36 = .ok (.ifCond .eq 5, 3) := by decide +kernel
theorem dX2_waitsFor_39 : decode cX2_waitsFor 39 = .ok (.iload_n 3, 1) := by decide +kernel
theorem dX2_waitsFor_40 : decode cX2_waitsFor 40 = .ok (.ireturn, 1) := by decide +kernel
theorem dX2_waitsFor_41 : decode cX2_waitsFor 41 = .ok (.iinc 3 1, 3) := by decide +kernel
theorem dX2_waitsFor_44 : decode cX2_waitsFor 44 = .ok (.goto (-27), 3) := by decide +kernel
theorem dX2_waitsFor_47 : decode cX2_waitsFor 47 = .ok (.iconst (-1), 1) := by decide +kernel
theorem dX2_waitsFor_48 : decode cX2_waitsFor 48 = .ok (.ireturn, 1) := by decide +kernel
theorem dX2_bar_0 : decode cX2_bar 0 = .ok (.aload_n 0, 1) := by decide +kernel
theorem dX2_bar_1 : decode cX2_bar 1 = .ok (.getfield 36, 3) := by decide +kernel
theorem dX2_bar_4 : decode cX2_bar 4 = .ok (.ireturn, 1) := by decide +kernel
set_option maxRecDepth 20000 in
theorem ggX2_ready_X0_bit : GoodIn wsX2_ready wsX0_bit := goodIn_r _ [8, 9, 17, 18, 19, 20, 21, 22, 23, 24, 25, 26, 27, 28, 29] (by decide +kernel) (by decide +kernel)
set_option maxRecDepth 20000 in
theorem gX2_ready_X0_bit : GoodIn wsX2_ready (wsV RX2 82 RX0 yX0_bit wsX0_bit) := goodIn_app (goodIn_of _ (by decide +kernel)) ggX2_ready_X0_bit
theorem dX2_ready_0 : decode cX2_ready 0 = .ok (.iconst 0, 1) := by decide +kernel
theorem dX2_ready_1 : decode cX2_ready 1 = .ok (.istore_n 1, 1) := by decide +kernel
theorem dX2_ready_2 : decode cX2_ready 2 = .ok (.iconst 0, 1) := by decide +kernel
theorem dX2_ready_3 : decode cX2_ready 3 = .ok (.istore_n 2, 1) := by decide +kernel
theorem dX2_ready_4 : decode cX2_ready 4 = .ok (.iload_n 2, 1) := by decide +kernel
theorem dX2_ready_5 : decode cX2_ready 5 = .ok (.aload_n 0, 1) := by decide +kernel
theorem dX2_ready_6 : decode cX2_ready 6 = .ok (.getfield 15, 3) := by decide +kernel
theorem dX2_ready_9 : decode cX2_ready 9 = .ok (.if_icmp .ge 38, 3) := by decide +kernel
theorem dX2_ready_12 : decode cX2_ready 12 = .ok (.iload_n 1, 1) := by decide +kernel
theorem dX2_ready_13 : decode cX2_ready 13 = .ok (.aload_n 0, 1) := by decide +kernel
theorem dX2_ready_14 : decode cX2_ready 14 = .ok (.getfield 11, 3) := by decide +kernel
theorem dX2_ready_17 : decode cX2_ready 17 = .ok (.iload_n 2, 1) := by decide +kernel
theorem dX2_ready_18 : decode cX2_ready 18 = .ok (.aaload, 1) := by decide +kernel
theorem dX2_ready_19 : decode cX2_ready 19 = .ok (.getfield 136, 3) := by decide +kernel
theorem dX2_ready_22 : decode cX2_ready 22 = .ok (.iconst 2, 1) := by decide +kernel
theorem dX2_ready_23 : decode cX2_ready 23 = .ok (.if_icmp .ne 15, 3) := by decide +kernel
theorem dX2_ready_26 : decode cX2_ready 26 = .ok (.aload_n 0, 1) := by decide +kernel
theorem dX2_ready_27 : decode cX2_ready 27 = .ok (.getfield 11, 3) := by decide +kernel
theorem dX2_ready_30 : decode cX2_ready 30 = .ok (.iload_n 2, 1) := by decide +kernel
theorem dX2_ready_31 : decode cX2_ready 31 = .ok (.aaload, 1) := by decide +kernel
theorem dX2_ready_32 : decode cX2_ready 32 = .ok (.invokevirtual 82, 3) := by decide +kernel
theorem dX2_ready_35 : decode cX2_ready 35 = .ok (.goto 4, 3) := by decide +kernel
theorem dX2_ready_38 : decode cX2_ready 38 = .ok (.iconst 0, 1) := by decide +kernel
theorem dX2_ready_39 : decode cX2_ready 39 = .ok (.ior, 1) := by decide +kernel
theorem dX2_ready_40 : decode cX2_ready 40 = .ok (.istore_n 1, 1) := by decide +kernel
theorem dX2_ready_41 : decode cX2_ready 41 = .ok (.iinc 2 1, 3) := by decide +kernel
theorem dX2_ready_44 : decode cX2_ready 44 = .ok (.goto (-40), 3) := by decide +kernel
theorem dX2_ready_47 : decode cX2_ready 47 = .ok (.iload_n 1, 1) := by decide +kernel
theorem dX2_ready_48 : decode cX2_ready 48 = .ok (.ireturn, 1) := by decide +kernel
set_option maxRecDepth 20000 in
theorem ggX2_canRun_X2_ableAlone : GoodIn wsX2_canRun wsX2_ableAlone := goodIn_r _ [6, 1, 7, 8, 9, 10, 11, 12, 13, 14, 15, 16, 27, 28, 29, 30, 31, 32, 33, 34, 35, 36, 37, 38, 39, 40, 41, 42, 43, 44, 45, 46] (by decide +kernel) (by decide +kernel)
set_option maxRecDepth 20000 in
theorem gX2_canRun_X2_ableAlone : GoodIn wsX2_canRun (wsV RX2 143 RX2 yX2_ableAlone wsX2_ableAlone) := goodIn_app (goodIn_of _ (by decide +kernel)) ggX2_canRun_X2_ableAlone
set_option maxRecDepth 20000 in
theorem ggX2_canRun_X2_keepSupplied : GoodIn wsX2_canRun wsX2_keepSupplied := goodIn_r _ [20, 1, 7, 21, 22, 23, 24, 25, 5, 26, 11, 12, 13, 14, 15, 16, 27, 28, 29, 30, 31, 32, 33, 34, 35, 36, 37, 38, 39, 40, 41, 42, 43, 44, 45, 46] (by decide +kernel) (by decide +kernel)
set_option maxRecDepth 20000 in
theorem gX2_canRun_X2_keepSupplied : GoodIn wsX2_canRun (wsV RX2 146 RX2 yX2_keepSupplied wsX2_keepSupplied) := goodIn_app (goodIn_of _ (by decide +kernel)) ggX2_canRun_X2_keepSupplied
theorem dX2_canRun_0 : decode cX2_canRun 0 = .ok (.aload_n 0, 1) := by decide +kernel
theorem dX2_canRun_1 : decode cX2_canRun 1 = .ok (.invokevirtual 143, 3) := by decide +kernel
theorem dX2_canRun_4 : decode cX2_canRun 4 = .ok (.istore_n 1, 1) := by decide +kernel
theorem dX2_canRun_5 : decode cX2_canRun 5 = .ok (.iconst 0, 1) := by decide +kernel
theorem dX2_canRun_6 : decode cX2_canRun 6 = .ok (.istore_n 2, 1) := by decide +kernel
theorem dX2_canRun_7 : decode cX2_canRun 7 = .ok (.iconst 0, 1) := by decide +kernel
theorem dX2_canRun_8 : decode cX2_canRun 8 = .ok (.istore_n 3, 1) := by decide +kernel
theorem dX2_canRun_9 : decode cX2_canRun 9 = .ok (.iload_n 3, 1) := by decide +kernel
theorem dX2_canRun_10 : decode cX2_canRun 10 = .ok (.aload_n 0, 1) := by decide +kernel
theorem dX2_canRun_11 : decode cX2_canRun 11 = .ok (.getfield 15, 3) := by decide +kernel
theorem dX2_canRun_14 : decode cX2_canRun 14 = .ok (.if_icmp .gt 22, 3) := by decide +kernel
theorem dX2_canRun_17 : decode cX2_canRun 17 = .ok (.iload_n 1, 1) := by decide +kernel
theorem dX2_canRun_18 : decode cX2_canRun 18 = .ok (.iload_n 2, 1) := by decide +kernel
theorem dX2_canRun_19 : decode cX2_canRun 19 = .ok (.if_icmp .eq 17, 3) := by decide +kernel
theorem dX2_canRun_22 : decode cX2_canRun 22 = .ok (.iload_n 1, 1) := by decide +kernel
theorem dX2_canRun_23 : decode cX2_canRun 23 = .ok (.istore_n 2, 1) := by decide +kernel
theorem dX2_canRun_24 : decode cX2_canRun 24 = .ok (.aload_n 0, 1) := by decide +kernel
theorem dX2_canRun_25 : decode cX2_canRun 25 = .ok (.iload_n 1, 1) := by decide +kernel
theorem dX2_canRun_26 : decode cX2_canRun 26 = .ok (.invokevirtual 146, 3) := by decide +kernel
theorem dX2_canRun_29 : decode cX2_canRun 29 = .ok (.istore_n 1, 1) := by decide +kernel
theorem dX2_canRun_30 : decode cX2_canRun 30 = .ok (.iinc 3 1, 3) := by decide +kernel
theorem dX2_canRun_33 : decode cX2_canRun 33 = .ok (.goto (-24), 3) := by decide +kernel
theorem dX2_canRun_36 : decode cX2_canRun 36 = .ok (.iload_n 1, 1) := by decide +kernel
theorem dX2_canRun_37 : decode cX2_canRun 37 = .ok (.ireturn, 1) := by decide +kernel
theorem dX2_unitAt_0 : decode cX2_unitAt 0 = .ok (.iload_n 1, 1) := by decide +kernel
theorem dX2_unitAt_1 : decode cX2_unitAt 1 = .ok (.ifCond .lt 11, 3) := by decide +kernel
theorem dX2_unitAt_4 : decode cX2_unitAt 4 = .ok (.iload_n 1, 1) := by decide +kernel
theorem dX2_unitAt_5 : decode cX2_unitAt 5 = .ok (.aload_n 0, 1) := by decide +kernel
theorem dX2_unitAt_6 : decode cX2_unitAt 6 = .ok (.getfield 15, 3) := by decide +kernel
theorem dX2_unitAt_9 : decode cX2_unitAt 9 = .ok (.if_icmp .lt 13, 3) := by decide +kernel
theorem dX2_unitAt_12 : decode cX2_unitAt 12 = .ok (.new 150, 3) := by decide +kernel
theorem dX2_unitAt_15 : decode cX2_unitAt 15 = .ok (.dup, 1) := by decide +kernel
theorem dX2_unitAt_16 : decode cX2_unitAt 16 = .ok (.ldc 152, 2) := by decide +kernel
theorem dX2_unitAt_18 : decode cX2_unitAt 18 = .ok (.invokespecial 154, 3) := by decide +kernel
theorem dX2_unitAt_21 : decode cX2_unitAt 21 = .ok (.athrow, 1) := by decide +kernel
theorem dX2_unitAt_22 : decode cX2_unitAt 22 = .ok (.aload_n 0, 1) := by decide +kernel
theorem dX2_unitAt_23 : decode cX2_unitAt 23 = .ok (.getfield 11, 3) := by decide +kernel
theorem dX2_unitAt_26 : decode cX2_unitAt 26 = .ok (.iload_n 1, 1) := by decide +kernel
theorem dX2_unitAt_27 : decode cX2_unitAt 27 = .ok (.aaload, 1) := by decide +kernel
theorem dX2_unitAt_28 : decode cX2_unitAt 28 = .ok (.areturn, 1) := by decide +kernel
theorem dX2_checkRange_0 : decode cX2_checkRange 0 = .ok (.iload_n 1, 1) := by decide +kernel
theorem dX2_checkRange_1 : decode cX2_checkRange 1 = .ok (.iload_n 2, 1) := by decide +kernel
theorem dX2_checkRange_2 : decode cX2_checkRange 2 = .ok (.if_icmp .lt 8, 3) := by decide +kernel
theorem dX2_checkRange_5 : decode cX2_checkRange 5 = .ok (.iload_n 1, 1) := by decide +kernel
theorem dX2_checkRange_6 : decode cX2_checkRange 6 = .ok (.iload_n 3, 1) := by decide +kernel
theorem dX2_checkRange_7 : decode cX2_checkRange 7 = .ok (.if_icmp .le 13, 3) := by decide +kernel
theorem dX2_checkRange_10 : decode cX2_checkRange 10 = .ok (.new 155, 3) := by decide +kernel
theorem dX2_checkRange_13 : decode cX2_checkRange 13 = .ok (.dup, 1) := by decide +kernel
theorem dX2_checkRange_14 : decode cX2_checkRange 14 = .ok (.ldc 157, 2) := by decide +kernel
theorem dX2_checkRange_16 : decode cX2_checkRange 16 = .ok (.invokespecial 159, 3) := by decide +kernel
theorem dX2_checkRange_19 : decode cX2_checkRange 19 = .ok (.athrow, 1) := by decide +kernel
theorem dX2_checkRange_20 : decode cX2_checkRange 20 = .ok (.return_, 1) := by decide +kernel
theorem dX2_checkDifferent_0 : decode cX2_checkDifferent 0 = .ok (.aload_n 1, 1) := by decide +kernel
theorem dX2_checkDifferent_1 : decode cX2_checkDifferent 1 = .ok (.aload_n 2, 1) := by decide +kernel
theorem dX2_checkDifferent_2 : decode cX2_checkDifferent 2 = .ok (.if_acmp .ne 13, 3) := by decide +kernel
theorem dX2_checkDifferent_5 : decode cX2_checkDifferent 5 = .ok (.new 155, 3) := by decide +kernel
theorem dX2_checkDifferent_8 : decode cX2_checkDifferent 8 = .ok (.dup, 1) := by decide +kernel
theorem dX2_checkDifferent_9 : decode cX2_checkDifferent 9 = .ok (.ldc 160, 2) := by decide +kernel
theorem dX2_checkDifferent_11 : decode cX2_checkDifferent 11 = .ok (.invokespecial 159, 3) := by decide +kernel
theorem dX2_checkDifferent_14 : decode cX2_checkDifferent 14 = .ok (.athrow, 1) := by decide +kernel
theorem dX2_checkDifferent_15 : decode cX2_checkDifferent 15 = .ok (.return_, 1) := by decide +kernel
theorem dX2_checkNoStart_0 : decode cX2_checkNoStart 0 = .ok (.aload_n 0, 1) := by decide +kernel
theorem dX2_checkNoStart_1 : decode cX2_checkNoStart 1 = .ok (.getfield 26, 3) := by decide +kernel
theorem dX2_checkNoStart_4 : decode cX2_checkNoStart 4 = .ok (.ifCond .eq 13, 3) := by decide +kernel
theorem dX2_checkNoStart_7 : decode cX2_checkNoStart 7 = .ok (.new 46, 3) := by decide +kernel
theorem dX2_checkNoStart_10 : decode cX2_checkNoStart 10 = .ok (.dup, 1) := by decide +kernel
theorem dX2_checkNoStart_11 : decode cX2_checkNoStart 11 = .ok (.ldc 162, 2) := by decide +kernel
theorem dX2_checkNoStart_13 : decode cX2_checkNoStart 13 = .ok (.invokespecial 50, 3) := by decide +kernel
theorem dX2_checkNoStart_16 : decode cX2_checkNoStart 16 = .ok (.athrow, 1) := by decide +kernel
theorem dX2_checkNoStart_17 : decode cX2_checkNoStart 17 = .ok (.return_, 1) := by decide +kernel
set_option maxRecDepth 20000 in
theorem ggX2_contains_X0_bit : GoodIn wsX2_contains wsX0_bit := goodIn_r _ [5, 6, 7, 8, 9, 10, 11, 12, 13, 14, 15, 16, 17, 18, 19] (by decide +kernel) (by decide +kernel)
set_option maxRecDepth 20000 in
theorem gX2_contains_X0_bit : GoodIn wsX2_contains (wsV RX2 82 RX0 yX0_bit wsX0_bit) := goodIn_app (goodIn_of _ (by decide +kernel)) ggX2_contains_X0_bit
theorem dX2_contains_0 : decode cX2_contains 0 = .ok (.iload_n 1, 1) := by decide +kernel
theorem dX2_contains_1 : decode cX2_contains 1 = .ok (.aload_n 2, 1) := by decide +kernel
theorem dX2_contains_2 : decode cX2_contains 2 = .ok (.invokevirtual 82, 3) := by decide +kernel
theorem dX2_contains_5 : decode cX2_contains 5 = .ok (.iand, 1) := by decide +kernel
theorem dX2_contains_6 : decode cX2_contains 6 = .ok (.ifCond .eq 7, 3) := by decide +kernel
theorem dX2_contains_9 : decode cX2_contains 9 = .ok (.iconst 1, 1) := by decide +kernel
theorem dX2_contains_10 : decode cX2_contains 10 = .ok (.goto 4, 3) := by decide +kernel
theorem dX2_contains_13 : decode cX2_contains 13 = .ok (.iconst 0, 1) := by decide +kernel
theorem dX2_contains_14 : decode cX2_contains 14 = .ok (.ireturn, 1) := by decide +kernel
set_option maxRecDepth 20000 in
theorem ggX2_findWish_Jx4a65c_size_8abf5 : GoodIn wsX2_findWish wsJx4a65c_size_8abf5 := goodIn_r _ [9, 10, 38, 39, 40] (by decide +kernel) (by decide +kernel)
set_option maxRecDepth 20000 in
theorem gX2_findWish_Jx4a65c_size_8abf5 : GoodIn wsX2_findWish (wsV RX2 164 RJx4a65c yJx4a65c_size_8abf5 wsJx4a65c_size_8abf5) := goodIn_app (goodIn_of _ (by decide +kernel)) ggX2_findWish_Jx4a65c_size_8abf5
set_option maxRecDepth 20000 in
theorem ggX2_findWish_Jx4a65c_get_915e3 : GoodIn wsX2_findWish wsJx4a65c_get_915e3 := goodIn_r _ [14, 10, 15, 16, 17, 18, 19, 20, 21, 22, 23, 24, 25, 8, 26, 27, 38, 39, 40] (by decide +kernel) (by decide +kernel)
set_option maxRecDepth 20000 in
theorem gX2_findWish_Jx4a65c_get_915e3 : GoodIn wsX2_findWish (wsV RX2 167 RJx4a65c yJx4a65c_get_915e3 wsJx4a65c_get_915e3) := goodIn_app (goodIn_of _ (by decide +kernel)) ggX2_findWish_Jx4a65c_get_915e3
theorem dX2_findWish_0 : decode cX2_findWish 0 = .ok (.iconst 0, 1) := by decide +kernel
theorem dX2_findWish_1 : decode cX2_findWish 1 = .ok (.istore_n 3, 1) := by decide +kernel
theorem dX2_findWish_2 : decode cX2_findWish 2 = .ok (.iload_n 3, 1) := by decide +kernel
theorem dX2_findWish_3 : decode cX2_findWish 3 = .ok (.aload_n 0, 1) := by decide +kernel
theorem dX2_findWish_4 : decode cX2_findWish 4 = .ok (.getfield 22, 3) := by decide +kernel
theorem dX2_findWish_7 : decode cX2_findWish 7 = .ok (.invokevirtual 164, 3) := by decide +kernel
theorem dX2_findWish_10 : decode cX2_findWish 10 = .ok (.if_icmp .ge 43, 3) := by decide +kernel
theorem dX2_findWish_13 : decode cX2_findWish 13 = .ok (.aload_n 0, 1) := by decide +kernel
theorem dX2_findWish_14 : decode cX2_findWish 14 = .ok (.getfield 22, 3) := by decide +kernel
theorem dX2_findWish_17 : decode cX2_findWish 17 = .ok (.iload_n 3, 1) := by decide +kernel
theorem dX2_findWish_18 : decode cX2_findWish 18 = .ok (.invokevirtual 167, 3) := by decide +kernel
theorem dX2_findWish_21 : decode cX2_findWish 21 = .ok (.checkcast 94, 3) := by decide +kernel
theorem dX2_findWish_24 : decode cX2_findWish 24 = .ok (.astore 4, 2) := by decide +kernel
theorem dX2_findWish_26 : decode cX2_findWish 26 = .ok (.aload 4, 2) := by decide +kernel
theorem dX2_findWish_28 : decode cX2_findWish 28 = .ok (.getfield 171, 3) := by decide +kernel
theorem dX2_findWish_31 : decode cX2_findWish 31 = .ok (.aload_n 1, 1) := by decide +kernel
theorem dX2_findWish_32 : decode cX2_findWish 32 = .ok (.if_acmp .ne 15, 3) := by decide +kernel
theorem dX2_findWish_35 : decode cX2_findWish 35 = .ok (.aload 4, 2) := by decide +kernel
theorem dX2_findWish_37 : decode cX2_findWish 37 = .ok (.getfield 174, 3) := by decide +kernel
theorem dX2_findWish_40 : decode cX2_findWish 40 = .ok (.aload_n 2, 1) := by decide +kernel
theorem dX2_findWish_41 : decode cX2_findWish 41 = .ok (.if_acmp .ne 6, 3) := by decide +kernel
theorem dX2_findWish_44 : decode cX2_findWish 44 = .ok (.aload 4, 2) := by decide +kernel
theorem dX2_findWish_46 : decode cX2_findWish 46 = .ok (.areturn, 1) := by decide +kernel
theorem dX2_findWish_47 : decode cX2_findWish 47 = .ok (.iinc 3 1, 3) := by decide +kernel
theorem dX2_findWish_50 : decode cX2_findWish 50 = .ok (.goto (-48), 3) := by decide +kernel
theorem dX2_findWish_53 : decode cX2_findWish 53 = .ok (.aconst_null, 1) := by decide +kernel
theorem dX2_findWish_54 : decode cX2_findWish 54 = .ok (.areturn, 1) := by decide +kernel
set_option maxRecDepth 20000 in
theorem ggX2_reaches_X0_bit : GoodIn wsX2_reaches wsX0_bit := goodIn_r _ [9, 10, 23, 24, 25, 26, 27, 28, 29, 30, 31, 32, 33, 34, 35] (by decide +kernel) (by decide +kernel)
set_option maxRecDepth 20000 in
theorem gX2_reaches_X0_bit : GoodIn wsX2_reaches (wsV RX2 82 RX0 yX0_bit wsX0_bit) := goodIn_app (goodIn_of _ (by decide +kernel)) ggX2_reaches_X0_bit
set_option maxRecDepth 20000 in
theorem ggX2_reaches_X2_contains : GoodIn wsX2_reaches wsX2_contains := goodIn_r _ [15, 5, 6, 7, 8, 9, 10, 23, 24, 25, 26, 27, 28, 29, 30, 31, 32, 33, 34, 35] (by decide +kernel) (by decide +kernel)
set_option maxRecDepth 20000 in
theorem gX2_reaches_X2_contains : GoodIn wsX2_reaches (wsV RX2 78 RX2 yX2_contains wsX2_contains) := goodIn_app (goodIn_of _ (by decide +kernel)) ggX2_reaches_X2_contains
theorem dX2_reaches_0 : decode cX2_reaches 0 = .ok (.aload_n 1, 1) := by decide +kernel
theorem dX2_reaches_1 : decode cX2_reaches 1 = .ok (.invokevirtual 82, 3) := by decide +kernel
theorem dX2_reaches_4 : decode cX2_reaches 4 = .ok (.istore 4, 2) := by decide +kernel
theorem dX2_reaches_6 : decode cX2_reaches 6 = .ok (.iconst 0, 1) := by decide +kernel
theorem dX2_reaches_7 : decode cX2_reaches 7 = .ok (.istore 5, 2) := by decide +kernel
theorem dX2_reaches_9 : decode cX2_reaches 9 = .ok (.iconst 0, 1) := by decide +kernel
theorem dX2_reaches_10 : decode cX2_reaches 10 = .ok (.istore 6, 2) := by decide +kernel
theorem dX2_reaches_12 : decode cX2_reaches 12 = .ok (.iload 6, 2) := by decide +kernel
theorem dX2_reaches_14 : decode cX2_reaches 14 = .ok (.aload_n 0, 1) := by decide +kernel
theorem dX2_reaches_15 : decode cX2_reaches 15 = .ok (.getfield 15, 3) := by decide +kernel
theorem dX2_reaches_18 : decode cX2_reaches 18 = .ok (.if_icmp .gt 88, 3) := by decide +kernel
theorem dX2_reaches_21 : decode cX2_reaches 21 = .ok (.iload 4, 2) := by decide +kernel
theorem dX2_reaches_23 : decode cX2_reaches 23 = .ok (.iload 5, 2) := by decide +kernel
theorem dX2_reaches_25 : decode cX2_reaches 25 = .ok (.if_icmp .eq 81, 3) := by decide +kernel
theorem dX2_reaches_28 : decode cX2_reaches 28 = .ok (.iload 4, 2) := by decide +kernel
theorem dX2_reaches_30 : decode cX2_reaches 30 = .ok (.istore 5, 2) := by decide +kernel
theorem dX2_reaches_32 : decode cX2_reaches 32 = .ok (.iconst 0, 1) := by decide +kernel
theorem dX2_reaches_33 : decode cX2_reaches 33 = .ok (.istore 7, 2) := by decide +kernel
theorem dX2_reaches_35 : decode cX2_reaches 35 = .ok (.iload 7, 2) := by decide +kernel
theorem dX2_reaches_37 : decode cX2_reaches 37 = .ok (.aload_n 0, 1) := by decide +kernel
theorem dX2_reaches_38 : decode cX2_reaches 38 = .ok (.getfield 15, 3) := by decide +kernel
theorem dX2_reaches_41 : decode cX2_reaches 41 = .ok (.if_icmp .ge 59, 3) := by decide +kernel
theorem dX2_reaches_44 : decode cX2_reaches 44 = .ok (.aload_n 0, 1) := by decide +kernel
theorem dX2_reaches_45 : decode cX2_reaches 45 = .ok (.iload 4, 2) := by decide +kernel
theorem dX2_reaches_47 : decode cX2_reaches 47 = .ok (.aload_n 0, 1) := by decide +kernel
theorem dX2_reaches_48 : decode cX2_reaches 48 = .ok (.getfield 11, 3) := by decide +kernel
theorem dX2_reaches_51 : decode cX2_reaches 51 = .ok (.iload 7, 2) := by decide +kernel
theorem dX2_reaches_53 : decode cX2_reaches 53 = .ok (.aaload, 1) := by decide +kernel
theorem dX2_reaches_54 : decode cX2_reaches 54 = .ok (.invokevirtual 78, 3) := by decide +kernel
theorem dX2_reaches_57 : decode cX2_reaches 57 = .ok (.ifCond .eq 37, 3) := by decide +kernel
theorem dX2_reaches_60 : decode cX2_reaches 60 = .ok (.iload 4, 2) := by decide +kernel
theorem dX2_reaches_62 : decode cX2_reaches 62 = .ok (.aload_n 0, 1) := by decide +kernel
theorem dX2_reaches_63 : decode cX2_reaches 63 = .ok (.getfield 11, 3) := by decide +kernel
theorem dX2_reaches_66 : decode cX2_reaches 66 = .ok (.iload 7, 2) := by decide +kernel
theorem dX2_reaches_68 : decode cX2_reaches 68 = .ok (.aaload, 1) := by decide +kernel
theorem dX2_reaches_69 : decode cX2_reaches 69 = .ok (.getfield 75, 3) := by decide +kernel
theorem dX2_reaches_72 : decode cX2_reaches 72 = .ok (.iload_n 3, 1) := by decide +kernel
theorem dX2_reaches_73 : decode cX2_reaches 73 = .ok (.ifCond .eq 16, 3) := by decide +kernel
theorem dX2_reaches_76 : decode cX2_reaches 76 = .ok (.aload_n 0, 1) := by decide +kernel
theorem dX2_reaches_77 : decode cX2_reaches 77 = .ok (.getfield 11, 3) := by decide +kernel
theorem dX2_reaches_80 : decode cX2_reaches 80 = .ok (.iload 7, 2) := by decide +kernel
theorem dX2_reaches_82 : decode cX2_reaches 82 = .ok (.aaload, 1) := by decide +kernel
theorem dX2_reaches_83 : decode cX2_reaches 83 = .ok (.getfield 103, 3) := by decide +kernel
theorem dX2_reaches_86 : decode cX2_reaches 86 = .ok (.goto 4, 3) := by decide +kernel
theorem dX2_reaches_89 : decode cX2_reaches 89 = .ok (.iconst 0, 1) := by decide +kernel
theorem dX2_reaches_90 : decode cX2_reaches 90 = .ok (.ior, 1) := by decide +kernel
theorem dX2_reaches_91 : decode cX2_reaches 91 = .ok (.ior, 1) := by decide +kernel
theorem dX2_reaches_92 : decode cX2_reaches 92 = .ok (.istore 4, 2) := by decide +kernel
theorem dX2_reaches_94 : decode cX2_reaches 94 = .ok (.iinc 7 1, 3) := by decide +kernel
theorem dX2_reaches_97 : decode cX2_reaches 97 = .ok (.goto (-62), 3) := by decide +kernel
theorem dX2_reaches_100 : decode cX2_reaches 100 = .ok (.iinc 6 1, 3) := by decide +kernel
theorem dX2_reaches_103 : decode cX2_reaches 103 = .ok (.goto (-91), 3) := by decide +kernel
theorem dX2_reaches_106 : decode cX2_reaches 106 = .ok (.aload_n 0, 1) := by decide +kernel
theorem dX2_reaches_107 : decode cX2_reaches 107 = .ok (.iload 4, 2) := by decide +kernel
theorem dX2_reaches_109 : decode cX2_reaches 109 = .ok (.aload_n 2, 1) := by decide +kernel
theorem dX2_reaches_110 : decode cX2_reaches 110 = .ok (.invokevirtual 78, 3) := by decide +kernel
theorem dX2_reaches_113 : decode cX2_reaches 113 = .ok (.ireturn, 1) := by decide +kernel
set_option maxRecDepth 20000 in
theorem ggX2_cutLoops_X2_keepAllWishes : GoodIn wsX2_cutLoops wsX2_keepAllWishes := goodIn_r _ [11, 1, 2, 5, 6, 4, 12, 13, 14, 15, 16, 17, 18, 19, 20, 21, 22, 23, 24, 25, 26, 27, 28, 29, 30, 31, 32, 33, 34, 35, 36, 37, 38, 39, 40, 52, 53, 54, 55, 56, 57, 58, 59, 60, 61, 62, 63, 64, 65, 66, 67, 68, 69, 70, 71, 72, 73, 74, 75, 76, 77] (by decide +kernel) (by decide +kernel)
set_option maxRecDepth 20000 in
theorem gX2_cutLoops_X2_keepAllWishes : GoodIn wsX2_cutLoops (wsV RX2 177 RX2 yX2_keepAllWishes wsX2_keepAllWishes) := goodIn_app (goodIn_of _ (by decide +kernel)) ggX2_cutLoops_X2_keepAllWishes
set_option maxRecDepth 20000 in
theorem ggX2_cutLoops_Jx4a65c_size_8abf5 : GoodIn wsX2_cutLoops wsJx4a65c_size_8abf5 := goodIn_r _ [16, 17, 75, 76, 77] (by decide +kernel) (by decide +kernel)
set_option maxRecDepth 20000 in
theorem gX2_cutLoops_Jx4a65c_size_8abf5 : GoodIn wsX2_cutLoops (wsV RX2 164 RJx4a65c yJx4a65c_size_8abf5 wsJx4a65c_size_8abf5) := goodIn_app (goodIn_of _ (by decide +kernel)) ggX2_cutLoops_Jx4a65c_size_8abf5
set_option maxRecDepth 20000 in
theorem ggX2_cutLoops_Jx4a65c_get_915e3 : GoodIn wsX2_cutLoops wsJx4a65c_get_915e3 := goodIn_r _ [21, 17, 22, 23, 24, 25, 26, 27, 28, 29, 30, 31, 32, 15, 33, 34, 75, 76, 77] (by decide +kernel) (by decide +kernel)
set_option maxRecDepth 20000 in
theorem gX2_cutLoops_Jx4a65c_get_915e3 : GoodIn wsX2_cutLoops (wsV RX2 167 RJx4a65c yJx4a65c_get_915e3 wsJx4a65c_get_915e3) := goodIn_app (goodIn_of _ (by decide +kernel)) ggX2_cutLoops_Jx4a65c_get_915e3
set_option maxRecDepth 20000 in
theorem ggX2_cutLoops_X2_reaches : GoodIn wsX2_cutLoops wsX2_reaches := goodIn_r _ [44, 45, 46, 47, 6, 35, 36, 37, 38, 39, 40, 48, 49, 50, 10, 51, 52, 53, 54, 55, 56, 57, 58, 62, 63, 64, 65, 66, 67, 68, 69, 70, 71, 72, 73, 74] (by decide +kernel) (by decide +kernel)
set_option maxRecDepth 20000 in
theorem gX2_cutLoops_X2_reaches : GoodIn wsX2_cutLoops (wsV RX2 69 RX2 yX2_reaches wsX2_reaches) := goodIn_app (goodIn_of _ (by decide +kernel)) ggX2_cutLoops_X2_reaches
set_option maxRecDepth 20000 in
theorem ggX2_cutLoops_X0_bit : GoodIn wsX2_cutLoops wsX0_bit := goodIn_r _ [39, 40, 62, 63, 64, 65, 66, 67, 68, 69, 70, 71, 72, 73, 74] (by decide +kernel) (by decide +kernel)
set_option maxRecDepth 20000 in
theorem gX2_cutLoops_X0_bit : GoodIn wsX2_cutLoops (wsV RX2 82 RX0 yX0_bit wsX0_bit) := goodIn_app (goodIn_of _ (by decide +kernel)) ggX2_cutLoops_X0_bit
theorem dX2_cutLoops_0 : decode cX2_cutLoops 0 = .ok (.aload_n 0, 1) := by decide +kernel
theorem dX2_cutLoops_1 : decode cX2_cutLoops 1 = .ok (.invokevirtual 177, 3) := by decide +kernel
theorem dX2_cutLoops_4 : decode cX2_cutLoops 4 = .ok (.iconst 0, 1) := by decide +kernel
theorem dX2_cutLoops_5 : decode cX2_cutLoops 5 = .ok (.istore_n 1, 1) := by decide +kernel
theorem dX2_cutLoops_6 : decode cX2_cutLoops 6 = .ok (.iconst 1, 1) := by decide +kernel
theorem dX2_cutLoops_7 : decode cX2_cutLoops 7 = .ok (.istore_n 2, 1) := by decide +kernel
theorem dX2_cutLoops_8 : decode cX2_cutLoops 8 = .ok (.iload_n 2, 1) := by decide +kernel
theorem dX2_cutLoops_9 : decode cX2_cutLoops 9 = .ok (.bipush 100, 2) := by decide +kernel
theorem dX2_cutLoops_11 : decode cX2_cutLoops 11 = .ok (.if_icmp .gt 94, 3) := by decide +kernel
theorem dX2_cutLoops_14 : decode cX2_cutLoops 14 = .ok (.iconst 0, 1) := by decide +kernel
theorem dX2_cutLoops_15 : decode cX2_cutLoops 15 = .ok (.istore_n 3, 1) := by decide +kernel
theorem dX2_cutLoops_16 : decode cX2_cutLoops 16 = .ok (.iload_n 3, 1) := by decide +kernel
theorem dX2_cutLoops_17 : decode cX2_cutLoops 17 = .ok (.aload_n 0, 1) := by decide +kernel
theorem dX2_cutLoops_18 : decode cX2_cutLoops 18 = .ok (.getfield 22, 3) := by decide +kernel
theorem dX2_cutLoops_21 : decode cX2_cutLoops 21 = .ok (.invokevirtual 164, 3) := by decide +kernel
theorem dX2_cutLoops_24 : decode cX2_cutLoops 24 = .ok (.if_icmp .ge 75, 3) := by decide +kernel
theorem dX2_cutLoops_27 : decode cX2_cutLoops 27 = .ok (.aload_n 0, 1) := by decide +kernel
theorem dX2_cutLoops_28 : decode cX2_cutLoops 28 = .ok (.getfield 22, 3) := by decide +kernel
theorem dX2_cutLoops_31 : decode cX2_cutLoops 31 = .ok (.iload_n 3, 1) := by decide +kernel
theorem dX2_cutLoops_32 : decode cX2_cutLoops 32 = .ok (.invokevirtual 167, 3) := by decide +kernel
theorem dX2_cutLoops_35 : decode cX2_cutLoops 35 = .ok (.checkcast 94, 3) := by decide +kernel
theorem dX2_cutLoops_38 : decode cX2_cutLoops 38 = .ok (.astore 4, 2) := by decide +kernel
theorem dX2_cutLoops_40 : decode cX2_cutLoops 40 = .ok (.aload 4, 2) := by decide +kernel
theorem dX2_cutLoops_42 : decode cX2_cutLoops 42 = .ok (.getfield 106, 3) := by decide +kernel
theorem dX2_cutLoops_45 : decode cX2_cutLoops 45 = .ok (.iload_n 2, 1) := by decide +kernel
theorem dX2_cutLoops_46 : decode cX2_cutLoops 46 = .ok (.if_icmp .ne 47, 3) := by decide +kernel
theorem dX2_cutLoops_49 : decode cX2_cutLoops 49 = .ok (.aload_n 0, 1) := by decide +kernel
theorem dX2_cutLoops_50 : decode cX2_cutLoops 50 = .ok (.aload 4, 2) := by decide +kernel
theorem dX2_cutLoops_52 : decode cX2_cutLoops 52 = .ok (.getfield 174, 3) := by decide +kernel
theorem dX2_cutLoops_55 : decode cX2_cutLoops 55 = .ok (.aload 4, 2) := by decide +kernel
theorem dX2_cutLoops_57 : decode cX2_cutLoops 57 = .ok (.getfield 171, 3) := by decide +kernel
theorem dX2_cutLoops_60 : decode cX2_cutLoops 60 = .ok (.iconst 1, 1) := by decide +kernel
theorem dX2_cutLoops_61 : decode cX2_cutLoops 61 = .ok (.invokevirtual 69, 3) := by decide +kernel
theorem dX2_cutLoops_64 : decode cX2_cutLoops 64 = .ok (.ifCond .eq 29, 3) := by decide +kernel
theorem dX2_cutLoops_67 : decode cX2_cutLoops 67 = .ok (.aload 4, 2) := by decide +kernel
theorem dX2_cutLoops_69 : decode cX2_cutLoops 69 = .ok (.getfield 171, 3) := by decide +kernel
theorem dX2_cutLoops_72 : decode cX2_cutLoops 72 = .ok (.dup, 1) := by decide +kernel
theorem dX2_cutLoops_73 : decode cX2_cutLoops 73 = .ok (.getfield 103, 3) := by decide +kernel
theorem dX2_cutLoops_76 : decode cX2_cutLoops 76 = .ok (.aload 4, 2) := by decide +kernel
theorem dX2_cutLoops_78 : decode cX2_cutLoops 78 = .ok (.getfield 174, 3) := by decide +kernel
theorem dX2_cutLoops_81 : decode cX2_cutLoops 81 = .ok (.invokevirtual 82, 3) := by decide +kernel
theorem dX2_cutLoops_84 : decode cX2_cutLoops 84 = .ok (.iconst (-1), 1) := by decide +kernel
theorem dX2_cutLoops_85 : decode cX2_cutLoops 85 = .ok (.ixor, 1) := by decide +kernel
theorem dX2_cutLoops_86 : decode cX2_cutLoops 86 = .ok (.iand, 1) := by decide +kernel
theorem dX2_cutLoops_87 : decode cX2_cutLoops 87 = .ok (.putfield 103, 3) := by decide +kernel
theorem dX2_cutLoops_90 : decode cX2_cutLoops 90 = .ok (.iinc 1 1, 3) := by decide +kernel
theorem dX2_cutLoops_93 : decode cX2_cutLoops 93 = .ok (.iinc 3 1, 3) := by decide +kernel
theorem dX2_cutLoops_96 : decode cX2_cutLoops 96 = .ok (.goto (-80), 3) := by decide +kernel
theorem dX2_cutLoops_99 : decode cX2_cutLoops 99 = .ok (.iinc 2 1, 3) := by decide +kernel
theorem dX2_cutLoops_102 : decode cX2_cutLoops 102 = .ok (.goto (-94), 3) := by decide +kernel
theorem dX2_cutLoops_105 : decode cX2_cutLoops 105 = .ok (.iload_n 1, 1) := by decide +kernel
theorem dX2_cutLoops_106 : decode cX2_cutLoops 106 = .ok (.ireturn, 1) := by decide +kernel
set_option maxRecDepth 20000 in
theorem ggX2_keepAllWishes_Jx4a65c_size_8abf5 : GoodIn wsX2_keepAllWishes wsJx4a65c_size_8abf5 := goodIn_r _ [10, 11, 58, 59, 60] (by decide +kernel) (by decide +kernel)
set_option maxRecDepth 20000 in
theorem gX2_keepAllWishes_Jx4a65c_size_8abf5 : GoodIn wsX2_keepAllWishes (wsV RX2 164 RJx4a65c yJx4a65c_size_8abf5 wsJx4a65c_size_8abf5) := goodIn_app (goodIn_of _ (by decide +kernel)) ggX2_keepAllWishes_Jx4a65c_size_8abf5
set_option maxRecDepth 20000 in
theorem ggX2_keepAllWishes_Jx4a65c_get_915e3 : GoodIn wsX2_keepAllWishes wsJx4a65c_get_915e3 := goodIn_r _ [15, 11, 16, 17, 18, 19, 20, 21, 22, 23, 24, 25, 26, 9, 27, 28, 58, 59, 60] (by decide +kernel) (by decide +kernel)
set_option maxRecDepth 20000 in
theorem gX2_keepAllWishes_Jx4a65c_get_915e3 : GoodIn wsX2_keepAllWishes (wsV RX2 167 RJx4a65c yJx4a65c_get_915e3 wsJx4a65c_get_915e3) := goodIn_app (goodIn_of _ (by decide +kernel)) ggX2_keepAllWishes_Jx4a65c_get_915e3
set_option maxRecDepth 20000 in
theorem ggX2_keepAllWishes_X0_bit : GoodIn wsX2_keepAllWishes wsX0_bit := goodIn_r _ [33, 34, 45, 46, 47, 48, 49, 50, 51, 52, 53, 54, 55, 56, 57] (by decide +kernel) (by decide +kernel)
set_option maxRecDepth 20000 in
theorem gX2_keepAllWishes_X0_bit : GoodIn wsX2_keepAllWishes (wsV RX2 82 RX0 yX0_bit wsX0_bit) := goodIn_app (goodIn_of _ (by decide +kernel)) ggX2_keepAllWishes_X0_bit
theorem dX2_keepAllWishes_0 : decode cX2_keepAllWishes 0 = .ok (.iconst 0, 1) := by decide +kernel
theorem dX2_keepAllWishes_1 : decode cX2_keepAllWishes 1 = .ok (.istore_n 1, 1) := by decide +kernel
theorem dX2_keepAllWishes_2 : decode cX2_keepAllWishes 2 = .ok (.iload_n 1, 1) := by decide +kernel
theorem dX2_keepAllWishes_3 : decode cX2_keepAllWishes 3 = .ok (.aload_n 0, 1) := by decide +kernel
theorem dX2_keepAllWishes_4 : decode cX2_keepAllWishes 4 = .ok (.getfield 22, 3) := by decide +kernel
theorem dX2_keepAllWishes_7 : decode cX2_keepAllWishes 7 = .ok (.invokevirtual 164, 3) := by decide +kernel
theorem dX2_keepAllWishes_10 : decode cX2_keepAllWishes 10 = .ok (.if_icmp .ge 40, 3) := by decide +kernel
theorem dX2_keepAllWishes_13 : decode cX2_keepAllWishes 13 = .ok (.aload_n 0, 1) := by decide +kernel
theorem dX2_keepAllWishes_14 : decode cX2_keepAllWishes 14 = .ok (.getfield 22, 3) := by decide +kernel
theorem dX2_keepAllWishes_17 : decode cX2_keepAllWishes 17 = .ok (.iload_n 1, 1) := by decide +kernel
theorem dX2_keepAllWishes_18 : decode cX2_keepAllWishes 18 = .ok (.invokevirtual 167, 3) := by decide +kernel
theorem dX2_keepAllWishes_21 : decode cX2_keepAllWishes 21 = .ok (.checkcast 94, 3) := by decide +kernel
theorem dX2_keepAllWishes_24 : decode cX2_keepAllWishes 24 = .ok (.astore_n 2, 1) := by decide +kernel
theorem dX2_keepAllWishes_25 : decode cX2_keepAllWishes 25 = .ok (.aload_n 2, 1) := by decide +kernel
theorem dX2_keepAllWishes_26 : decode cX2_keepAllWishes 26 = .ok (.getfield 171, 3) := by decide +kernel
theorem dX2_keepAllWishes_29 : decode cX2_keepAllWishes 29 = .ok (.dup, 1) := by decide +kernel
theorem dX2_keepAllWishes_30 : decode cX2_keepAllWishes 30 = .ok (.getfield 103, 3) := by decide +kernel
theorem dX2_keepAllWishes_33 : decode cX2_keepAllWishes 33 = .ok (.aload_n 2, 1) := by decide +kernel
theorem dX2_keepAllWishes_34 : decode cX2_keepAllWishes 34 = .ok (.getfield 174, 3) := by decide +kernel
theorem dX2_keepAllWishes_37 : decode cX2_keepAllWishes 37 = .ok (.invokevirtual 82, 3) := by decide +kernel
theorem dX2_keepAllWishes_40 : decode cX2_keepAllWishes 40 = .ok (.ior, 1) := by decide +kernel
theorem dX2_keepAllWishes_41 : decode cX2_keepAllWishes 41 = .ok (.putfield 103, 3) := by decide +kernel
theorem dX2_keepAllWishes_44 : decode cX2_keepAllWishes 44 = .ok (.iinc 1 1, 3) := by decide +kernel
theorem dX2_keepAllWishes_47 : decode cX2_keepAllWishes 47 = .ok (.goto (-45), 3) := by decide +kernel
theorem dX2_keepAllWishes_50 : decode cX2_keepAllWishes 50 = .ok (.return_, 1) := by decide +kernel
set_option maxRecDepth 20000 in
theorem ggX2_isAwaited_X2_contains : GoodIn wsX2_isAwaited wsX2_contains := goodIn_r _ [7, 8, 9, 10, 11, 12, 13, 32, 33, 34, 35, 36, 37, 38, 39, 40, 41, 42, 43, 44] (by decide +kernel) (by decide +kernel)
set_option maxRecDepth 20000 in
theorem gX2_isAwaited_X2_contains : GoodIn wsX2_isAwaited (wsV RX2 78 RX2 yX2_contains wsX2_contains) := goodIn_app (goodIn_of _ (by decide +kernel)) ggX2_isAwaited_X2_contains
set_option maxRecDepth 20000 in
theorem ggX2_isAwaited_X0_isNeedMet : GoodIn wsX2_isAwaited wsX0_isNeedMet := goodIn_r _ [17, 18, 19, 20, 21, 22, 11, 23, 32, 33, 34, 35, 36, 37, 38, 39, 40, 41, 42, 43, 44] (by decide +kernel) (by decide +kernel)
set_option maxRecDepth 20000 in
theorem gX2_isAwaited_X0_isNeedMet : GoodIn wsX2_isAwaited (wsV RX2 180 RX0 yX0_isNeedMet wsX0_isNeedMet) := goodIn_app (goodIn_of _ (by decide +kernel)) ggX2_isAwaited_X0_isNeedMet
set_option maxRecDepth 20000 in
theorem ggX2_isAwaited_X0_isNeedLost : GoodIn wsX2_isAwaited wsX0_isNeedLost := goodIn_r _ [27, 19, 20, 21, 22, 11, 23, 18, 32, 33, 34, 35, 36, 37, 38, 39, 40, 41, 42, 43, 44] (by decide +kernel) (by decide +kernel)
set_option maxRecDepth 20000 in
theorem gX2_isAwaited_X0_isNeedLost : GoodIn wsX2_isAwaited (wsV RX2 184 RX0 yX0_isNeedLost wsX0_isNeedLost) := goodIn_app (goodIn_of _ (by decide +kernel)) ggX2_isAwaited_X0_isNeedLost
set_option maxRecDepth 20000 in
theorem ggX2_isAwaited_X0_isWishDone : GoodIn wsX2_isAwaited wsX0_isWishDone := goodIn_r _ [31, 18, 20, 21, 22, 11, 23, 32, 33, 34, 35, 36, 37, 38, 39, 40, 41, 42, 43, 44] (by decide +kernel) (by decide +kernel)
set_option maxRecDepth 20000 in
theorem gX2_isAwaited_X0_isWishDone : GoodIn wsX2_isAwaited (wsV RX2 187 RX0 yX0_isWishDone wsX0_isWishDone) := goodIn_app (goodIn_of _ (by decide +kernel)) ggX2_isAwaited_X0_isWishDone
theorem dX2_isAwaited_0 : decode cX2_isAwaited 0 = .ok (.aload_n 0, 1) := by decide +kernel
theorem dX2_isAwaited_1 : decode cX2_isAwaited 1 = .ok (.aload_n 2, 1) := by decide +kernel
theorem dX2_isAwaited_2 : decode cX2_isAwaited 2 = .ok (.getfield 75, 3) := by decide +kernel
theorem dX2_isAwaited_5 : decode cX2_isAwaited 5 = .ok (.aload_n 1, 1) := by decide +kernel
theorem dX2_isAwaited_6 : decode cX2_isAwaited 6 = .ok (.invokevirtual 78, 3) := by decide +kernel
theorem dX2_isAwaited_9 : decode cX2_isAwaited 9 = .ok (.ifCond .eq 21, 3) := by decide +kernel
theorem dX2_isAwaited_12 : decode cX2_isAwaited 12 = .ok (.aload_n 1, 1) := by decide +kernel
theorem dX2_isAwaited_13 : decode cX2_isAwaited 13 = .ok (.invokevirtual 180, 3) := by decide +kernel
theorem dX2_isAwaited_16 : decode cX2_isAwaited 16 = .ok (.ifCond .ne 14, 3) := by decide +kernel
theorem dX2_isAwaited_19 : decode cX2_isAwaited 19 = .ok (.aload_n 1, 1) := by decide +kernel
theorem dX2_isAwaited_20 : decode cX2_isAwaited 20 = .ok (.invokevirtual 184, 3) := by decide +kernel
theorem dX2_isAwaited_23 : decode cX2_isAwaited 23 = .ok (.ifCond .ne 7, 3) := by decide +kernel
theorem dX2_isAwaited_26 : decode cX2_isAwaited 26 = .ok (.iconst 1, 1) := by decide +kernel
theorem dX2_isAwaited_27 : decode cX2_isAwaited 27 = .ok (.goto 4, 3) := by decide +kernel
theorem dX2_isAwaited_30 : decode cX2_isAwaited 30 = .ok (.iconst 0, 1) := by decide +kernel
theorem dX2_isAwaited_31 : decode cX2_isAwaited 31 = .ok (.istore_n 3, 1) := by decide +kernel
theorem dX2_isAwaited_32 : decode cX2_isAwaited 32 = .ok (.aload_n 0, 1) := by decide +kernel
theorem dX2_isAwaited_33 : decode cX2_isAwaited 33 = .ok (.aload_n 2, 1) := by decide +kernel
theorem dX2_isAwaited_34 : decode cX2_isAwaited 34 = .ok (.getfield 103, 3) := by decide +kernel
theorem dX2_isAwaited_37 : decode cX2_isAwaited 37 = .ok (.aload_n 1, 1) := by decide +kernel
theorem dX2_isAwaited_38 : decode cX2_isAwaited 38 = .ok (.invokevirtual 78, 3) := by decide +kernel
theorem dX2_isAwaited_41 : decode cX2_isAwaited 41 = .ok (.ifCond .eq 14, 3) := by decide +kernel
theorem dX2_isAwaited_44 : decode cX2_isAwaited 44 = .ok (.aload_n 1, 1) := by decide +kernel
theorem dX2_isAwaited_45 : decode cX2_isAwaited 45 = .ok (.invokevirtual 187, 3) := by decide +kernel
theorem dX2_isAwaited_48 : decode cX2_isAwaited 48 = .ok (.ifCond .ne 7, 3) := by decide +kernel
theorem dX2_isAwaited_51 : decode cX2_isAwaited 51 = .ok (.iconst 1, 1) := by decide +kernel
theorem dX2_isAwaited_52 : decode cX2_isAwaited 52 = .ok (.goto 4, 3) := by decide +kernel
theorem dX2_isAwaited_55 : decode cX2_isAwaited 55 = .ok (.iconst 0, 1) := by decide +kernel
theorem dX2_isAwaited_56 : decode cX2_isAwaited 56 = .ok (.istore 4, 2) := by decide +kernel
theorem dX2_isAwaited_58 : decode cX2_isAwaited 58 = .ok (.iload_n 3, 1) := by decide +kernel
theorem dX2_isAwaited_59 : decode cX2_isAwaited 59 = .ok (.ifCond .ne 8, 3) := by decide +kernel
theorem dX2_isAwaited_62 : decode cX2_isAwaited 62 = .ok (.iload 4, 2) := by decide +kernel
theorem dX2_isAwaited_64 : decode cX2_isAwaited 64 = .ok (.ifCond .eq 7, 3) := by decide +kernel
theorem dX2_isAwaited_67 : decode cX2_isAwaited 67 = .ok (.iconst 1, 1) := by decide +kernel
theorem dX2_isAwaited_68 : decode cX2_isAwaited 68 = .ok (.goto 4, 3) := by decide +kernel
theorem dX2_isAwaited_71 : decode cX2_isAwaited 71 = .ok (.iconst 0, 1) := by decide +kernel
theorem dX2_isAwaited_72 : decode cX2_isAwaited 72 = .ok (.ireturn, 1) := by decide +kernel
set_option maxRecDepth 20000 in
theorem ggX2_passOneTick_X2_endStarts : GoodIn wsX2_passOneTick wsX2_endStarts := goodIn_r _ [6, 7, 8, 9, 10, 11, 12, 13, 14, 15, 16, 17, 18, 19, 20, 21, 22, 23, 24, 25, 26, 96, 97, 98, 99, 100, 101, 102, 103, 104, 105, 106, 107, 108, 109, 110, 111, 112, 113, 114, 115] (by decide +kernel) (by decide +kernel)
set_option maxRecDepth 20000 in
theorem gX2_passOneTick_X2_endStarts : GoodIn wsX2_passOneTick (wsV RX2 190 RX2 yX2_endStarts wsX2_endStarts) := goodIn_app (goodIn_of _ (by decide +kernel)) ggX2_passOneTick_X2_endStarts
set_option maxRecDepth 20000 in
theorem ggX2_passOneTick_X2_failWithoutNeeds : GoodIn wsX2_passOneTick wsX2_failWithoutNeeds := goodIn_r _ [30, 7, 8, 9, 31, 32, 33, 34, 5, 35, 36, 37, 38, 15, 39, 40, 41, 42, 43, 44, 18, 45, 46, 47, 48, 49, 96, 97, 98, 99, 100, 101, 102, 103, 104, 105, 106, 107, 108, 109, 110, 111, 112, 113, 114, 115] (by decide +kernel) (by decide +kernel)
set_option maxRecDepth 20000 in
theorem gX2_passOneTick_X2_failWithoutNeeds : GoodIn wsX2_passOneTick (wsV RX2 193 RX2 yX2_failWithoutNeeds wsX2_failWithoutNeeds) := goodIn_app (goodIn_of _ (by decide +kernel)) ggX2_passOneTick_X2_failWithoutNeeds
set_option maxRecDepth 20000 in
theorem ggX2_passOneTick_X2_startWaiting : GoodIn wsX2_passOneTick wsX2_startWaiting := goodIn_r _ [53, 7, 54, 8, 9, 31, 55, 10, 56, 57, 58, 5, 59, 60, 61, 62, 15, 63, 18, 40, 41, 42, 43, 44, 45, 46, 47, 48, 49, 64, 65, 66, 67, 68, 69, 70, 71, 72, 73, 74, 75, 96, 97, 98, 99, 100, 101, 102, 103, 104, 105, 106, 107, 108, 109, 110, 111, 112, 113, 114, 115] (by decide +kernel) (by decide +kernel)
set_option maxRecDepth 20000 in
theorem gX2_passOneTick_X2_startWaiting : GoodIn wsX2_passOneTick (wsV RX2 196 RX2 yX2_startWaiting wsX2_startWaiting) := goodIn_app (goodIn_of _ (by decide +kernel)) ggX2_passOneTick_X2_startWaiting
set_option maxRecDepth 20000 in
theorem ggX2_passOneTick_X2_raiseBar : GoodIn wsX2_passOneTick wsX2_raiseBar := goodIn_r _ [79, 1, 80, 81, 82, 22, 23, 24, 83, 84, 85, 5, 86, 7, 8, 87, 88, 89, 15, 90, 18, 91, 92, 93, 94, 95, 96, 97, 98, 99, 100, 101, 102, 103, 104, 105, 106, 107, 108, 109, 110, 111, 112, 113, 114, 115] (by decide +kernel) (by decide +kernel)
set_option maxRecDepth 20000 in
theorem gX2_passOneTick_X2_raiseBar : GoodIn wsX2_passOneTick (wsV RX2 128 RX2 yX2_raiseBar wsX2_raiseBar) := goodIn_app (goodIn_of _ (by decide +kernel)) ggX2_passOneTick_X2_raiseBar
theorem dX2_passOneTick_0 : decode cX2_passOneTick 0 = .ok (.aload_n 0, 1) := by decide +kernel
theorem dX2_passOneTick_1 : decode cX2_passOneTick 1 = .ok (.invokevirtual 190, 3) := by decide +kernel
theorem dX2_passOneTick_4 : decode cX2_passOneTick 4 = .ok (.aload_n 0, 1) := by decide +kernel
theorem dX2_passOneTick_5 : decode cX2_passOneTick 5 = .ok (.invokevirtual 193, 3) := by decide +kernel
theorem dX2_passOneTick_8 : decode cX2_passOneTick 8 = .ok (.aload_n 0, 1) := by decide +kernel
theorem dX2_passOneTick_9 : decode cX2_passOneTick 9 = .ok (.aload_n 0, 1) := by decide +kernel
theorem dX2_passOneTick_10 : decode cX2_passOneTick 10 = .ok (.invokevirtual 196, 3) := by decide +kernel
theorem dX2_passOneTick_13 : decode cX2_passOneTick 13 = .ok (.ifCond .le 7, 3) := by decide +kernel
theorem dX2_passOneTick_16 : decode cX2_passOneTick 16 = .ok (.iconst 1, 1) := by decide +kernel
theorem dX2_passOneTick_17 : decode cX2_passOneTick 17 = .ok (.goto 4, 3) := by decide +kernel
theorem dX2_passOneTick_20 : decode cX2_passOneTick 20 = .ok (.iconst 0, 1) := by decide +kernel
theorem dX2_passOneTick_21 : decode cX2_passOneTick 21 = .ok (.putfield 26, 3) := by decide +kernel
theorem dX2_passOneTick_24 : decode cX2_passOneTick 24 = .ok (.aload_n 0, 1) := by decide +kernel
theorem dX2_passOneTick_25 : decode cX2_passOneTick 25 = .ok (.invokevirtual 128, 3) := by decide +kernel
theorem dX2_passOneTick_28 : decode cX2_passOneTick 28 = .ok (.return_, 1) := by decide +kernel
set_option maxRecDepth 20000 in
theorem ggX2_endStarts_X0_comeToEnd : GoodIn wsX2_endStarts wsX0_comeToEnd := goodIn_r _ [10, 11, 12, 13, 14, 15, 16, 17, 18, 19, 20, 28, 29, 30, 31, 32, 33, 34, 35, 36, 37, 38, 39, 40] (by decide +kernel) (by decide +kernel)
set_option maxRecDepth 20000 in
theorem gX2_endStarts_X0_comeToEnd : GoodIn wsX2_endStarts (wsV RX2 202 RX0 yX0_comeToEnd wsX0_comeToEnd) := goodIn_app (goodIn_of _ (by decide +kernel)) ggX2_endStarts_X0_comeToEnd
theorem dX2_endStarts_0 : decode cX2_endStarts 0 = .ok (.iconst 0, 1) := by decide +kernel
theorem dX2_endStarts_1 : decode cX2_endStarts 1 = .ok (.istore_n 1, 1) := by decide +kernel
theorem dX2_endStarts_2 : decode cX2_endStarts 2 = .ok (.iload_n 1, 1) := by decide +kernel
theorem dX2_endStarts_3 : decode cX2_endStarts 3 = .ok (.aload_n 0, 1) := by decide +kernel
theorem dX2_endStarts_4 : decode cX2_endStarts 4 = .ok (.getfield 15, 3) := by decide +kernel
theorem dX2_endStarts_7 : decode cX2_endStarts 7 = .ok (.if_icmp .ge 49, 3) := by decide +kernel
theorem dX2_endStarts_10 : decode cX2_endStarts 10 = .ok (.aload_n 0, 1) := by decide +kernel
theorem dX2_endStarts_11 : decode cX2_endStarts 11 = .ok (.getfield 11, 3) := by decide +kernel
theorem dX2_endStarts_14 : decode cX2_endStarts 14 = .ok (.iload_n 1, 1) := by decide +kernel
theorem dX2_endStarts_15 : decode cX2_endStarts 15 = .ok (.aaload, 1) := by decide +kernel
theorem dX2_endStarts_16 : decode cX2_endStarts 16 = .ok (.astore_n 2, 1) := by decide +kernel
theorem dX2_endStarts_17 : decode cX2_endStarts 17 = .ok (.aload_n 2, 1) := by decide +kernel
theorem dX2_endStarts_18 : decode cX2_endStarts 18 = .ok (.getfield 136, 3) := by decide +kernel
theorem dX2_endStarts_21 : decode cX2_endStarts 21 = .ok (.iconst 1, 1) := by decide +kernel
theorem dX2_endStarts_22 : decode cX2_endStarts 22 = .ok (.if_icmp .ne 28, 3) := by decide +kernel
theorem dX2_endStarts_25 : decode cX2_endStarts 25 = .ok (.aload_n 2, 1) := by decide +kernel
theorem dX2_endStarts_26 : decode cX2_endStarts 26 = .ok (.dup, 1) := by decide +kernel
theorem dX2_endStarts_27 : decode cX2_endStarts 27 = .ok (.getfield 199, 3) := by decide +kernel
theorem dX2_endStarts_30 : decode cX2_endStarts 30 = .ok (.iconst 1, 1) := by decide +kernel
theorem dX2_endStarts_31 : decode cX2_endStarts 31 = .ok (.iadd, 1) := by decide +kernel
theorem dX2_endStarts_32 : decode cX2_endStarts 32 = .ok (.putfield 199, 3) := by decide +kernel
theorem dX2_endStarts_35 : decode cX2_endStarts 35 = .ok (.aload_n 2, 1) := by decide +kernel
theorem dX2_endStarts_36 : decode cX2_endStarts 36 = .ok (.getfield 199, 3) := by decide +kernel
theorem dX2_endStarts_39 : decode cX2_endStarts 39 = .ok (.aload_n 2, 1) := by decide +kernel
theorem dX2_endStarts_40 : decode cX2_endStarts 40 = .ok (.getfield 56, 3) := by decide +kernel
theorem dX2_endStarts_43 : decode cX2_endStarts 43 = .ok (.if_icmp .lt 7, 3) := by decide +kernel
theorem dX2_endStarts_46 : decode cX2_endStarts 46 = .ok (.aload_n 2, 1) := by decide +kernel
theorem dX2_endStarts_47 : decode cX2_endStarts 47 = .ok (.invokevirtual 202, 3) := by decide +kernel
theorem dX2_endStarts_50 : decode cX2_endStarts 50 = .ok (.iinc 1 1, 3) := by decide +kernel
theorem dX2_endStarts_53 : decode cX2_endStarts 53 = .ok (.goto (-51), 3) := by decide +kernel
theorem dX2_endStarts_56 : decode cX2_endStarts 56 = .ok (.return_, 1) := by decide +kernel
set_option maxRecDepth 20000 in
theorem ggX2_failWithoutNeeds_X2_lostNeeds : GoodIn wsX2_failWithoutNeeds wsX2_lostNeeds := goodIn_r _ [9, 1, 2, 10, 11, 12, 13, 14, 15, 16, 17, 18, 19, 20, 21, 22, 23, 24, 25, 26, 27, 28, 29, 30, 31, 32, 33, 34, 35, 36, 37, 38, 39, 40, 41, 42, 43, 44, 45] (by decide +kernel) (by decide +kernel)
set_option maxRecDepth 20000 in
theorem gX2_failWithoutNeeds_X2_lostNeeds : GoodIn wsX2_failWithoutNeeds (wsV RX2 205 RX2 yX2_lostNeeds wsX2_lostNeeds) := goodIn_app (goodIn_of _ (by decide +kernel)) ggX2_failWithoutNeeds_X2_lostNeeds
theorem dX2_failWithoutNeeds_0 : decode cX2_failWithoutNeeds 0 = .ok (.aload_n 0, 1) := by decide +kernel
theorem dX2_failWithoutNeeds_1 : decode cX2_failWithoutNeeds 1 = .ok (.invokevirtual 205, 3) := by decide +kernel
theorem dX2_failWithoutNeeds_4 : decode cX2_failWithoutNeeds 4 = .ok (.istore_n 1, 1) := by decide +kernel
theorem dX2_failWithoutNeeds_5 : decode cX2_failWithoutNeeds 5 = .ok (.iconst 0, 1) := by decide +kernel
theorem dX2_failWithoutNeeds_6 : decode cX2_failWithoutNeeds 6 = .ok (.istore_n 2, 1) := by decide +kernel
theorem dX2_failWithoutNeeds_7 : decode cX2_failWithoutNeeds 7 = .ok (.iload_n 2, 1) := by decide +kernel
theorem dX2_failWithoutNeeds_8 : decode cX2_failWithoutNeeds 8 = .ok (.aload_n 0, 1) := by decide +kernel
theorem dX2_failWithoutNeeds_9 : decode cX2_failWithoutNeeds 9 = .ok (.getfield 15, 3) := by decide +kernel
theorem dX2_failWithoutNeeds_12 : decode cX2_failWithoutNeeds 12 = .ok (.if_icmp .ge 42, 3) := by decide +kernel
theorem dX2_failWithoutNeeds_15 : decode cX2_failWithoutNeeds 15 = .ok (.aload_n 0, 1) := by decide +kernel
theorem dX2_failWithoutNeeds_16 : decode cX2_failWithoutNeeds 16 = .ok (.getfield 11, 3) := by decide +kernel
theorem dX2_failWithoutNeeds_19 : decode cX2_failWithoutNeeds 19 = .ok (.iload_n 2, 1) := by decide +kernel
theorem dX2_failWithoutNeeds_20 : decode cX2_failWithoutNeeds 20 = .ok (.aaload, 1) := by decide +kernel
theorem dX2_failWithoutNeeds_21 : decode cX2_failWithoutNeeds 21 = .ok (.astore_n 3, 1) := by decide +kernel
theorem dX2_failWithoutNeeds_22 : decode cX2_failWithoutNeeds 22 = .ok (.aload_n 3, 1) := by decide +kernel
theorem dX2_failWithoutNeeds_23 : decode cX2_failWithoutNeeds 23 = .ok (.getfield 136, 3) := by decide +kernel
theorem dX2_failWithoutNeeds_26 : decode cX2_failWithoutNeeds 26 = .ok (.ifCond .ne 22, 3) := by decide +kernel
theorem dX2_failWithoutNeeds_29 : decode cX2_failWithoutNeeds 29 = .ok (.aload_n 3, 1) := by decide +kernel
theorem dX2_failWithoutNeeds_30 : decode cX2_failWithoutNeeds 30 = .ok (.getfield 75, 3) := by decide +kernel
theorem dX2_failWithoutNeeds_33 : decode cX2_failWithoutNeeds 33 = .ok (.iload_n 1, 1) := by decide +kernel
theorem dX2_failWithoutNeeds_34 : decode cX2_failWithoutNeeds 34 = .ok (.iand, 1) := by decide +kernel
theorem dX2_failWithoutNeeds_35 : decode cX2_failWithoutNeeds 35 = .ok (.ifCond .eq 13, 3) := by decide +kernel
theorem dX2_failWithoutNeeds_38 : decode cX2_failWithoutNeeds 38 = .ok (.aload_n 3, 1) := by decide +kernel
theorem dX2_failWithoutNeeds_39 : decode cX2_failWithoutNeeds 39 = .ok (.iconst 3, 1) := by decide +kernel
theorem dX2_failWithoutNeeds_40 : decode cX2_failWithoutNeeds 40 = .ok (.putfield 136, 3) := by decide +kernel
theorem dX2_failWithoutNeeds_43 : decode cX2_failWithoutNeeds 43 = .ok (.aload_n 0, 1) := by decide +kernel
theorem dX2_failWithoutNeeds_44 : decode cX2_failWithoutNeeds 44 = .ok (.invokevirtual 205, 3) := by decide +kernel
theorem dX2_failWithoutNeeds_47 : decode cX2_failWithoutNeeds 47 = .ok (.istore_n 1, 1) := by decide +kernel
theorem dX2_failWithoutNeeds_48 : decode cX2_failWithoutNeeds 48 = .ok (.iinc 2 1, 3) := by decide +kernel
theorem dX2_failWithoutNeeds_51 : decode cX2_failWithoutNeeds 51 = .ok (.goto (-44), 3) := by decide +kernel
theorem dX2_failWithoutNeeds_54 : decode cX2_failWithoutNeeds 54 = .ok (.return_, 1) := by decide +kernel
set_option maxRecDepth 20000 in
theorem ggX2_startWaiting_X2_metNeeds : GoodIn wsX2_startWaiting wsX2_metNeeds := goodIn_r _ [12, 1, 3, 13, 14, 15, 16, 17, 18, 19, 20, 21, 22, 23, 24, 25, 26, 27, 28, 41, 42, 43, 44, 45, 46, 47, 48, 49, 50, 51, 52, 53, 54, 55, 56, 57, 58, 59, 60] (by decide +kernel) (by decide +kernel)
set_option maxRecDepth 20000 in
theorem gX2_startWaiting_X2_metNeeds : GoodIn wsX2_startWaiting (wsV RX2 208 RX2 yX2_metNeeds wsX2_metNeeds) := goodIn_app (goodIn_of _ (by decide +kernel)) ggX2_startWaiting_X2_metNeeds
set_option maxRecDepth 20000 in
theorem ggX2_startWaiting_X2_doneWishes : GoodIn wsX2_startWaiting wsX2_doneWishes := goodIn_r _ [32, 1, 3, 33, 34, 35, 16, 36, 18, 20, 21, 22, 23, 24, 25, 26, 27, 28, 41, 42, 43, 44, 45, 46, 47, 48, 49, 50, 51, 52, 53, 54, 55, 56, 57, 58, 59, 60] (by decide +kernel) (by decide +kernel)
set_option maxRecDepth 20000 in
theorem gX2_startWaiting_X2_doneWishes : GoodIn wsX2_startWaiting (wsV RX2 211 RX2 yX2_doneWishes wsX2_doneWishes) := goodIn_app (goodIn_of _ (by decide +kernel)) ggX2_startWaiting_X2_doneWishes
set_option maxRecDepth 20000 in
theorem ggX2_startWaiting_X2_countStarting : GoodIn wsX2_startWaiting wsX2_countStarting := goodIn_r _ [40, 1, 3, 4, 41, 42, 43, 44, 45, 46, 47, 48, 49, 50, 51, 52, 53, 54, 55, 56, 57, 58, 59, 60] (by decide +kernel) (by decide +kernel)
set_option maxRecDepth 20000 in
theorem gX2_startWaiting_X2_countStarting : GoodIn wsX2_startWaiting (wsV RX2 214 RX2 yX2_countStarting wsX2_countStarting) := goodIn_app (goodIn_of _ (by decide +kernel)) ggX2_startWaiting_X2_countStarting
theorem dX2_startWaiting_0 : decode cX2_startWaiting 0 = .ok (.aload_n 0, 1) := by decide +kernel
theorem dX2_startWaiting_1 : decode cX2_startWaiting 1 = .ok (.invokevirtual 208, 3) := by decide +kernel
theorem dX2_startWaiting_4 : decode cX2_startWaiting 4 = .ok (.istore_n 1, 1) := by decide +kernel
theorem dX2_startWaiting_5 : decode cX2_startWaiting 5 = .ok (.aload_n 0, 1) := by decide +kernel
theorem dX2_startWaiting_6 : decode cX2_startWaiting 6 = .ok (.invokevirtual 211, 3) := by decide +kernel
theorem dX2_startWaiting_9 : decode cX2_startWaiting 9 = .ok (.istore_n 2, 1) := by decide +kernel
theorem dX2_startWaiting_10 : decode cX2_startWaiting 10 = .ok (.aload_n 0, 1) := by decide +kernel
theorem dX2_startWaiting_11 : decode cX2_startWaiting 11 = .ok (.invokevirtual 214, 3) := by decide +kernel
theorem dX2_startWaiting_14 : decode cX2_startWaiting 14 = .ok (.istore_n 3, 1) := by decide +kernel
theorem dX2_startWaiting_15 : decode cX2_startWaiting 15 = .ok (.iconst 0, 1) := by decide +kernel
theorem dX2_startWaiting_16 : decode cX2_startWaiting 16 = .ok (.istore 4, 2) := by decide +kernel
theorem dX2_startWaiting_18 : decode cX2_startWaiting 18 = .ok (.iload 4, 2) := by decide +kernel
theorem dX2_startWaiting_20 : decode cX2_startWaiting 20 = .ok (.aload_n 0, 1) := by decide +kernel
theorem dX2_startWaiting_21 : decode cX2_startWaiting 21 = .ok (.getfield 15, 3) := by decide +kernel
theorem dX2_startWaiting_24 : decode cX2_startWaiting 24 = .ok (.if_icmp .ge 73, 3) := by decide +kernel
theorem dX2_startWaiting_27 : decode cX2_startWaiting 27 = .ok (.iload_n 3, 1) := by decide +kernel
theorem dX2_startWaiting_28 : decode cX2_startWaiting 28 = .ok (.aload_n 0, 1) := by decide +kernel
theorem dX2_startWaiting_29 : decode cX2_startWaiting 29 = .ok (.getfield 30, 3) := by decide +kernel
theorem dX2_startWaiting_32 : decode cX2_startWaiting 32 = .ok (.if_icmp .ge 65, 3) := by decide +kernel
theorem dX2_startWaiting_35 : decode cX2_startWaiting 35 = .ok (.aload_n 0, 1) := by decide +kernel
theorem dX2_startWaiting_36 : decode cX2_startWaiting 36 = .ok (.getfield 11, 3) := by decide +kernel
theorem dX2_startWaiting_39 : decode cX2_startWaiting 39 = .ok (.iload 4, 2) := by decide +kernel
theorem dX2_startWaiting_41 : decode cX2_startWaiting 41 = .ok (.aaload, 1) := by decide +kernel
theorem dX2_startWaiting_42 : decode cX2_startWaiting 42 = .ok (.astore 5, 2) := by decide +kernel
theorem dX2_startWaiting_44 : decode cX2_startWaiting 44 = .ok (.aload 5, 2) := by decide +kernel
theorem dX2_startWaiting_46 : decode cX2_startWaiting 46 = .ok (.getfield 136, 3) := by decide +kernel
theorem dX2_startWaiting_49 : decode cX2_startWaiting 49 = .ok (.ifCond .ne 42, 3) := by decide +kernel
theorem dX2_startWaiting_52 : decode cX2_startWaiting 52 = .ok (.aload 5, 2) := by decide +kernel
theorem dX2_startWaiting_54 : decode cX2_startWaiting 54 = .ok (.getfield 75, 3) := by decide +kernel
theorem dX2_startWaiting_57 : decode cX2_startWaiting 57 = .ok (.iload_n 1, 1) := by decide +kernel
theorem dX2_startWaiting_58 : decode cX2_startWaiting 58 = .ok (.iconst (-1), 1) := by decide +kernel
theorem dX2_startWaiting_59 : decode cX2_startWaiting 59 = .ok (.ixor, 1) := by decide +kernel
theorem dX2_startWaiting_60 : decode cX2_startWaiting 60 = .ok (.iand, 1) := by decide +kernel
theorem dX2_startWaiting_61 : decode cX2_startWaiting 61 = .ok (.ifCond .ne 30, 3) := by decide +kernel
theorem dX2_startWaiting_64 : decode cX2_startWaiting 64 = .ok (.aload 5, 2) := by decide +kernel
theorem dX2_startWaiting_66 : decode cX2_startWaiting 66 = .ok (.getfield 103, 3) := by decide +kernel
theorem dX2_startWaiting_69 : decode cX2_startWaiting 69 = .ok (.iload_n 2, 1) := by decide +kernel
theorem dX2_startWaiting_70 : decode cX2_startWaiting 70 = .ok (.iconst (-1), 1) := by decide +kernel
theorem dX2_startWaiting_71 : decode cX2_startWaiting 71 = .ok (.ixor, 1) := by decide +kernel
theorem dX2_startWaiting_72 : decode cX2_startWaiting 72 = .ok (.iand, 1) := by decide +kernel
theorem dX2_startWaiting_73 : decode cX2_startWaiting 73 = .ok (.ifCond .ne 18, 3) := by decide +kernel
theorem dX2_startWaiting_76 : decode cX2_startWaiting 76 = .ok (.aload 5, 2) := by decide +kernel
theorem dX2_startWaiting_78 : decode cX2_startWaiting 78 = .ok (.iconst 1, 1) := by decide +kernel
theorem dX2_startWaiting_79 : decode cX2_startWaiting 79 = .ok (.putfield 136, 3) := by decide +kernel
theorem dX2_startWaiting_82 : decode cX2_startWaiting 82 = .ok (.aload 5, 2) := by decide +kernel
theorem dX2_startWaiting_84 : decode cX2_startWaiting 84 = .ok (.iconst 0, 1) := by decide +kernel
theorem dX2_startWaiting_85 : decode cX2_startWaiting 85 = .ok (.putfield 199, 3) := by decide +kernel
theorem dX2_startWaiting_88 : decode cX2_startWaiting 88 = .ok (.iinc 3 1, 3) := by decide +kernel
theorem dX2_startWaiting_91 : decode cX2_startWaiting 91 = .ok (.iinc 4 1, 3) := by decide +kernel
theorem dX2_startWaiting_94 : decode cX2_startWaiting 94 = .ok (.goto (-76), 3) := by decide +kernel
theorem dX2_startWaiting_97 : decode cX2_startWaiting 97 = .ok (.iload_n 3, 1) := by decide +kernel
theorem dX2_startWaiting_98 : decode cX2_startWaiting 98 = .ok (.ireturn, 1) := by decide +kernel
theorem dX2_countStarting_0 : decode cX2_countStarting 0 = .ok (.iconst 0, 1) := by decide +kernel
theorem dX2_countStarting_1 : decode cX2_countStarting 1 = .ok (.istore_n 1, 1) := by decide +kernel
theorem dX2_countStarting_2 : decode cX2_countStarting 2 = .ok (.iconst 0, 1) := by decide +kernel
theorem dX2_countStarting_3 : decode cX2_countStarting 3 = .ok (.istore_n 2, 1) := by decide +kernel
theorem dX2_countStarting_4 : decode cX2_countStarting 4 = .ok (.iload_n 2, 1) := by decide +kernel
theorem dX2_countStarting_5 : decode cX2_countStarting 5 = .ok (.aload_n 0, 1) := by decide +kernel
theorem dX2_countStarting_6 : decode cX2_countStarting 6 = .ok (.getfield 15, 3) := by decide +kernel
theorem dX2_countStarting_9 : decode cX2_countStarting 9 = .ok (.if_icmp .ge 30, 3) := by decide +kernel
theorem dX2_countStarting_12 : decode cX2_countStarting 12 = .ok (.iload_n 1, 1) := by decide +kernel
theorem dX2_countStarting_13 : decode cX2_countStarting 13 = .ok (.aload_n 0, 1) := by decide +kernel
theorem dX2_countStarting_14 : decode cX2_countStarting 14 = .ok (.getfield 11, 3) := by decide +kernel
theorem dX2_countStarting_17 : decode cX2_countStarting 17 = .ok (.iload_n 2, 1) := by decide +kernel
theorem dX2_countStarting_18 : decode cX2_countStarting 18 = .ok (.aaload, 1) := by decide +kernel
theorem dX2_countStarting_19 : decode cX2_countStarting 19 = .ok (.getfield 136, 3) := by decide +kernel
theorem dX2_countStarting_22 : decode cX2_countStarting 22 = .ok (.iconst 1, 1) := by decide +kernel
theorem dX2_countStarting_23 : decode cX2_countStarting 23 = .ok (.if_icmp .ne 7, 3) := by decide +kernel
theorem dX2_countStarting_26 : decode cX2_countStarting 26 = .ok (.iconst 1, 1) := by decide +kernel
theorem dX2_countStarting_27 : decode cX2_countStarting 27 = .ok (.goto 4, 3) := by decide +kernel
theorem dX2_countStarting_30 : decode cX2_countStarting 30 = .ok (.iconst 0, 1) := by decide +kernel
theorem dX2_countStarting_31 : decode cX2_countStarting 31 = .ok (.iadd, 1) := by decide +kernel
theorem dX2_countStarting_32 : decode cX2_countStarting 32 = .ok (.istore_n 1, 1) := by decide +kernel
theorem dX2_countStarting_33 : decode cX2_countStarting 33 = .ok (.iinc 2 1, 3) := by decide +kernel
theorem dX2_countStarting_36 : decode cX2_countStarting 36 = .ok (.goto (-32), 3) := by decide +kernel
theorem dX2_countStarting_39 : decode cX2_countStarting 39 = .ok (.iload_n 1, 1) := by decide +kernel
theorem dX2_countStarting_40 : decode cX2_countStarting 40 = .ok (.ireturn, 1) := by decide +kernel
set_option maxRecDepth 20000 in
theorem ggX2_metNeeds_X0_isNeedMet : GoodIn wsX2_metNeeds wsX0_isNeedMet := goodIn_r _ [7, 8, 9, 10, 11, 12, 6, 13, 26, 27, 28, 29, 30, 31, 32, 33, 34, 35, 36, 37, 38] (by decide +kernel) (by decide +kernel)
set_option maxRecDepth 20000 in
theorem gX2_metNeeds_X0_isNeedMet : GoodIn wsX2_metNeeds (wsV RX2 180 RX0 yX0_isNeedMet wsX0_isNeedMet) := goodIn_app (goodIn_of _ (by decide +kernel)) ggX2_metNeeds_X0_isNeedMet
set_option maxRecDepth 20000 in
theorem ggX2_metNeeds_X0_bit : GoodIn wsX2_metNeeds wsX0_bit := goodIn_r _ [17, 18, 26, 27, 28, 29, 30, 31, 32, 33, 34, 35, 36, 37, 38] (by decide +kernel) (by decide +kernel)
set_option maxRecDepth 20000 in
theorem gX2_metNeeds_X0_bit : GoodIn wsX2_metNeeds (wsV RX2 82 RX0 yX0_bit wsX0_bit) := goodIn_app (goodIn_of _ (by decide +kernel)) ggX2_metNeeds_X0_bit
theorem dX2_metNeeds_0 : decode cX2_metNeeds 0 = .ok (.iconst 0, 1) := by decide +kernel
theorem dX2_metNeeds_1 : decode cX2_metNeeds 1 = .ok (.istore_n 1, 1) := by decide +kernel
theorem dX2_metNeeds_2 : decode cX2_metNeeds 2 = .ok (.iconst 0, 1) := by decide +kernel
theorem dX2_metNeeds_3 : decode cX2_metNeeds 3 = .ok (.istore_n 2, 1) := by decide +kernel
theorem dX2_metNeeds_4 : decode cX2_metNeeds 4 = .ok (.iload_n 2, 1) := by decide +kernel
theorem dX2_metNeeds_5 : decode cX2_metNeeds 5 = .ok (.aload_n 0, 1) := by decide +kernel
theorem dX2_metNeeds_6 : decode cX2_metNeeds 6 = .ok (.getfield 15, 3) := by decide +kernel
theorem dX2_metNeeds_9 : decode cX2_metNeeds 9 = .ok (.if_icmp .ge 37, 3) := by decide +kernel
theorem dX2_metNeeds_12 : decode cX2_metNeeds 12 = .ok (.iload_n 1, 1) := by decide +kernel
theorem dX2_metNeeds_13 : decode cX2_metNeeds 13 = .ok (.aload_n 0, 1) := by decide +kernel
theorem dX2_metNeeds_14 : decode cX2_metNeeds 14 = .ok (.getfield 11, 3) := by decide +kernel
theorem dX2_metNeeds_17 : decode cX2_metNeeds 17 = .ok (.iload_n 2, 1) := by decide +kernel
theorem dX2_metNeeds_18 : decode cX2_metNeeds 18 = .ok (.aaload, 1) := by decide +kernel
theorem dX2_metNeeds_19 : decode cX2_metNeeds 19 = .ok (.invokevirtual 180, 3) := by decide +kernel
theorem dX2_metNeeds_22 : decode cX2_metNeeds 22 = .ok (.ifCond .eq 15, 3) := by decide +kernel
theorem dX2_metNeeds_25 : decode cX2_metNeeds 25 = .ok (.aload_n 0, 1) := by decide +kernel
theorem dX2_metNeeds_26 : decode cX2_metNeeds 26 = .ok (.getfield 11, 3) := by decide +kernel
theorem dX2_metNeeds_29 : decode cX2_metNeeds 29 = .ok (.iload_n 2, 1) := by decide +kernel
theorem dX2_metNeeds_30 : decode cX2_metNeeds 30 = .ok (.aaload, 1) := by decide +kernel
theorem dX2_metNeeds_31 : decode cX2_metNeeds 31 = .ok (.invokevirtual 82, 3) := by decide +kernel
theorem dX2_metNeeds_34 : decode cX2_metNeeds 34 = .ok (.goto 4, 3) := by decide +kernel
theorem dX2_metNeeds_37 : decode cX2_metNeeds 37 = .ok (.iconst 0, 1) := by decide +kernel
theorem dX2_metNeeds_38 : decode cX2_metNeeds 38 = .ok (.ior, 1) := by decide +kernel
theorem dX2_metNeeds_39 : decode cX2_metNeeds 39 = .ok (.istore_n 1, 1) := by decide +kernel
theorem dX2_metNeeds_40 : decode cX2_metNeeds 40 = .ok (.iinc 2 1, 3) := by decide +kernel
theorem dX2_metNeeds_43 : decode cX2_metNeeds 43 = .ok (.goto (-39), 3) := by decide +kernel
theorem dX2_metNeeds_46 : decode cX2_metNeeds 46 = .ok (.iload_n 1, 1) := by decide +kernel
theorem dX2_metNeeds_47 : decode cX2_metNeeds 47 = .ok (.ireturn, 1) := by decide +kernel
set_option maxRecDepth 20000 in
theorem ggX2_lostNeeds_X0_isNeedLost : GoodIn wsX2_lostNeeds wsX0_isNeedLost := goodIn_r _ [7, 8, 9, 10, 11, 6, 12, 13, 26, 27, 28, 29, 30, 31, 32, 33, 34, 35, 36, 37, 38] (by decide +kernel) (by decide +kernel)
set_option maxRecDepth 20000 in
theorem gX2_lostNeeds_X0_isNeedLost : GoodIn wsX2_lostNeeds (wsV RX2 184 RX0 yX0_isNeedLost wsX0_isNeedLost) := goodIn_app (goodIn_of _ (by decide +kernel)) ggX2_lostNeeds_X0_isNeedLost
set_option maxRecDepth 20000 in
theorem ggX2_lostNeeds_X0_bit : GoodIn wsX2_lostNeeds wsX0_bit := goodIn_r _ [17, 18, 26, 27, 28, 29, 30, 31, 32, 33, 34, 35, 36, 37, 38] (by decide +kernel) (by decide +kernel)
set_option maxRecDepth 20000 in
theorem gX2_lostNeeds_X0_bit : GoodIn wsX2_lostNeeds (wsV RX2 82 RX0 yX0_bit wsX0_bit) := goodIn_app (goodIn_of _ (by decide +kernel)) ggX2_lostNeeds_X0_bit
theorem dX2_lostNeeds_0 : decode cX2_lostNeeds 0 = .ok (.iconst 0, 1) := by decide +kernel
theorem dX2_lostNeeds_1 : decode cX2_lostNeeds 1 = .ok (.istore_n 1, 1) := by decide +kernel
theorem dX2_lostNeeds_2 : decode cX2_lostNeeds 2 = .ok (.iconst 0, 1) := by decide +kernel
theorem dX2_lostNeeds_3 : decode cX2_lostNeeds 3 = .ok (.istore_n 2, 1) := by decide +kernel
theorem dX2_lostNeeds_4 : decode cX2_lostNeeds 4 = .ok (.iload_n 2, 1) := by decide +kernel
theorem dX2_lostNeeds_5 : decode cX2_lostNeeds 5 = .ok (.aload_n 0, 1) := by decide +kernel
theorem dX2_lostNeeds_6 : decode cX2_lostNeeds 6 = .ok (.getfield 15, 3) := by decide +kernel
theorem dX2_lostNeeds_9 : decode cX2_lostNeeds 9 = .ok (.if_icmp .ge 37, 3) := by decide +kernel
theorem dX2_lostNeeds_12 : decode cX2_lostNeeds 12 = .ok (.iload_n 1, 1) := by decide +kernel
theorem dX2_lostNeeds_13 : decode cX2_lostNeeds 13 = .ok (.aload_n 0, 1) := by decide +kernel
theorem dX2_lostNeeds_14 : decode cX2_lostNeeds 14 = .ok (.getfield 11, 3) := by decide +kernel
theorem dX2_lostNeeds_17 : decode cX2_lostNeeds 17 = .ok (.iload_n 2, 1) := by decide +kernel
theorem dX2_lostNeeds_18 : decode cX2_lostNeeds 18 = .ok (.aaload, 1) := by decide +kernel
theorem dX2_lostNeeds_19 : decode cX2_lostNeeds 19 = .ok (.invokevirtual 184, 3) := by decide +kernel
theorem dX2_lostNeeds_22 : decode cX2_lostNeeds 22 = .ok (.ifCond .eq 15, 3) := by decide +kernel
theorem dX2_lostNeeds_25 : decode cX2_lostNeeds 25 = .ok (.aload_n 0, 1) := by decide +kernel
theorem dX2_lostNeeds_26 : decode cX2_lostNeeds 26 = .ok (.getfield 11, 3) := by decide +kernel
theorem dX2_lostNeeds_29 : decode cX2_lostNeeds 29 = .ok (.iload_n 2, 1) := by decide +kernel
theorem dX2_lostNeeds_30 : decode cX2_lostNeeds 30 = .ok (.aaload, 1) := by decide +kernel
theorem dX2_lostNeeds_31 : decode cX2_lostNeeds 31 = .ok (.invokevirtual 82, 3) := by decide +kernel
theorem dX2_lostNeeds_34 : decode cX2_lostNeeds 34 = .ok (.goto 4, 3) := by decide +kernel
theorem dX2_lostNeeds_37 : decode cX2_lostNeeds 37 = .ok (.iconst 0, 1) := by decide +kernel
theorem dX2_lostNeeds_38 : decode cX2_lostNeeds 38 = .ok (.ior, 1) := by decide +kernel
theorem dX2_lostNeeds_39 : decode cX2_lostNeeds 39 = .ok (.istore_n 1, 1) := by decide +kernel
theorem dX2_lostNeeds_40 : decode cX2_lostNeeds 40 = .ok (.iinc 2 1, 3) := by decide +kernel
theorem dX2_lostNeeds_43 : decode cX2_lostNeeds 43 = .ok (.goto (-39), 3) := by decide +kernel
theorem dX2_lostNeeds_46 : decode cX2_lostNeeds 46 = .ok (.iload_n 1, 1) := by decide +kernel
theorem dX2_lostNeeds_47 : decode cX2_lostNeeds 47 = .ok (.ireturn, 1) := by decide +kernel
set_option maxRecDepth 20000 in
theorem ggX2_doneWishes_X0_isWishDone : GoodIn wsX2_doneWishes wsX0_isWishDone := goodIn_r _ [7, 8, 9, 10, 11, 6, 12, 25, 26, 27, 28, 29, 30, 31, 32, 33, 34, 35, 36, 37] (by decide +kernel) (by decide +kernel)
set_option maxRecDepth 20000 in
theorem gX2_doneWishes_X0_isWishDone : GoodIn wsX2_doneWishes (wsV RX2 187 RX0 yX0_isWishDone wsX0_isWishDone) := goodIn_app (goodIn_of _ (by decide +kernel)) ggX2_doneWishes_X0_isWishDone
set_option maxRecDepth 20000 in
theorem ggX2_doneWishes_X0_bit : GoodIn wsX2_doneWishes wsX0_bit := goodIn_r _ [16, 17, 25, 26, 27, 28, 29, 30, 31, 32, 33, 34, 35, 36, 37] (by decide +kernel) (by decide +kernel)
set_option maxRecDepth 20000 in
theorem gX2_doneWishes_X0_bit : GoodIn wsX2_doneWishes (wsV RX2 82 RX0 yX0_bit wsX0_bit) := goodIn_app (goodIn_of _ (by decide +kernel)) ggX2_doneWishes_X0_bit
theorem dX2_doneWishes_0 : decode cX2_doneWishes 0 = .ok (.iconst 0, 1) := by decide +kernel
theorem dX2_doneWishes_1 : decode cX2_doneWishes 1 = .ok (.istore_n 1, 1) := by decide +kernel
theorem dX2_doneWishes_2 : decode cX2_doneWishes 2 = .ok (.iconst 0, 1) := by decide +kernel
theorem dX2_doneWishes_3 : decode cX2_doneWishes 3 = .ok (.istore_n 2, 1) := by decide +kernel
theorem dX2_doneWishes_4 : decode cX2_doneWishes 4 = .ok (.iload_n 2, 1) := by decide +kernel
theorem dX2_doneWishes_5 : decode cX2_doneWishes 5 = .ok (.aload_n 0, 1) := by decide +kernel
theorem dX2_doneWishes_6 : decode cX2_doneWishes 6 = .ok (.getfield 15, 3) := by decide +kernel
theorem dX2_doneWishes_9 : decode cX2_doneWishes 9 = .ok (.if_icmp .ge 37, 3) := by decide +kernel
theorem dX2_doneWishes_12 : decode cX2_doneWishes 12 = .ok (.iload_n 1, 1) := by decide +kernel
theorem dX2_doneWishes_13 : decode cX2_doneWishes 13 = .ok (.aload_n 0, 1) := by decide +kernel
theorem dX2_doneWishes_14 : decode cX2_doneWishes 14 = .ok (.getfield 11, 3) := by decide +kernel
theorem dX2_doneWishes_17 : decode cX2_doneWishes 17 = .ok (.iload_n 2, 1) := by decide +kernel
theorem dX2_doneWishes_18 : decode cX2_doneWishes 18 = .ok (.aaload, 1) := by decide +kernel
theorem dX2_doneWishes_19 : decode cX2_doneWishes 19 = .ok (.invokevirtual 187, 3) := by decide +kernel
theorem dX2_doneWishes_22 : decode cX2_doneWishes 22 = .ok (.ifCond .eq 15, 3) := by decide +kernel
theorem dX2_doneWishes_25 : decode cX2_doneWishes 25 = .ok (.aload_n 0, 1) := by decide +kernel
theorem dX2_doneWishes_26 : decode cX2_doneWishes 26 = .ok (.getfield 11, 3) := by decide +kernel
theorem dX2_doneWishes_29 : decode cX2_doneWishes 29 = .ok (.iload_n 2, 1) := by decide +kernel
theorem dX2_doneWishes_30 : decode cX2_doneWishes 30 = .ok (.aaload, 1) := by decide +kernel
theorem dX2_doneWishes_31 : decode cX2_doneWishes 31 = .ok (.invokevirtual 82, 3) := by decide +kernel
theorem dX2_doneWishes_34 : decode cX2_doneWishes 34 = .ok (.goto 4, 3) := by decide +kernel
theorem dX2_doneWishes_37 : decode cX2_doneWishes 37 = .ok (.iconst 0, 1) := by decide +kernel
theorem dX2_doneWishes_38 : decode cX2_doneWishes 38 = .ok (.ior, 1) := by decide +kernel
theorem dX2_doneWishes_39 : decode cX2_doneWishes 39 = .ok (.istore_n 1, 1) := by decide +kernel
theorem dX2_doneWishes_40 : decode cX2_doneWishes 40 = .ok (.iinc 2 1, 3) := by decide +kernel
theorem dX2_doneWishes_43 : decode cX2_doneWishes 43 = .ok (.goto (-39), 3) := by decide +kernel
theorem dX2_doneWishes_46 : decode cX2_doneWishes 46 = .ok (.iload_n 1, 1) := by decide +kernel
theorem dX2_doneWishes_47 : decode cX2_doneWishes 47 = .ok (.ireturn, 1) := by decide +kernel
set_option maxRecDepth 20000 in
theorem ggX2_raiseBar_X2_timeDone : GoodIn wsX2_raiseBar wsX2_timeDone := goodIn_r _ [12, 13, 14, 15, 16, 17, 18, 19, 20, 21, 22, 23, 24, 6, 25, 26, 27, 28, 29, 30, 31, 32, 33, 34, 35, 36, 37, 38, 39, 40, 41, 42, 43, 44, 45] (by decide +kernel) (by decide +kernel)
set_option maxRecDepth 20000 in
theorem gX2_raiseBar_X2_timeDone : GoodIn wsX2_raiseBar (wsV RX2 217 RX2 yX2_timeDone wsX2_timeDone) := goodIn_app (goodIn_of _ (by decide +kernel)) ggX2_raiseBar_X2_timeDone
theorem dX2_raiseBar_0 : decode cX2_raiseBar 0 = .ok (.sipush 1000, 3) := by decide +kernel
theorem dX2_raiseBar_3 : decode cX2_raiseBar 3 = .ok (.istore_n 1, 1) := by decide +kernel
theorem dX2_raiseBar_4 : decode cX2_raiseBar 4 = .ok (.aload_n 0, 1) := by decide +kernel
theorem dX2_raiseBar_5 : decode cX2_raiseBar 5 = .ok (.getfield 26, 3) := by decide +kernel
theorem dX2_raiseBar_8 : decode cX2_raiseBar 8 = .ok (.ifCond .eq 24, 3) := by decide +kernel
theorem dX2_raiseBar_11 : decode cX2_raiseBar 11 = .ok (.aload_n 0, 1) := by decide +kernel
theorem dX2_raiseBar_12 : decode cX2_raiseBar 12 = .ok (.getfield 33, 3) := by decide +kernel
theorem dX2_raiseBar_15 : decode cX2_raiseBar 15 = .ok (.ifCond .le 17, 3) := by decide +kernel
theorem dX2_raiseBar_18 : decode cX2_raiseBar 18 = .ok (.sipush 1000, 3) := by decide +kernel
theorem dX2_raiseBar_21 : decode cX2_raiseBar 21 = .ok (.aload_n 0, 1) := by decide +kernel
theorem dX2_raiseBar_22 : decode cX2_raiseBar 22 = .ok (.invokevirtual 217, 3) := by decide +kernel
theorem dX2_raiseBar_25 : decode cX2_raiseBar 25 = .ok (.imul, 1) := by decide +kernel
theorem dX2_raiseBar_26 : decode cX2_raiseBar 26 = .ok (.aload_n 0, 1) := by decide +kernel
theorem dX2_raiseBar_27 : decode cX2_raiseBar 27 = .ok (.getfield 33, 3) := by decide +kernel
theorem dX2_raiseBar_30 : decode cX2_raiseBar 30 = .ok (.idiv, 1) := by decide +kernel
theorem dX2_raiseBar_31 : decode cX2_raiseBar 31 = .ok (.istore_n 1, 1) := by decide +kernel
theorem dX2_raiseBar_32 : decode cX2_raiseBar 32 = .ok (.aload_n 0, 1) := by decide +kernel
theorem dX2_raiseBar_33 : decode cX2_raiseBar 33 = .ok (.aload_n 0, 1) := by decide +kernel
theorem dX2_raiseBar_34 : decode cX2_raiseBar 34 = .ok (.getfield 36, 3) := by decide +kernel
theorem dX2_raiseBar_37 : decode cX2_raiseBar 37 = .ok (.iload_n 1, 1) := by decide +kernel
theorem dX2_raiseBar_38 : decode cX2_raiseBar 38 = .ok (.invokestatic 220, 3) := by decide +kernel
theorem dX2_raiseBar_41 : decode cX2_raiseBar 41 = .ok (.putfield 36, 3) := by decide +kernel
theorem dX2_raiseBar_44 : decode cX2_raiseBar 44 = .ok (.return_, 1) := by decide +kernel
set_option maxRecDepth 20000 in
theorem ggX2_timeDone_X0_timeDone : GoodIn wsX2_timeDone wsX0_timeDone := goodIn_r _ [7, 8, 9, 10, 11, 12, 13, 14, 22, 23, 24, 25, 26, 27, 28, 29, 30, 31, 32, 33, 34] (by decide +kernel) (by decide +kernel)
set_option maxRecDepth 20000 in
theorem gX2_timeDone_X0_timeDone : GoodIn wsX2_timeDone (wsV RX2 226 RX0 yX0_timeDone wsX0_timeDone) := goodIn_app (goodIn_of _ (by decide +kernel)) ggX2_timeDone_X0_timeDone
theorem dX2_timeDone_0 : decode cX2_timeDone 0 = .ok (.iconst 0, 1) := by decide +kernel
theorem dX2_timeDone_1 : decode cX2_timeDone 1 = .ok (.istore_n 1, 1) := by decide +kernel
theorem dX2_timeDone_2 : decode cX2_timeDone 2 = .ok (.iconst 0, 1) := by decide +kernel
theorem dX2_timeDone_3 : decode cX2_timeDone 3 = .ok (.istore_n 2, 1) := by decide +kernel
theorem dX2_timeDone_4 : decode cX2_timeDone 4 = .ok (.iload_n 2, 1) := by decide +kernel
theorem dX2_timeDone_5 : decode cX2_timeDone 5 = .ok (.aload_n 0, 1) := by decide +kernel
theorem dX2_timeDone_6 : decode cX2_timeDone 6 = .ok (.getfield 15, 3) := by decide +kernel
theorem dX2_timeDone_9 : decode cX2_timeDone 9 = .ok (.if_icmp .ge 21, 3) := by decide +kernel
theorem dX2_timeDone_12 : decode cX2_timeDone 12 = .ok (.iload_n 1, 1) := by decide +kernel
theorem dX2_timeDone_13 : decode cX2_timeDone 13 = .ok (.aload_n 0, 1) := by decide +kernel
theorem dX2_timeDone_14 : decode cX2_timeDone 14 = .ok (.getfield 11, 3) := by decide +kernel
theorem dX2_timeDone_17 : decode cX2_timeDone 17 = .ok (.iload_n 2, 1) := by decide +kernel
theorem dX2_timeDone_18 : decode cX2_timeDone 18 = .ok (.aaload, 1) := by decide +kernel
theorem dX2_timeDone_19 : decode cX2_timeDone 19 = .ok (.invokevirtual 226, 3) := by decide +kernel
theorem dX2_timeDone_22 : decode cX2_timeDone 22 = .ok (.iadd, 1) := by decide +kernel
theorem dX2_timeDone_23 : decode cX2_timeDone 23 = .ok (.istore_n 1, 1) := by decide +kernel
theorem dX2_timeDone_24 : decode cX2_timeDone 24 = .ok (.iinc 2 1, 3) := by decide +kernel
theorem dX2_timeDone_27 : decode cX2_timeDone 27 = .ok (.goto (-23), 3) := by decide +kernel
theorem dX2_timeDone_30 : decode cX2_timeDone 30 = .ok (.iload_n 1, 1) := by decide +kernel
theorem dX2_timeDone_31 : decode cX2_timeDone 31 = .ok (.ireturn, 1) := by decide +kernel
set_option maxRecDepth 20000 in
theorem ggX2_ableAlone_X0_bit : GoodIn wsX2_ableAlone wsX0_bit := goodIn_r _ [10, 11, 19, 20, 21, 22, 23, 24, 25, 26, 27, 28, 29, 30, 31] (by decide +kernel) (by decide +kernel)
set_option maxRecDepth 20000 in
theorem gX2_ableAlone_X0_bit : GoodIn wsX2_ableAlone (wsV RX2 82 RX0 yX0_bit wsX0_bit) := goodIn_app (goodIn_of _ (by decide +kernel)) ggX2_ableAlone_X0_bit
theorem dX2_ableAlone_0 : decode cX2_ableAlone 0 = .ok (.iconst 0, 1) := by decide +kernel
theorem dX2_ableAlone_1 : decode cX2_ableAlone 1 = .ok (.istore_n 1, 1) := by decide +kernel
theorem dX2_ableAlone_2 : decode cX2_ableAlone 2 = .ok (.iconst 0, 1) := by decide +kernel
theorem dX2_ableAlone_3 : decode cX2_ableAlone 3 = .ok (.istore_n 2, 1) := by decide +kernel
theorem dX2_ableAlone_4 : decode cX2_ableAlone 4 = .ok (.iload_n 2, 1) := by decide +kernel
theorem dX2_ableAlone_5 : decode cX2_ableAlone 5 = .ok (.aload_n 0, 1) := by decide +kernel
theorem dX2_ableAlone_6 : decode cX2_ableAlone 6 = .ok (.getfield 15, 3) := by decide +kernel
theorem dX2_ableAlone_9 : decode cX2_ableAlone 9 = .ok (.if_icmp .ge 45, 3) := by decide +kernel
theorem dX2_ableAlone_12 : decode cX2_ableAlone 12 = .ok (.aload_n 0, 1) := by decide +kernel
theorem dX2_ableAlone_13 : decode cX2_ableAlone 13 = .ok (.getfield 11, 3) := by decide +kernel
theorem dX2_ableAlone_16 : decode cX2_ableAlone 16 = .ok (.iload_n 2, 1) := by decide +kernel
theorem dX2_ableAlone_17 : decode cX2_ableAlone 17 = .ok (.aaload, 1) := by decide +kernel
theorem dX2_ableAlone_18 : decode cX2_ableAlone 18 = .ok (.astore_n 3, 1) := by decide +kernel
theorem dX2_ableAlone_19 : decode cX2_ableAlone 19 = .ok (.iload_n 1, 1) := by decide +kernel
theorem dX2_ableAlone_20 : decode cX2_ableAlone 20 = .ok (.aload_n 3, 1) := by decide +kernel
theorem dX2_ableAlone_21 : decode cX2_ableAlone 21 = .ok (.getfield 113, 3) := by decide +kernel
theorem dX2_ableAlone_24 : decode cX2_ableAlone 24 = .ok (.ifCond .ne 21, 3) := by decide +kernel
theorem dX2_ableAlone_27 : decode cX2_ableAlone 27 = .ok (.aload_n 3, 1) := by decide +kernel
theorem dX2_ableAlone_28 : decode cX2_ableAlone 28 = .ok (.getfield 116, 3) := by decide +kernel
theorem dX2_ableAlone_31 : decode cX2_ableAlone 31 = .ok (.aload_n 3, 1) := by decide +kernel
theorem dX2_ableAlone_32 : decode cX2_ableAlone 32 = .ok (.getfield 59, 3) := by decide +kernel
theorem dX2_ableAlone_35 : decode cX2_ableAlone 35 = .ok (.if_icmp .gt 10, 3) := by decide +kernel
theorem dX2_ableAlone_38 : decode cX2_ableAlone 38 = .ok (.aload_n 3, 1) := by decide +kernel
theorem dX2_ableAlone_39 : decode cX2_ableAlone 39 = .ok (.invokevirtual 82, 3) := by decide +kernel
theorem dX2_ableAlone_42 : decode cX2_ableAlone 42 = .ok (.goto 4, 3) := by decide +kernel
theorem dX2_ableAlone_45 : decode cX2_ableAlone 45 = .ok (.iconst 0, 1) := by decide +kernel
theorem dX2_ableAlone_46 : decode cX2_ableAlone 46 = .ok (.ior, 1) := by decide +kernel
theorem dX2_ableAlone_47 : decode cX2_ableAlone 47 = .ok (.istore_n 1, 1) := by decide +kernel
theorem dX2_ableAlone_48 : decode cX2_ableAlone 48 = .ok (.iinc 2 1, 3) := by decide +kernel
theorem dX2_ableAlone_51 : decode cX2_ableAlone 51 = .ok (.goto (-47), 3) := by decide +kernel
theorem dX2_ableAlone_54 : decode cX2_ableAlone 54 = .ok (.iload_n 1, 1) := by decide +kernel
theorem dX2_ableAlone_55 : decode cX2_ableAlone 55 = .ok (.ireturn, 1) := by decide +kernel
set_option maxRecDepth 20000 in
theorem ggX2_keepSupplied_X2_contains : GoodIn wsX2_keepSupplied wsX2_contains := goodIn_r _ [9, 10, 11, 12, 13, 14, 15, 23, 24, 25, 26, 27, 28, 29, 30, 31, 32, 33, 34, 35] (by decide +kernel) (by decide +kernel)
set_option maxRecDepth 20000 in
theorem gX2_keepSupplied_X2_contains : GoodIn wsX2_keepSupplied (wsV RX2 78 RX2 yX2_contains wsX2_contains) := goodIn_app (goodIn_of _ (by decide +kernel)) ggX2_keepSupplied_X2_contains
set_option maxRecDepth 20000 in
theorem ggX2_keepSupplied_X0_bit : GoodIn wsX2_keepSupplied wsX0_bit := goodIn_r _ [14, 15, 23, 24, 25, 26, 27, 28, 29, 30, 31, 32, 33, 34, 35] (by decide +kernel) (by decide +kernel)
set_option maxRecDepth 20000 in
theorem gX2_keepSupplied_X0_bit : GoodIn wsX2_keepSupplied (wsV RX2 82 RX0 yX0_bit wsX0_bit) := goodIn_app (goodIn_of _ (by decide +kernel)) ggX2_keepSupplied_X0_bit
theorem dX2_keepSupplied_0 : decode cX2_keepSupplied 0 = .ok (.iload_n 1, 1) := by decide +kernel
theorem dX2_keepSupplied_1 : decode cX2_keepSupplied 1 = .ok (.istore_n 2, 1) := by decide +kernel
theorem dX2_keepSupplied_2 : decode cX2_keepSupplied 2 = .ok (.iconst 0, 1) := by decide +kernel
theorem dX2_keepSupplied_3 : decode cX2_keepSupplied 3 = .ok (.istore_n 3, 1) := by decide +kernel
theorem dX2_keepSupplied_4 : decode cX2_keepSupplied 4 = .ok (.iload_n 3, 1) := by decide +kernel
theorem dX2_keepSupplied_5 : decode cX2_keepSupplied 5 = .ok (.aload_n 0, 1) := by decide +kernel
theorem dX2_keepSupplied_6 : decode cX2_keepSupplied 6 = .ok (.getfield 15, 3) := by decide +kernel
theorem dX2_keepSupplied_9 : decode cX2_keepSupplied 9 = .ok (.if_icmp .ge 51, 3) := by decide +kernel
theorem dX2_keepSupplied_12 : decode cX2_keepSupplied 12 = .ok (.aload_n 0, 1) := by decide +kernel
theorem dX2_keepSupplied_13 : decode cX2_keepSupplied 13 = .ok (.getfield 11, 3) := by decide +kernel
theorem dX2_keepSupplied_16 : decode cX2_keepSupplied 16 = .ok (.iload_n 3, 1) := by decide +kernel
theorem dX2_keepSupplied_17 : decode cX2_keepSupplied 17 = .ok (.aaload, 1) := by decide +kernel
theorem dX2_keepSupplied_18 : decode cX2_keepSupplied 18 = .ok (.getfield 109, 3) := by decide +kernel
theorem dX2_keepSupplied_21 : decode cX2_keepSupplied 21 = .ok (.astore 4, 2) := by decide +kernel
theorem dX2_keepSupplied_23 : decode cX2_keepSupplied 23 = .ok (.iload_n 2, 1) := by decide +kernel
theorem dX2_keepSupplied_24 : decode cX2_keepSupplied 24 = .ok (.aload 4, 2) := by decide +kernel
theorem dX2_keepSupplied_26 : decode cX2_keepSupplied 26 = .ok (.ifnull 25, 3) := by decide +kernel
theorem dX2_keepSupplied_29 : decode cX2_keepSupplied 29 = .ok (.aload_n 0, 1) := by decide +kernel
theorem dX2_keepSupplied_30 : decode cX2_keepSupplied 30 = .ok (.iload_n 1, 1) := by decide +kernel
theorem dX2_keepSupplied_31 : decode cX2_keepSupplied 31 = .ok (.aload 4, 2) := by decide +kernel
theorem dX2_keepSupplied_33 : decode cX2_keepSupplied 33 = .ok (.invokevirtual 78, 3) := by decide +kernel
theorem dX2_keepSupplied_36 : decode cX2_keepSupplied 36 = .ok (.ifCond .eq 15, 3) := by decide +kernel
theorem dX2_keepSupplied_39 : decode cX2_keepSupplied 39 = .ok (.aload_n 0, 1) := by decide +kernel
theorem dX2_keepSupplied_40 : decode cX2_keepSupplied 40 = .ok (.getfield 11, 3) := by decide +kernel
theorem dX2_keepSupplied_43 : decode cX2_keepSupplied 43 = .ok (.iload_n 3, 1) := by decide +kernel
theorem dX2_keepSupplied_44 : decode cX2_keepSupplied 44 = .ok (.aaload, 1) := by decide +kernel
theorem dX2_keepSupplied_45 : decode cX2_keepSupplied 45 = .ok (.invokevirtual 82, 3) := by decide +kernel
theorem dX2_keepSupplied_48 : decode cX2_keepSupplied 48 = .ok (.goto 4, 3) := by decide +kernel
theorem dX2_keepSupplied_51 : decode cX2_keepSupplied 51 = .ok (.iconst 0, 1) := by decide +kernel
theorem dX2_keepSupplied_52 : decode cX2_keepSupplied 52 = .ok (.ior, 1) := by decide +kernel
theorem dX2_keepSupplied_53 : decode cX2_keepSupplied 53 = .ok (.istore_n 2, 1) := by decide +kernel
theorem dX2_keepSupplied_54 : decode cX2_keepSupplied 54 = .ok (.iinc 3 1, 3) := by decide +kernel
theorem dX2_keepSupplied_57 : decode cX2_keepSupplied 57 = .ok (.goto (-53), 3) := by decide +kernel
theorem dX2_keepSupplied_60 : decode cX2_keepSupplied 60 = .ok (.iconst 0, 1) := by decide +kernel
theorem dX2_keepSupplied_61 : decode cX2_keepSupplied 61 = .ok (.istore_n 3, 1) := by decide +kernel
theorem dX2_keepSupplied_62 : decode cX2_keepSupplied 62 = .ok (.iconst 0, 1) := by decide +kernel
theorem dX2_keepSupplied_63 : decode cX2_keepSupplied 63 = .ok (.istore 4, 2) := by decide +kernel
theorem dX2_keepSupplied_65 : decode cX2_keepSupplied 65 = .ok (.iload 4, 2) := by decide +kernel
theorem dX2_keepSupplied_67 : decode cX2_keepSupplied 67 = .ok (.aload_n 0, 1) := by decide +kernel
theorem dX2_keepSupplied_68 : decode cX2_keepSupplied 68 = .ok (.getfield 15, 3) := by decide +kernel
theorem dX2_keepSupplied_71 : decode cX2_keepSupplied 71 = .ok (.if_icmp .ge 70, 3) := by decide +kernel
theorem dX2_keepSupplied_74 : decode cX2_keepSupplied 74 = .ok (.aload_n 0, 1) := by decide +kernel
theorem dX2_keepSupplied_75 : decode cX2_keepSupplied 75 = .ok (.iload_n 1, 1) := by decide +kernel
theorem dX2_keepSupplied_76 : decode cX2_keepSupplied 76 = .ok (.aload_n 0, 1) := by decide +kernel
theorem dX2_keepSupplied_77 : decode cX2_keepSupplied 77 = .ok (.getfield 11, 3) := by decide +kernel
theorem dX2_keepSupplied_80 : decode cX2_keepSupplied 80 = .ok (.iload 4, 2) := by decide +kernel
theorem dX2_keepSupplied_82 : decode cX2_keepSupplied 82 = .ok (.aaload, 1) := by decide +kernel
theorem dX2_keepSupplied_83 : decode cX2_keepSupplied 83 = .ok (.invokevirtual 78, 3) := by decide +kernel
theorem dX2_keepSupplied_86 : decode cX2_keepSupplied 86 = .ok (.ifCond .eq 24, 3) := by decide +kernel
theorem dX2_keepSupplied_89 : decode cX2_keepSupplied 89 = .ok (.aload_n 0, 1) := by decide +kernel
theorem dX2_keepSupplied_90 : decode cX2_keepSupplied 90 = .ok (.getfield 11, 3) := by decide +kernel
theorem dX2_keepSupplied_93 : decode cX2_keepSupplied 93 = .ok (.iload 4, 2) := by decide +kernel
theorem dX2_keepSupplied_95 : decode cX2_keepSupplied 95 = .ok (.aaload, 1) := by decide +kernel
theorem dX2_keepSupplied_96 : decode cX2_keepSupplied 96 = .ok (.getfield 75, 3) := by decide +kernel
theorem dX2_keepSupplied_99 : decode cX2_keepSupplied 99 = .ok (.iload_n 2, 1) := by decide +kernel
theorem dX2_keepSupplied_100 : decode cX2_keepSupplied 100 = .ok (.iconst (-1), 1) := by decide +kernel
theorem dX2_keepSupplied_101 : decode cX2_keepSupplied 101 = .ok (.ixor, 1) := by decide +kernel
theorem dX2_keepSupplied_102 : decode cX2_keepSupplied 102 = .ok (.iand, 1) := by decide +kernel
theorem dX2_keepSupplied_103 : decode cX2_keepSupplied 103 = .ok (.ifCond .ne 7, 3) := by decide +kernel
theorem dX2_keepSupplied_106 : decode cX2_keepSupplied 106 = .ok (.iconst 1, 1) := by decide +kernel
theorem dX2_keepSupplied_107 : decode cX2_keepSupplied 107 = .ok (.goto 4, 3) := by decide +kernel
theorem dX2_keepSupplied_110 : decode cX2_keepSupplied 110 = .ok (.iconst 0, 1) := by decide +kernel
theorem dX2_keepSupplied_111 : decode cX2_keepSupplied 111 = .ok (.istore 5, 2) := by decide +kernel
theorem dX2_keepSupplied_113 : decode cX2_keepSupplied 113 = .ok (.iload_n 3, 1) := by decide +kernel
theorem dX2_keepSupplied_114 : decode cX2_keepSupplied 114 = .ok (.iload 5, 2) := by decide +kernel
theorem dX2_keepSupplied_116 : decode cX2_keepSupplied 116 = .ok (.ifCond .eq 16, 3) := by decide +kernel
theorem dX2_keepSupplied_119 : decode cX2_keepSupplied 119 = .ok (.aload_n 0, 1) := by decide +kernel
theorem dX2_keepSupplied_120 : decode cX2_keepSupplied 120 = .ok (.getfield 11, 3) := by decide +kernel
theorem dX2_keepSupplied_123 : decode cX2_keepSupplied 123 = .ok (.iload 4, 2) := by decide +kernel
theorem dX2_keepSupplied_125 : decode cX2_keepSupplied 125 = .ok (.aaload, 1) := by decide +kernel
theorem dX2_keepSupplied_126 : decode cX2_keepSupplied 126 = .ok (.invokevirtual 82, 3) := by decide +kernel
theorem dX2_keepSupplied_129 : decode cX2_keepSupplied 129 = .ok (.goto 4, 3) := by decide +kernel
theorem dX2_keepSupplied_132 : decode cX2_keepSupplied 132 = .ok (.iconst 0, 1) := by decide +kernel
theorem dX2_keepSupplied_133 : decode cX2_keepSupplied 133 = .ok (.ior, 1) := by decide +kernel
theorem dX2_keepSupplied_134 : decode cX2_keepSupplied 134 = .ok (.istore_n 3, 1) := by decide +kernel
theorem dX2_keepSupplied_135 : decode cX2_keepSupplied 135 = .ok (.iinc 4 1, 3) := by decide +kernel
theorem dX2_keepSupplied_138 : decode cX2_keepSupplied 138 = .ok (.goto (-73), 3) := by decide +kernel
theorem dX2_keepSupplied_141 : decode cX2_keepSupplied 141 = .ok (.iload_n 3, 1) := by decide +kernel
theorem dX2_keepSupplied_142 : decode cX2_keepSupplied 142 = .ok (.ireturn, 1) := by decide +kernel
end
section
theorem dX3_init_0 : decode cX3_init 0 = .ok (.aload_n 0, 1) := by decide +kernel
theorem dX3_init_1 : decode cX3_init 1 = .ok (.invokespecial 1, 3) := by decide +kernel
theorem dX3_init_4 : decode cX3_init 4 = .ok (.aload_n 0, 1) := by decide +kernel
theorem dX3_init_5 : decode cX3_init 5 = .ok (.bipush 20, 2) := by decide +kernel
theorem dX3_init_7 : decode cX3_init 7 = .ok (.newarray .int, 2) := by decide +kernel
theorem dX3_init_9 : decode cX3_init 9 = .ok (.putfield 7, 3) := by decide +kernel
theorem dX3_init_12 : decode cX3_init 12 = .ok (.aload_n 0, 1) := by decide +kernel
theorem dX3_init_13 : decode cX3_init 13 = .ok (.bipush 20, 2) := by decide +kernel
theorem dX3_init_15 : decode cX3_init 15 = .ok (.newarray .int, 2) := by decide +kernel
theorem dX3_init_17 : decode cX3_init 17 = .ok (.putfield 13, 3) := by decide +kernel
theorem dX3_init_20 : decode cX3_init 20 = .ok (.aload_n 0, 1) := by decide +kernel
theorem dX3_init_21 : decode cX3_init 21 = .ok (.bipush 20, 2) := by decide +kernel
theorem dX3_init_23 : decode cX3_init 23 = .ok (.newarray .int, 2) := by decide +kernel
theorem dX3_init_25 : decode cX3_init 25 = .ok (.putfield 16, 3) := by decide +kernel
theorem dX3_init_28 : decode cX3_init 28 = .ok (.aload_n 0, 1) := by decide +kernel
theorem dX3_init_29 : decode cX3_init 29 = .ok (.bipush 20, 2) := by decide +kernel
theorem dX3_init_31 : decode cX3_init 31 = .ok (.newarray .int, 2) := by decide +kernel
theorem dX3_init_33 : decode cX3_init 33 = .ok (.putfield 19, 3) := by decide +kernel
theorem dX3_init_36 : decode cX3_init 36 = .ok (.aload_n 0, 1) := by decide +kernel
theorem dX3_init_37 : decode cX3_init 37 = .ok (.bipush 20, 2) := by decide +kernel
theorem dX3_init_39 : decode cX3_init 39 = .ok (.newarray .int, 2) := by decide +kernel
theorem dX3_init_41 : decode cX3_init 41 = .ok (.putfield 22, 3) := by decide +kernel
theorem dX3_init_44 : decode cX3_init 44 = .ok (.aload_n 0, 1) := by decide +kernel
theorem dX3_init_45 : decode cX3_init 45 = .ok (.bipush 20, 2) := by decide +kernel
theorem dX3_init_47 : decode cX3_init 47 = .ok (.newarray .boolean, 2) := by decide +kernel
theorem dX3_init_49 : decode cX3_init 49 = .ok (.putfield 25, 3) := by decide +kernel
theorem dX3_init_52 : decode cX3_init 52 = .ok (.aload_n 0, 1) := by decide +kernel
theorem dX3_init_53 : decode cX3_init 53 = .ok (.sipush 400, 3) := by decide +kernel
theorem dX3_init_56 : decode cX3_init 56 = .ok (.newarray .boolean, 2) := by decide +kernel
theorem dX3_init_58 : decode cX3_init 58 = .ok (.putfield 29, 3) := by decide +kernel
theorem dX3_init_61 : decode cX3_init 61 = .ok (.aload_n 0, 1) := by decide +kernel
theorem dX3_init_62 : decode cX3_init 62 = .ok (.sipush 400, 3) := by decide +kernel
theorem dX3_init_65 : decode cX3_init 65 = .ok (.newarray .int, 2) := by decide +kernel
theorem dX3_init_67 : decode cX3_init 67 = .ok (.putfield 32, 3) := by decide +kernel
theorem dX3_init_70 : decode cX3_init 70 = .ok (.aload_n 0, 1) := by decide +kernel
theorem dX3_init_71 : decode cX3_init 71 = .ok (.sipush 400, 3) := by decide +kernel
theorem dX3_init_74 : decode cX3_init 74 = .ok (.newarray .int, 2) := by decide +kernel
theorem dX3_init_76 : decode cX3_init 76 = .ok (.putfield 35, 3) := by decide +kernel
theorem dX3_init_79 : decode cX3_init 79 = .ok (.aload_n 0, 1) := by decide +kernel
theorem dX3_init_80 : decode cX3_init 80 = .ok (.sipush 400, 3) := by decide +kernel
theorem dX3_init_83 : decode cX3_init 83 = .ok (.newarray .boolean, 2) := by decide +kernel
theorem dX3_init_85 : decode cX3_init 85 = .ok (.putfield 38, 3) := by decide +kernel
theorem dX3_init_88 : decode cX3_init 88 = .ok (.aload_n 0, 1) := by decide +kernel
theorem dX3_init_89 : decode cX3_init 89 = .ok (.bipush 20, 2) := by decide +kernel
theorem dX3_init_91 : decode cX3_init 91 = .ok (.newarray .int, 2) := by decide +kernel
theorem dX3_init_93 : decode cX3_init 93 = .ok (.putfield 41, 3) := by decide +kernel
theorem dX3_init_96 : decode cX3_init 96 = .ok (.aload_n 0, 1) := by decide +kernel
theorem dX3_init_97 : decode cX3_init 97 = .ok (.bipush 20, 2) := by decide +kernel
theorem dX3_init_99 : decode cX3_init 99 = .ok (.newarray .int, 2) := by decide +kernel
theorem dX3_init_101 : decode cX3_init 101 = .ok (.putfield 44, 3) := by decide +kernel
theorem dX3_init_104 : decode cX3_init 104 = .ok (.aload_n 0, 1) := by decide +kernel
theorem dX3_init_105 : decode cX3_init 105 = .ok (.bipush 20, 2) := by decide +kernel
theorem dX3_init_107 : decode cX3_init 107 = .ok (.newarray .int, 2) := by decide +kernel
theorem dX3_init_109 : decode cX3_init 109 = .ok (.putfield 47, 3) := by decide +kernel
theorem dX3_init_112 : decode cX3_init 112 = .ok (.aload_n 0, 1) := by decide +kernel
theorem dX3_init_113 : decode cX3_init 113 = .ok (.bipush 20, 2) := by decide +kernel
theorem dX3_init_115 : decode cX3_init 115 = .ok (.newarray .int, 2) := by decide +kernel
theorem dX3_init_117 : decode cX3_init 117 = .ok (.putfield 50, 3) := by decide +kernel
theorem dX3_init_120 : decode cX3_init 120 = .ok (.aload_n 0, 1) := by decide +kernel
theorem dX3_init_121 : decode cX3_init 121 = .ok (.bipush 20, 2) := by decide +kernel
theorem dX3_init_123 : decode cX3_init 123 = .ok (.newarray .boolean, 2) := by decide +kernel
theorem dX3_init_125 : decode cX3_init 125 = .ok (.putfield 53, 3) := by decide +kernel
theorem dX3_init_128 : decode cX3_init 128 = .ok (.return_, 1) := by decide +kernel
theorem dX3_thrown_0 : decode cX3_thrown 0 = .ok (.aload_n 0, 1) := by decide +kernel
theorem dX3_thrown_1 : decode cX3_thrown 1 = .ok (.getfield 56, 3) := by decide +kernel
theorem dX3_thrown_4 : decode cX3_thrown 4 = .ok (.ireturn, 1) := by decide +kernel
theorem dX3_goes_0 : decode cX3_goes 0 = .ok (.aload_n 0, 1) := by decide +kernel
theorem dX3_goes_1 : decode cX3_goes 1 = .ok (.iload_n 1, 1) := by decide +kernel
theorem dX3_goes_2 : decode cX3_goes 2 = .ok (.putfield 56, 3) := by decide +kernel
theorem dX3_goes_5 : decode cX3_goes 5 = .ok (.iload_n 1, 1) := by decide +kernel
theorem dX3_goes_6 : decode cX3_goes 6 = .ok (.ifCond .ne 7, 3) := by decide +kernel
theorem dX3_goes_9 : decode cX3_goes 9 = .ok (.iconst 1, 1) := by decide +kernel
theorem dX3_goes_10 : decode cX3_goes 10 = .ok (.goto 4, 3) := by decide +kernel
theorem dX3_goes_13 : decode cX3_goes 13 = .ok (.iconst 0, 1) := by decide +kernel
theorem dX3_goes_14 : decode cX3_goes 14 = .ok (.ireturn, 1) := by decide +kernel
theorem dX3_isIn_0 : decode cX3_isIn 0 = .ok (.iload_n 0, 1) := by decide +kernel
theorem dX3_isIn_1 : decode cX3_isIn 1 = .ok (.iload_n 1, 1) := by decide +kernel
theorem dX3_isIn_2 : decode cX3_isIn 2 = .ok (.if_icmp .lt 12, 3) := by decide +kernel
theorem dX3_isIn_5 : decode cX3_isIn 5 = .ok (.iload_n 0, 1) := by decide +kernel
theorem dX3_isIn_6 : decode cX3_isIn 6 = .ok (.iload_n 2, 1) := by decide +kernel
theorem dX3_isIn_7 : decode cX3_isIn 7 = .ok (.if_icmp .gt 7, 3) := by decide +kernel
theorem dX3_isIn_10 : decode cX3_isIn 10 = .ok (.iconst 1, 1) := by decide +kernel
theorem dX3_isIn_11 : decode cX3_isIn 11 = .ok (.goto 4, 3) := by decide +kernel
theorem dX3_isIn_14 : decode cX3_isIn 14 = .ok (.iconst 0, 1) := by decide +kernel
theorem dX3_isIn_15 : decode cX3_isIn 15 = .ok (.ireturn, 1) := by decide +kernel
set_option maxRecDepth 20000 in
theorem ggX3_isUnit_X3_isIn : GoodIn wsX3_isUnit wsX3_isIn := goodIn_r _ [5] (by decide +kernel) (by decide +kernel)
set_option maxRecDepth 20000 in
theorem gX3_isUnit_X3_isIn : GoodIn wsX3_isUnit (va_wsS RX3 63 yX3_isIn wsX3_isIn) := goodIn_app (goodIn_of _ (by decide +kernel)) ggX3_isUnit_X3_isIn
theorem dX3_isUnit_0 : decode cX3_isUnit 0 = .ok (.iload_n 1, 1) := by decide +kernel
theorem dX3_isUnit_1 : decode cX3_isUnit 1 = .ok (.iconst 0, 1) := by decide +kernel
theorem dX3_isUnit_2 : decode cX3_isUnit 2 = .ok (.aload_n 0, 1) := by decide +kernel
theorem dX3_isUnit_3 : decode cX3_isUnit 3 = .ok (.getfield 60, 3) := by decide +kernel
theorem dX3_isUnit_6 : decode cX3_isUnit 6 = .ok (.iconst 1, 1) := by decide +kernel
theorem dX3_isUnit_7 : decode cX3_isUnit 7 = .ok (.isub, 1) := by decide +kernel
theorem dX3_isUnit_8 : decode cX3_isUnit 8 = .ok (.invokestatic 63, 3) := by decide +kernel
theorem dX3_isUnit_11 : decode cX3_isUnit 11 = .ok (.ireturn, 1) := by decide +kernel
theorem dX3_edge_0 : decode cX3_edge 0 = .ok (.bipush 20, 2) := by decide +kernel
theorem dX3_edge_2 : decode cX3_edge 2 = .ok (.iload_n 0, 1) := by decide +kernel
theorem dX3_edge_3 : decode cX3_edge 3 = .ok (.imul, 1) := by decide +kernel
theorem dX3_edge_4 : decode cX3_edge 4 = .ok (.iload_n 1, 1) := by decide +kernel
theorem dX3_edge_5 : decode cX3_edge 5 = .ok (.iadd, 1) := by decide +kernel
theorem dX3_edge_6 : decode cX3_edge 6 = .ok (.ireturn, 1) := by decide +kernel
set_option maxRecDepth 20000 in
theorem ggX3_add_X3_isIn : GoodIn wsX3_add wsX3_isIn := goodIn_r _ [11] (by decide +kernel) (by decide +kernel)
set_option maxRecDepth 20000 in
theorem gX3_add_X3_isIn : GoodIn wsX3_add (va_wsS RX3 63 yX3_isIn wsX3_isIn) := goodIn_app (goodIn_of _ (by decide +kernel)) ggX3_add_X3_isIn
set_option maxRecDepth 20000 in
theorem ggX3_add_X3_goes : GoodIn wsX3_add wsX3_goes := goodIn_r _ [15, 16, 17, 18, 19, 20, 21, 22, 23, 24, 25, 26, 27, 28, 29, 30, 31, 32, 33, 34, 35, 36, 37, 38, 39] (by decide +kernel) (by decide +kernel)
set_option maxRecDepth 20000 in
theorem gX3_add_X3_goes : GoodIn wsX3_add (wsV RX3 71 RX3 yX3_goes wsX3_goes) := goodIn_app (goodIn_of _ (by decide +kernel)) ggX3_add_X3_goes
theorem dX3_add_0 : decode cX3_add 0 = .ok (.aload_n 0, 1) := by decide +kernel
theorem dX3_add_1 : decode cX3_add 1 = .ok (.iload_n 1, 1) := by decide +kernel
theorem dX3_add_2 : decode cX3_add 2 = .ok (.iconst 1, 1) := by decide +kernel
theorem dX3_add_3 : decode cX3_add 3 = .ok (.bipush 100, 2) := by decide +kernel
theorem dX3_add_5 : decode cX3_add 5 = .ok (.invokestatic 63, 3) := by decide +kernel
theorem dX3_add_8 : decode cX3_add 8 = .ok (.ifCond .eq 12, 3) := by decide +kernel
theorem dX3_add_11 : decode cX3_add 11 = .ok (.iload_n 2, 1) := by decide +kernel
theorem dX3_add_12 : decode cX3_add 12 = .ok (.iconst 0, 1) := by decide +kernel
theorem dX3_add_13 : decode cX3_add 13 = .ok (.iconst 3, 1) := by decide +kernel
theorem dX3_add_14 : decode cX3_add 14 = .ok (.invokestatic 63, 3) := by decide +kernel
theorem dX3_add_17 : decode cX3_add 17 = .ok (.ifCond .ne 7, 3) := by decide +kernel
theorem dX3_add_20 : decode cX3_add 20 = .ok (.iconst 1, 1) := by decide +kernel
theorem dX3_add_21 : decode cX3_add 21 = .ok (.goto 24, 3) := by decide +kernel
theorem dX3_add_24 : decode cX3_add 24 = .ok (.aload_n 0, 1) := by decide +kernel
theorem dX3_add_25 : decode cX3_add 25 = .ok (.getfield 60, 3) := by decide +kernel
theorem dX3_add_28 : decode cX3_add 28 = .ok (.bipush 20, 2) := by decide +kernel
theorem dX3_add_30 : decode cX3_add 30 = .ok (.if_icmp .eq 10, 3) := by decide +kernel
theorem dX3_add_33 : decode cX3_add 33 = .ok (.aload_n 0, 1) := by decide +kernel
theorem dX3_add_34 : decode cX3_add 34 = .ok (.getfield 67, 3) := by decide +kernel
theorem dX3_add_37 : decode cX3_add 37 = .ok (.ifCond .eq 7, 3) := by decide +kernel
theorem dX3_add_40 : decode cX3_add 40 = .ok (.iconst 2, 1) := by decide +kernel
theorem dX3_add_41 : decode cX3_add 41 = .ok (.goto 4, 3) := by decide +kernel
theorem dX3_add_44 : decode cX3_add 44 = .ok (.iconst 0, 1) := by decide +kernel
theorem dX3_add_45 : decode cX3_add 45 = .ok (.invokevirtual 71, 3) := by decide +kernel
theorem dX3_add_48 : decode cX3_add 48 = .ok (.ifCond .ne 5, 3) := by decide +kernel
theorem dX3_add_51 : decode cX3_add 51 = .ok (.iconst 0, 1) := by decide +kernel
theorem dX3_add_52 : decode cX3_add 52 = .ok (.ireturn, 1) := by decide +kernel
theorem dX3_add_53 : decode cX3_add 53 = .ok (.aload_n 0, 1) := by decide +kernel
theorem dX3_add_54 : decode cX3_add 54 = .ok (.getfield 7, 3) := by decide +kernel
theorem dX3_add_57 : decode cX3_add 57 = .ok (.aload_n 0, 1) := by decide +kernel
theorem dX3_add_58 : decode cX3_add 58 = .ok (.getfield 60, 3) := by decide +kernel
theorem dX3_add_61 : decode cX3_add 61 = .ok (.iload_n 1, 1) := by decide +kernel
theorem dX3_add_62 : decode cX3_add 62 = .ok (.iastore, 1) := by decide +kernel
theorem dX3_add_63 : decode cX3_add 63 = .ok (.aload_n 0, 1) := by decide +kernel
theorem dX3_add_64 : decode cX3_add 64 = .ok (.getfield 16, 3) := by decide +kernel
theorem dX3_add_67 : decode cX3_add 67 = .ok (.aload_n 0, 1) := by decide +kernel
theorem dX3_add_68 : decode cX3_add 68 = .ok (.getfield 60, 3) := by decide +kernel
theorem dX3_add_71 : decode cX3_add 71 = .ok (.iload_n 2, 1) := by decide +kernel
theorem dX3_add_72 : decode cX3_add 72 = .ok (.iastore, 1) := by decide +kernel
theorem dX3_add_73 : decode cX3_add 73 = .ok (.aload_n 0, 1) := by decide +kernel
theorem dX3_add_74 : decode cX3_add 74 = .ok (.getfield 13, 3) := by decide +kernel
theorem dX3_add_77 : decode cX3_add 77 = .ok (.aload_n 0, 1) := by decide +kernel
theorem dX3_add_78 : decode cX3_add 78 = .ok (.getfield 60, 3) := by decide +kernel
theorem dX3_add_81 : decode cX3_add 81 = .ok (.bipush 10, 2) := by decide +kernel
theorem dX3_add_83 : decode cX3_add 83 = .ok (.iastore, 1) := by decide +kernel
theorem dX3_add_84 : decode cX3_add 84 = .ok (.aload_n 0, 1) := by decide +kernel
theorem dX3_add_85 : decode cX3_add 85 = .ok (.getfield 22, 3) := by decide +kernel
theorem dX3_add_88 : decode cX3_add 88 = .ok (.aload_n 0, 1) := by decide +kernel
theorem dX3_add_89 : decode cX3_add 89 = .ok (.getfield 60, 3) := by decide +kernel
theorem dX3_add_92 : decode cX3_add 92 = .ok (.iconst (-1), 1) := by decide +kernel
theorem dX3_add_93 : decode cX3_add 93 = .ok (.iastore, 1) := by decide +kernel
theorem dX3_add_94 : decode cX3_add 94 = .ok (.aload_n 0, 1) := by decide +kernel
theorem dX3_add_95 : decode cX3_add 95 = .ok (.getfield 41, 3) := by decide +kernel
theorem dX3_add_98 : decode cX3_add 98 = .ok (.aload_n 0, 1) := by decide +kernel
theorem dX3_add_99 : decode cX3_add 99 = .ok (.getfield 60, 3) := by decide +kernel
theorem dX3_add_102 : decode cX3_add 102 = .ok (.iconst 0, 1) := by decide +kernel
theorem dX3_add_103 : decode cX3_add 103 = .ok (.iastore, 1) := by decide +kernel
theorem dX3_add_104 : decode cX3_add 104 = .ok (.aload_n 0, 1) := by decide +kernel
theorem dX3_add_105 : decode cX3_add 105 = .ok (.dup, 1) := by decide +kernel
theorem dX3_add_106 : decode cX3_add 106 = .ok (.getfield 60, 3) := by decide +kernel
theorem dX3_add_109 : decode cX3_add 109 = .ok (.iconst 1, 1) := by decide +kernel
theorem dX3_add_110 : decode cX3_add 110 = .ok (.iadd, 1) := by decide +kernel
theorem dX3_add_111 : decode cX3_add 111 = .ok (.putfield 60, 3) := by decide +kernel
theorem dX3_add_114 : decode cX3_add 114 = .ok (.aload_n 0, 1) := by decide +kernel
theorem dX3_add_115 : decode cX3_add 115 = .ok (.getfield 60, 3) := by decide +kernel
theorem dX3_add_118 : decode cX3_add 118 = .ok (.iconst 1, 1) := by decide +kernel
theorem dX3_add_119 : decode cX3_add 119 = .ok (.isub, 1) := by decide +kernel
theorem dX3_add_120 : decode cX3_add 120 = .ok (.ireturn, 1) := by decide +kernel
set_option maxRecDepth 20000 in
theorem ggX3_reaches_X3_edge : GoodIn wsX3_reaches wsX3_edge := goodIn_r _ [9] (by decide +kernel) (by decide +kernel)
set_option maxRecDepth 20000 in
theorem gX3_reaches_X3_edge : GoodIn wsX3_reaches (va_wsS RX3 75 yX3_edge wsX3_edge) := goodIn_app (goodIn_of _ (by decide +kernel)) ggX3_reaches_X3_edge
theorem dX3_reaches_0 : decode cX3_reaches 0 = .ok (.iconst 0, 1) := by decide +kernel
theorem dX3_reaches_1 : decode cX3_reaches 1 = .ok (.istore 4, 2) := by decide +kernel
theorem dX3_reaches_3 : decode cX3_reaches 3 = .ok (.iload 4, 2) := by decide +kernel
theorem dX3_reaches_5 : decode cX3_reaches 5 = .ok (.aload_n 0, 1) := by decide +kernel
theorem dX3_reaches_6 : decode cX3_reaches 6 = .ok (.getfield 60, 3) := by decide +kernel
theorem dX3_reaches_9 : decode cX3_reaches 9 = .ok (.if_icmp .ge 27, 3) := by decide +kernel
theorem dX3_reaches_12 : decode cX3_reaches 12 = .ok (.aload_n 0, 1) := by decide +kernel
theorem dX3_reaches_13 : decode cX3_reaches 13 = .ok (.getfield 53, 3) := by decide +kernel
theorem dX3_reaches_16 : decode cX3_reaches 16 = .ok (.iload 4, 2) := by decide +kernel
theorem dX3_reaches_18 : decode cX3_reaches 18 = .ok (.iload 4, 2) := by decide +kernel
theorem dX3_reaches_20 : decode cX3_reaches 20 = .ok (.iload_n 1, 1) := by decide +kernel
theorem dX3_reaches_21 : decode cX3_reaches 21 = .ok (.if_icmp .ne 7, 3) := by decide +kernel
theorem dX3_reaches_24 : decode cX3_reaches 24 = .ok (.iconst 1, 1) := by decide +kernel
theorem dX3_reaches_25 : decode cX3_reaches 25 = .ok (.goto 4, 3) := by decide +kernel
theorem dX3_reaches_28 : decode cX3_reaches 28 = .ok (.iconst 0, 1) := by decide +kernel
theorem dX3_reaches_29 : decode cX3_reaches 29 = .ok (.bastore, 1) := by decide +kernel
theorem dX3_reaches_30 : decode cX3_reaches 30 = .ok (.iinc 4 1, 3) := by decide +kernel
theorem dX3_reaches_33 : decode cX3_reaches 33 = .ok (.goto (-30), 3) := by decide +kernel
theorem dX3_reaches_36 : decode cX3_reaches 36 = .ok (.iconst 0, 1) := by decide +kernel
theorem dX3_reaches_37 : decode cX3_reaches 37 = .ok (.istore 4, 2) := by decide +kernel
theorem dX3_reaches_39 : decode cX3_reaches 39 = .ok (.iload 4, 2) := by decide +kernel
theorem dX3_reaches_41 : decode cX3_reaches 41 = .ok (.aload_n 0, 1) := by decide +kernel
theorem dX3_reaches_42 : decode cX3_reaches 42 = .ok (.getfield 60, 3) := by decide +kernel
theorem dX3_reaches_45 : decode cX3_reaches 45 = .ok (.aload_n 0, 1) := by decide +kernel
theorem dX3_reaches_46 : decode cX3_reaches 46 = .ok (.getfield 60, 3) := by decide +kernel
theorem dX3_reaches_49 : decode cX3_reaches 49 = .ok (.imul, 1) := by decide +kernel
theorem dX3_reaches_50 : decode cX3_reaches 50 = .ok (.aload_n 0, 1) := by decide +kernel
theorem dX3_reaches_51 : decode cX3_reaches 51 = .ok (.getfield 60, 3) := by decide +kernel
theorem dX3_reaches_54 : decode cX3_reaches 54 = .ok (.imul, 1) := by decide +kernel
theorem dX3_reaches_55 : decode cX3_reaches 55 = .ok (.if_icmp .ge 125, 3) := by decide +kernel
theorem dX3_reaches_58 : decode cX3_reaches 58 = .ok (.iload 4, 2) := by decide +kernel
theorem dX3_reaches_60 : decode cX3_reaches 60 = .ok (.aload_n 0, 1) := by decide +kernel
theorem dX3_reaches_61 : decode cX3_reaches 61 = .ok (.getfield 60, 3) := by decide +kernel
theorem dX3_reaches_64 : decode cX3_reaches 64 = .ok (.idiv, 1) := by decide +kernel
theorem dX3_reaches_65 : decode cX3_reaches 65 = .ok (.aload_n 0, 1) := by decide +kernel
theorem dX3_reaches_66 : decode cX3_reaches 66 = .ok (.getfield 60, 3) := by decide +kernel
theorem dX3_reaches_69 : decode cX3_reaches 69 = .ok (.irem, 1) := by decide +kernel
theorem dX3_reaches_70 : decode cX3_reaches 70 = .ok (.istore 5, 2) := by decide +kernel
theorem dX3_reaches_72 : decode cX3_reaches 72 = .ok (.iload 4, 2) := by decide +kernel
theorem dX3_reaches_74 : decode cX3_reaches 74 = .ok (.aload_n 0, 1) := by decide +kernel
theorem dX3_reaches_75 : decode cX3_reaches 75 = .ok (.getfield 60, 3) := by decide +kernel
theorem dX3_reaches_78 : decode cX3_reaches 78 = .ok (.irem, 1) := by decide +kernel
theorem dX3_reaches_79 : decode cX3_reaches 79 = .ok (.istore 6, 2) := by decide +kernel
theorem dX3_reaches_81 : decode cX3_reaches 81 = .ok (.aload_n 0, 1) := by decide +kernel
theorem dX3_reaches_82 : decode cX3_reaches 82 = .ok (.getfield 29, 3) := by decide +kernel
theorem dX3_reaches_85 : decode cX3_reaches 85 = .ok (.iload 5, 2) := by decide +kernel
theorem dX3_reaches_87 : decode cX3_reaches 87 = .ok (.iload 6, 2) := by decide +kernel
theorem dX3_reaches_89 : decode cX3_reaches 89 = .ok (.invokestatic 75, 3) := by decide +kernel
theorem dX3_reaches_92 : decode cX3_reaches 92 = .ok (.baload, 1) := by decide +kernel
theorem dX3_reaches_93 : decode cX3_reaches 93 = .ok (.ifCond .ne 37, 3) := by decide +kernel
theorem dX3_reaches_96 : decode cX3_reaches 96 = .ok (.iload_n 3, 1) := by decide +kernel
theorem dX3_reaches_97 : decode cX3_reaches 97 = .ok (.ifCond .eq 37, 3) := by decide +kernel
theorem dX3_reaches_100 : decode cX3_reaches 100 = .ok (.aload_n 0, 1) := by decide +kernel
theorem dX3_reaches_101 : decode cX3_reaches 101 = .ok (.getfield 32, 3) := by decide +kernel
theorem dX3_reaches_104 : decode cX3_reaches 104 = .ok (.iload 5, 2) := by decide +kernel
theorem dX3_reaches_106 : decode cX3_reaches 106 = .ok (.iload 6, 2) := by decide +kernel
theorem dX3_reaches_108 : decode cX3_reaches 108 = .ok (.invokestatic 75, 3) := by decide +kernel
theorem dX3_reaches_111 : decode cX3_reaches 111 = .ok (.iaload, 1) := by decide +kernel
theorem dX3_reaches_112 : decode cX3_reaches 112 = .ok (.ifCond .le 22, 3) := by decide +kernel
theorem dX3_reaches_115 : decode cX3_reaches 115 = .ok (.aload_n 0, 1) := by decide +kernel
theorem dX3_reaches_116 : decode cX3_reaches 116 = .ok (.getfield 38, 3) := by decide +kernel
theorem dX3_reaches_119 : decode cX3_reaches 119 = .ok (.iload 5, 2) := by decide +kernel
theorem dX3_reaches_121 : decode cX3_reaches 121 = .ok (.iload 6, 2) := by decide +kernel
theorem dX3_reaches_123 : decode cX3_reaches 123 = .ok (.invokestatic 75, 3) := by decide +kernel
theorem dX3_reaches_126 : decode cX3_reaches 126 = .ok (.baload, 1) := by decide +kernel
theorem dX3_reaches_127 : decode cX3_reaches 127 = .ok (.ifCond .ne 7, 3) := by decide +kernel
theorem dX3_reaches_130 : decode cX3_reaches 130 = .ok (.iconst 1, 1) := by decide +kernel
theorem dX3_reaches_131 : decode cX3_reaches 131 = .ok (.goto 4, 3) := by decide +kernel
theorem dX3_reaches_134 : decode cX3_reaches 134 = .ok (.iconst 0, 1) := by decide +kernel
theorem dX3_reaches_135 : decode cX3_reaches 135 = .ok (.istore 7, 2) := by decide +kernel
theorem dX3_reaches_137 : decode cX3_reaches 137 = .ok (.aload_n 0, 1) := by decide +kernel
theorem dX3_reaches_138 : decode cX3_reaches 138 = .ok (.getfield 53, 3) := by decide +kernel
theorem dX3_reaches_141 : decode cX3_reaches 141 = .ok (.iload 6, 2) := by decide +kernel
theorem dX3_reaches_143 : decode cX3_reaches 143 = .ok (.aload_n 0, 1) := by decide +kernel
theorem dX3_reaches_144 : decode cX3_reaches 144 = .ok (.getfield 53, 3) := by decide +kernel
theorem dX3_reaches_147 : decode cX3_reaches 147 = .ok (.iload 6, 2) := by decide +kernel
theorem dX3_reaches_149 : decode cX3_reaches 149 = .ok (.baload, 1) := by decide +kernel
theorem dX3_reaches_150 : decode cX3_reaches 150 = .ok (.ifCond .ne 18, 3) := by decide +kernel
theorem dX3_reaches_153 : decode cX3_reaches 153 = .ok (.aload_n 0, 1) := by decide +kernel
theorem dX3_reaches_154 : decode cX3_reaches 154 = .ok (.getfield 53, 3) := by decide +kernel
theorem dX3_reaches_157 : decode cX3_reaches 157 = .ok (.iload 5, 2) := by decide +kernel
theorem dX3_reaches_159 : decode cX3_reaches 159 = .ok (.baload, 1) := by decide +kernel
theorem dX3_reaches_160 : decode cX3_reaches 160 = .ok (.ifCond .eq 12, 3) := by decide +kernel
theorem dX3_reaches_163 : decode cX3_reaches 163 = .ok (.iload 7, 2) := by decide +kernel
theorem dX3_reaches_165 : decode cX3_reaches 165 = .ok (.ifCond .eq 7, 3) := by decide +kernel
theorem dX3_reaches_168 : decode cX3_reaches 168 = .ok (.iconst 1, 1) := by decide +kernel
theorem dX3_reaches_169 : decode cX3_reaches 169 = .ok (.goto 4, 3) := by decide +kernel
theorem dX3_reaches_172 : decode cX3_reaches 172 = .ok (.iconst 0, 1) := by decide +kernel
theorem dX3_reaches_173 : decode cX3_reaches 173 = .ok (.bastore, 1) := by decide +kernel
theorem dX3_reaches_174 : decode cX3_reaches 174 = .ok (.iinc 4 1, 3) := by decide +kernel
theorem dX3_reaches_177 : decode cX3_reaches 177 = .ok (.goto (-138), 3) := by decide +kernel
theorem dX3_reaches_180 : decode cX3_reaches 180 = .ok (.aload_n 0, 1) := by decide +kernel
theorem dX3_reaches_181 : decode cX3_reaches 181 = .ok (.getfield 53, 3) := by decide +kernel
theorem dX3_reaches_184 : decode cX3_reaches 184 = .ok (.iload_n 2, 1) := by decide +kernel
theorem dX3_reaches_185 : decode cX3_reaches 185 = .ok (.baload, 1) := by decide +kernel
theorem dX3_reaches_186 : decode cX3_reaches 186 = .ok (.ireturn, 1) := by decide +kernel
set_option maxRecDepth 20000 in
theorem ggX3_need_X3_isUnit : GoodIn wsX3_need wsX3_isUnit := goodIn_r _ [7, 8, 9, 10, 6, 11, 27, 28, 29, 30, 31, 32, 33, 34, 35, 36, 37, 38, 39, 40, 41, 42, 43, 44, 45, 46, 47, 48, 49] (by decide +kernel) (by decide +kernel)
set_option maxRecDepth 20000 in
theorem gX3_need_X3_isUnit : GoodIn wsX3_need (wsV RX3 79 RX3 yX3_isUnit wsX3_isUnit) := goodIn_app (goodIn_of _ (by decide +kernel)) ggX3_need_X3_isUnit
set_option maxRecDepth 20000 in
theorem ggX3_need_X3_goes : GoodIn wsX3_need wsX3_goes := goodIn_r _ [15, 16, 27, 28, 29, 30, 31, 32, 33, 34, 35, 36, 37, 38, 39, 40, 41, 42, 43, 44, 45, 46, 47, 48, 49] (by decide +kernel) (by decide +kernel)
set_option maxRecDepth 20000 in
theorem gX3_need_X3_goes : GoodIn wsX3_need (wsV RX3 71 RX3 yX3_goes wsX3_goes) := goodIn_app (goodIn_of _ (by decide +kernel)) ggX3_need_X3_goes
set_option maxRecDepth 20000 in
theorem ggX3_need_X3_reaches : GoodIn wsX3_need wsX3_reaches := goodIn_r _ [20, 8, 21, 2, 22, 23, 24, 25, 6, 26, 27, 28, 29, 30, 31, 32, 33, 34, 35, 36, 37, 38, 39, 40, 41, 42, 43, 44, 45, 46, 47, 48, 49] (by decide +kernel) (by decide +kernel)
set_option maxRecDepth 20000 in
theorem gX3_need_X3_reaches : GoodIn wsX3_need (wsV RX3 82 RX3 yX3_reaches wsX3_reaches) := goodIn_app (goodIn_of _ (by decide +kernel)) ggX3_need_X3_reaches
set_option maxRecDepth 20000 in
theorem ggX3_need_X3_edge : GoodIn wsX3_need wsX3_edge := goodIn_r _ [26] (by decide +kernel) (by decide +kernel)
set_option maxRecDepth 20000 in
theorem gX3_need_X3_edge : GoodIn wsX3_need (va_wsS RX3 75 yX3_edge wsX3_edge) := goodIn_app (goodIn_of _ (by decide +kernel)) ggX3_need_X3_edge
theorem dX3_need_0 : decode cX3_need 0 = .ok (.aload_n 0, 1) := by decide +kernel
theorem dX3_need_1 : decode cX3_need 1 = .ok (.aload_n 0, 1) := by decide +kernel
theorem dX3_need_2 : decode cX3_need 2 = .ok (.iload_n 1, 1) := by decide +kernel
theorem dX3_need_3 : decode cX3_need 3 = .ok (.invokevirtual 79, 3) := by decide +kernel
theorem dX3_need_6 : decode cX3_need 6 = .ok (.ifCond .eq 15, 3) := by decide +kernel
theorem dX3_need_9 : decode cX3_need 9 = .ok (.aload_n 0, 1) := by decide +kernel
theorem dX3_need_10 : decode cX3_need 10 = .ok (.iload_n 2, 1) := by decide +kernel
theorem dX3_need_11 : decode cX3_need 11 = .ok (.invokevirtual 79, 3) := by decide +kernel
theorem dX3_need_14 : decode cX3_need 14 = .ok (.ifCond .eq 7, 3) := by decide +kernel
theorem dX3_need_17 : decode cX3_need 17 = .ok (.iconst 0, 1) := by decide +kernel
theorem dX3_need_18 : decode cX3_need 18 = .ok (.goto 4, 3) := by decide +kernel
theorem dX3_need_21 : decode cX3_need 21 = .ok (.iconst 1, 1) := by decide +kernel
theorem dX3_need_22 : decode cX3_need 22 = .ok (.invokevirtual 71, 3) := by decide +kernel
theorem dX3_need_25 : decode cX3_need 25 = .ok (.ifCond .ne 5, 3) := by decide +kernel
theorem dX3_need_28 : decode cX3_need 28 = .ok (.iconst 0, 1) := by decide +kernel
theorem dX3_need_29 : decode cX3_need 29 = .ok (.ireturn, 1) := by decide +kernel
theorem dX3_need_30 : decode cX3_need 30 = .ok (.aload_n 0, 1) := by decide +kernel
theorem dX3_need_31 : decode cX3_need 31 = .ok (.aload_n 0, 1) := by decide +kernel
theorem dX3_need_32 : decode cX3_need 32 = .ok (.getfield 67, 3) := by decide +kernel
theorem dX3_need_35 : decode cX3_need 35 = .ok (.ifCond .ne 13, 3) := by decide +kernel
theorem dX3_need_38 : decode cX3_need 38 = .ok (.aload_n 0, 1) := by decide +kernel
theorem dX3_need_39 : decode cX3_need 39 = .ok (.iload_n 2, 1) := by decide +kernel
theorem dX3_need_40 : decode cX3_need 40 = .ok (.iload_n 1, 1) := by decide +kernel
theorem dX3_need_41 : decode cX3_need 41 = .ok (.iconst 0, 1) := by decide +kernel
theorem dX3_need_42 : decode cX3_need 42 = .ok (.invokevirtual 82, 3) := by decide +kernel
theorem dX3_need_45 : decode cX3_need 45 = .ok (.ifCond .eq 7, 3) := by decide +kernel
theorem dX3_need_48 : decode cX3_need 48 = .ok (.iconst 2, 1) := by decide +kernel
theorem dX3_need_49 : decode cX3_need 49 = .ok (.goto 4, 3) := by decide +kernel
theorem dX3_need_52 : decode cX3_need 52 = .ok (.iconst 0, 1) := by decide +kernel
theorem dX3_need_53 : decode cX3_need 53 = .ok (.invokevirtual 71, 3) := by decide +kernel
theorem dX3_need_56 : decode cX3_need 56 = .ok (.ifCond .ne 5, 3) := by decide +kernel
theorem dX3_need_59 : decode cX3_need 59 = .ok (.iconst 0, 1) := by decide +kernel
theorem dX3_need_60 : decode cX3_need 60 = .ok (.ireturn, 1) := by decide +kernel
theorem dX3_need_61 : decode cX3_need 61 = .ok (.aload_n 0, 1) := by decide +kernel
theorem dX3_need_62 : decode cX3_need 62 = .ok (.getfield 29, 3) := by decide +kernel
theorem dX3_need_65 : decode cX3_need 65 = .ok (.iload_n 1, 1) := by decide +kernel
theorem dX3_need_66 : decode cX3_need 66 = .ok (.iload_n 2, 1) := by decide +kernel
theorem dX3_need_67 : decode cX3_need 67 = .ok (.invokestatic 75, 3) := by decide +kernel
theorem dX3_need_70 : decode cX3_need 70 = .ok (.baload, 1) := by decide +kernel
theorem dX3_need_71 : decode cX3_need 71 = .ok (.istore_n 3, 1) := by decide +kernel
theorem dX3_need_72 : decode cX3_need 72 = .ok (.aload_n 0, 1) := by decide +kernel
theorem dX3_need_73 : decode cX3_need 73 = .ok (.getfield 29, 3) := by decide +kernel
theorem dX3_need_76 : decode cX3_need 76 = .ok (.iload_n 1, 1) := by decide +kernel
theorem dX3_need_77 : decode cX3_need 77 = .ok (.iload_n 2, 1) := by decide +kernel
theorem dX3_need_78 : decode cX3_need 78 = .ok (.invokestatic 75, 3) := by decide +kernel
theorem dX3_need_81 : decode cX3_need 81 = .ok (.iconst 1, 1) := by decide +kernel
theorem dX3_need_82 : decode cX3_need 82 = .ok (.bastore, 1) := by decide +kernel
theorem dX3_need_83 : decode cX3_need 83 = .ok (.iload_n 3, 1) := by decide +kernel
theorem dX3_need_84 : decode cX3_need 84 = .ok (.ireturn, 1) := by decide +kernel
set_option maxRecDepth 20000 in
theorem ggX3_wish_X3_isUnit : GoodIn wsX3_wish wsX3_isUnit := goodIn_r _ [9, 10, 11, 12, 8, 13, 22, 23, 24, 25, 26, 27, 28, 29, 30, 31, 32, 33, 34, 35, 36, 37, 38, 39, 40, 41, 42, 43, 44] (by decide +kernel) (by decide +kernel)
set_option maxRecDepth 20000 in
theorem gX3_wish_X3_isUnit : GoodIn wsX3_wish (wsV RX3 79 RX3 yX3_isUnit wsX3_isUnit) := goodIn_app (goodIn_of _ (by decide +kernel)) ggX3_wish_X3_isUnit
set_option maxRecDepth 20000 in
theorem ggX3_wish_X3_isIn : GoodIn wsX3_wish wsX3_isIn := goodIn_r _ [13] (by decide +kernel) (by decide +kernel)
set_option maxRecDepth 20000 in
theorem gX3_wish_X3_isIn : GoodIn wsX3_wish (va_wsS RX3 63 yX3_isIn wsX3_isIn) := goodIn_app (goodIn_of _ (by decide +kernel)) ggX3_wish_X3_isIn
set_option maxRecDepth 20000 in
theorem ggX3_wish_X3_goes : GoodIn wsX3_wish wsX3_goes := goodIn_r _ [17, 18, 22, 23, 24, 25, 26, 27, 28, 29, 30, 31, 32, 33, 34, 35, 36, 37, 38, 39, 40, 41, 42, 43, 44] (by decide +kernel) (by decide +kernel)
set_option maxRecDepth 20000 in
theorem gX3_wish_X3_goes : GoodIn wsX3_wish (wsV RX3 71 RX3 yX3_goes wsX3_goes) := goodIn_app (goodIn_of _ (by decide +kernel)) ggX3_wish_X3_goes
set_option maxRecDepth 20000 in
theorem ggX3_wish_X3_edge : GoodIn wsX3_wish wsX3_edge := goodIn_r _ [21] (by decide +kernel) (by decide +kernel)
set_option maxRecDepth 20000 in
theorem gX3_wish_X3_edge : GoodIn wsX3_wish (va_wsS RX3 75 yX3_edge wsX3_edge) := goodIn_app (goodIn_of _ (by decide +kernel)) ggX3_wish_X3_edge
theorem dX3_wish_0 : decode cX3_wish 0 = .ok (.aload_n 0, 1) := by decide +kernel
theorem dX3_wish_1 : decode cX3_wish 1 = .ok (.iload_n 1, 1) := by decide +kernel
theorem dX3_wish_2 : decode cX3_wish 2 = .ok (.invokevirtual 79, 3) := by decide +kernel
theorem dX3_wish_5 : decode cX3_wish 5 = .ok (.ifCond .eq 15, 3) := by decide +kernel
theorem dX3_wish_8 : decode cX3_wish 8 = .ok (.aload_n 0, 1) := by decide +kernel
theorem dX3_wish_9 : decode cX3_wish 9 = .ok (.iload_n 2, 1) := by decide +kernel
theorem dX3_wish_10 : decode cX3_wish 10 = .ok (.invokevirtual 79, 3) := by decide +kernel
theorem dX3_wish_13 : decode cX3_wish 13 = .ok (.ifCond .eq 7, 3) := by decide +kernel
theorem dX3_wish_16 : decode cX3_wish 16 = .ok (.iconst 1, 1) := by decide +kernel
theorem dX3_wish_17 : decode cX3_wish 17 = .ok (.goto 4, 3) := by decide +kernel
theorem dX3_wish_20 : decode cX3_wish 20 = .ok (.iconst 0, 1) := by decide +kernel
theorem dX3_wish_21 : decode cX3_wish 21 = .ok (.istore 4, 2) := by decide +kernel
theorem dX3_wish_23 : decode cX3_wish 23 = .ok (.aload_n 0, 1) := by decide +kernel
theorem dX3_wish_24 : decode cX3_wish 24 = .ok (.iload 4, 2) := by decide +kernel
theorem dX3_wish_26 : decode cX3_wish 26 = .ok (.ifCond .ne 7, 3) := by decide +kernel
theorem dX3_wish_29 : decode cX3_wish 29 = .ok (.iconst 1, 1) := by decide +kernel
theorem dX3_wish_30 : decode cX3_wish 30 = .ok (.goto 34, 3) := by decide +kernel
theorem dX3_wish_33 : decode cX3_wish 33 = .ok (.iload_n 3, 1) := by decide +kernel
theorem dX3_wish_34 : decode cX3_wish 34 = .ok (.iconst 1, 1) := by decide +kernel
theorem dX3_wish_35 : decode cX3_wish 35 = .ok (.bipush 100, 2) := by decide +kernel
theorem dX3_wish_37 : decode cX3_wish 37 = .ok (.invokestatic 63, 3) := by decide +kernel
theorem dX3_wish_40 : decode cX3_wish 40 = .ok (.ifCond .eq 8, 3) := by decide +kernel
theorem dX3_wish_43 : decode cX3_wish 43 = .ok (.iload_n 1, 1) := by decide +kernel
theorem dX3_wish_44 : decode cX3_wish 44 = .ok (.iload_n 2, 1) := by decide +kernel
theorem dX3_wish_45 : decode cX3_wish 45 = .ok (.if_icmp .ne 7, 3) := by decide +kernel
theorem dX3_wish_48 : decode cX3_wish 48 = .ok (.iconst 2, 1) := by decide +kernel
theorem dX3_wish_49 : decode cX3_wish 49 = .ok (.goto 15, 3) := by decide +kernel
theorem dX3_wish_52 : decode cX3_wish 52 = .ok (.aload_n 0, 1) := by decide +kernel
theorem dX3_wish_53 : decode cX3_wish 53 = .ok (.getfield 67, 3) := by decide +kernel
theorem dX3_wish_56 : decode cX3_wish 56 = .ok (.ifCond .eq 7, 3) := by decide +kernel
theorem dX3_wish_59 : decode cX3_wish 59 = .ok (.iconst 3, 1) := by decide +kernel
theorem dX3_wish_60 : decode cX3_wish 60 = .ok (.goto 4, 3) := by decide +kernel
theorem dX3_wish_63 : decode cX3_wish 63 = .ok (.iconst 0, 1) := by decide +kernel
theorem dX3_wish_64 : decode cX3_wish 64 = .ok (.invokevirtual 71, 3) := by decide +kernel
theorem dX3_wish_67 : decode cX3_wish 67 = .ok (.ifCond .ne 5, 3) := by decide +kernel
theorem dX3_wish_70 : decode cX3_wish 70 = .ok (.iconst 0, 1) := by decide +kernel
theorem dX3_wish_71 : decode cX3_wish 71 = .ok (.ireturn, 1) := by decide +kernel
theorem dX3_wish_72 : decode cX3_wish 72 = .ok (.aload_n 0, 1) := by decide +kernel
theorem dX3_wish_73 : decode cX3_wish 73 = .ok (.getfield 32, 3) := by decide +kernel
theorem dX3_wish_76 : decode cX3_wish 76 = .ok (.iload_n 1, 1) := by decide +kernel
theorem dX3_wish_77 : decode cX3_wish 77 = .ok (.iload_n 2, 1) := by decide +kernel
theorem dX3_wish_78 : decode cX3_wish 78 = .ok (.invokestatic 75, 3) := by decide +kernel
theorem dX3_wish_81 : decode cX3_wish 81 = .ok (.iaload, 1) := by decide +kernel
theorem dX3_wish_82 : decode cX3_wish 82 = .ok (.istore 5, 2) := by decide +kernel
theorem dX3_wish_84 : decode cX3_wish 84 = .ok (.aload_n 0, 1) := by decide +kernel
theorem dX3_wish_85 : decode cX3_wish 85 = .ok (.getfield 32, 3) := by decide +kernel
theorem dX3_wish_88 : decode cX3_wish 88 = .ok (.iload_n 1, 1) := by decide +kernel
theorem dX3_wish_89 : decode cX3_wish 89 = .ok (.iload_n 2, 1) := by decide +kernel
theorem dX3_wish_90 : decode cX3_wish 90 = .ok (.invokestatic 75, 3) := by decide +kernel
theorem dX3_wish_93 : decode cX3_wish 93 = .ok (.iload_n 3, 1) := by decide +kernel
theorem dX3_wish_94 : decode cX3_wish 94 = .ok (.iastore, 1) := by decide +kernel
theorem dX3_wish_95 : decode cX3_wish 95 = .ok (.aload_n 0, 1) := by decide +kernel
theorem dX3_wish_96 : decode cX3_wish 96 = .ok (.getfield 35, 3) := by decide +kernel
theorem dX3_wish_99 : decode cX3_wish 99 = .ok (.iload_n 1, 1) := by decide +kernel
theorem dX3_wish_100 : decode cX3_wish 100 = .ok (.iload_n 2, 1) := by decide +kernel
theorem dX3_wish_101 : decode cX3_wish 101 = .ok (.invokestatic 75, 3) := by decide +kernel
theorem dX3_wish_104 : decode cX3_wish 104 = .ok (.iload 5, 2) := by decide +kernel
theorem dX3_wish_106 : decode cX3_wish 106 = .ok (.ifCond .ne 10, 3) := by decide +kernel
theorem dX3_wish_109 : decode cX3_wish 109 = .ok (.aload_n 0, 1) := by decide +kernel
theorem dX3_wish_110 : decode cX3_wish 110 = .ok (.getfield 86, 3) := by decide +kernel
theorem dX3_wish_113 : decode cX3_wish 113 = .ok (.goto 13, 3) := by decide +kernel
theorem dX3_wish_116 : decode cX3_wish 116 = .ok (.aload_n 0, 1) := by decide +kernel
theorem dX3_wish_117 : decode cX3_wish 117 = .ok (.getfield 35, 3) := by decide +kernel
theorem dX3_wish_120 : decode cX3_wish 120 = .ok (.iload_n 1, 1) := by decide +kernel
theorem dX3_wish_121 : decode cX3_wish 121 = .ok (.iload_n 2, 1) := by decide +kernel
theorem dX3_wish_122 : decode cX3_wish 122 = .ok (.invokestatic 75, 3) := by decide +kernel
theorem dX3_wish_125 : decode cX3_wish 125 = .ok (.iaload, 1) := by decide +kernel
theorem dX3_wish_126 : decode cX3_wish 126 = .ok (.iastore, 1) := by decide +kernel
theorem dX3_wish_127 : decode cX3_wish 127 = .ok (.aload_n 0, 1) := by decide +kernel
theorem dX3_wish_128 : decode cX3_wish 128 = .ok (.dup, 1) := by decide +kernel
theorem dX3_wish_129 : decode cX3_wish 129 = .ok (.getfield 86, 3) := by decide +kernel
theorem dX3_wish_132 : decode cX3_wish 132 = .ok (.iload 5, 2) := by decide +kernel
theorem dX3_wish_134 : decode cX3_wish 134 = .ok (.ifCond .ne 7, 3) := by decide +kernel
theorem dX3_wish_137 : decode cX3_wish 137 = .ok (.iconst 1, 1) := by decide +kernel
theorem dX3_wish_138 : decode cX3_wish 138 = .ok (.goto 4, 3) := by decide +kernel
theorem dX3_wish_141 : decode cX3_wish 141 = .ok (.iconst 0, 1) := by decide +kernel
theorem dX3_wish_142 : decode cX3_wish 142 = .ok (.iadd, 1) := by decide +kernel
theorem dX3_wish_143 : decode cX3_wish 143 = .ok (.putfield 86, 3) := by decide +kernel
theorem dX3_wish_146 : decode cX3_wish 146 = .ok (.iload 5, 2) := by decide +kernel
theorem dX3_wish_148 : decode cX3_wish 148 = .ok (.ireturn, 1) := by decide +kernel
set_option maxRecDepth 20000 in
theorem ggX3_standIn_X3_isUnit : GoodIn wsX3_standIn wsX3_isUnit := goodIn_r _ [7, 8, 9, 10, 6, 11, 17, 18, 19, 20, 21, 22, 23, 24, 25, 26, 27, 28, 29, 30, 31, 32, 33, 34, 35, 36, 37, 38, 39] (by decide +kernel) (by decide +kernel)
set_option maxRecDepth 20000 in
theorem gX3_standIn_X3_isUnit : GoodIn wsX3_standIn (wsV RX3 79 RX3 yX3_isUnit wsX3_isUnit) := goodIn_app (goodIn_of _ (by decide +kernel)) ggX3_standIn_X3_isUnit
set_option maxRecDepth 20000 in
theorem ggX3_standIn_X3_goes : GoodIn wsX3_standIn wsX3_goes := goodIn_r _ [15, 16, 17, 18, 19, 20, 21, 22, 23, 24, 25, 26, 27, 28, 29, 30, 31, 32, 33, 34, 35, 36, 37, 38, 39] (by decide +kernel) (by decide +kernel)
set_option maxRecDepth 20000 in
theorem gX3_standIn_X3_goes : GoodIn wsX3_standIn (wsV RX3 71 RX3 yX3_goes wsX3_goes) := goodIn_app (goodIn_of _ (by decide +kernel)) ggX3_standIn_X3_goes
theorem dX3_standIn_0 : decode cX3_standIn 0 = .ok (.aload_n 0, 1) := by decide +kernel
theorem dX3_standIn_1 : decode cX3_standIn 1 = .ok (.iload_n 1, 1) := by decide +kernel
theorem dX3_standIn_2 : decode cX3_standIn 2 = .ok (.invokevirtual 79, 3) := by decide +kernel
theorem dX3_standIn_5 : decode cX3_standIn 5 = .ok (.ifCond .eq 20, 3) := by decide +kernel
theorem dX3_standIn_8 : decode cX3_standIn 8 = .ok (.iload_n 2, 1) := by decide +kernel
theorem dX3_standIn_9 : decode cX3_standIn 9 = .ok (.iconst (-1), 1) := by decide +kernel
theorem dX3_standIn_10 : decode cX3_standIn 10 = .ok (.if_icmp .eq 11, 3) := by decide +kernel
theorem dX3_standIn_13 : decode cX3_standIn 13 = .ok (.aload_n 0, 1) := by decide +kernel
theorem dX3_standIn_14 : decode cX3_standIn 14 = .ok (.iload_n 2, 1) := by decide +kernel
theorem dX3_standIn_15 : decode cX3_standIn 15 = .ok (.invokevirtual 79, 3) := by decide +kernel
theorem dX3_standIn_18 : decode cX3_standIn 18 = .ok (.ifCond .eq 7, 3) := by decide +kernel
theorem dX3_standIn_21 : decode cX3_standIn 21 = .ok (.iconst 1, 1) := by decide +kernel
theorem dX3_standIn_22 : decode cX3_standIn 22 = .ok (.goto 4, 3) := by decide +kernel
theorem dX3_standIn_25 : decode cX3_standIn 25 = .ok (.iconst 0, 1) := by decide +kernel
theorem dX3_standIn_26 : decode cX3_standIn 26 = .ok (.istore_n 3, 1) := by decide +kernel
theorem dX3_standIn_27 : decode cX3_standIn 27 = .ok (.aload_n 0, 1) := by decide +kernel
theorem dX3_standIn_28 : decode cX3_standIn 28 = .ok (.iload_n 3, 1) := by decide +kernel
theorem dX3_standIn_29 : decode cX3_standIn 29 = .ok (.ifCond .ne 7, 3) := by decide +kernel
theorem dX3_standIn_32 : decode cX3_standIn 32 = .ok (.iconst 1, 1) := by decide +kernel
theorem dX3_standIn_33 : decode cX3_standIn 33 = .ok (.goto 24, 3) := by decide +kernel
theorem dX3_standIn_36 : decode cX3_standIn 36 = .ok (.iload_n 1, 1) := by decide +kernel
theorem dX3_standIn_37 : decode cX3_standIn 37 = .ok (.iload_n 2, 1) := by decide +kernel
theorem dX3_standIn_38 : decode cX3_standIn 38 = .ok (.if_icmp .ne 7, 3) := by decide +kernel
theorem dX3_standIn_41 : decode cX3_standIn 41 = .ok (.iconst 2, 1) := by decide +kernel
theorem dX3_standIn_42 : decode cX3_standIn 42 = .ok (.goto 15, 3) := by decide +kernel
theorem dX3_standIn_45 : decode cX3_standIn 45 = .ok (.aload_n 0, 1) := by decide +kernel
theorem dX3_standIn_46 : decode cX3_standIn 46 = .ok (.getfield 67, 3) := by decide +kernel
theorem dX3_standIn_49 : decode cX3_standIn 49 = .ok (.ifCond .eq 7, 3) := by decide +kernel
theorem dX3_standIn_52 : decode cX3_standIn 52 = .ok (.iconst 3, 1) := by decide +kernel
theorem dX3_standIn_53 : decode cX3_standIn 53 = .ok (.goto 4, 3) := by decide +kernel
theorem dX3_standIn_56 : decode cX3_standIn 56 = .ok (.iconst 0, 1) := by decide +kernel
theorem dX3_standIn_57 : decode cX3_standIn 57 = .ok (.invokevirtual 71, 3) := by decide +kernel
theorem dX3_standIn_60 : decode cX3_standIn 60 = .ok (.ifCond .ne 5, 3) := by decide +kernel
theorem dX3_standIn_63 : decode cX3_standIn 63 = .ok (.iconst 0, 1) := by decide +kernel
theorem dX3_standIn_64 : decode cX3_standIn 64 = .ok (.ireturn, 1) := by decide +kernel
theorem dX3_standIn_65 : decode cX3_standIn 65 = .ok (.aload_n 0, 1) := by decide +kernel
theorem dX3_standIn_66 : decode cX3_standIn 66 = .ok (.getfield 22, 3) := by decide +kernel
theorem dX3_standIn_69 : decode cX3_standIn 69 = .ok (.iload_n 1, 1) := by decide +kernel
theorem dX3_standIn_70 : decode cX3_standIn 70 = .ok (.iaload, 1) := by decide +kernel
theorem dX3_standIn_71 : decode cX3_standIn 71 = .ok (.istore 4, 2) := by decide +kernel
theorem dX3_standIn_73 : decode cX3_standIn 73 = .ok (.aload_n 0, 1) := by decide +kernel
theorem dX3_standIn_74 : decode cX3_standIn 74 = .ok (.getfield 22, 3) := by decide +kernel
theorem dX3_standIn_77 : decode cX3_standIn 77 = .ok (.iload_n 1, 1) := by decide +kernel
theorem dX3_standIn_78 : decode cX3_standIn 78 = .ok (.iload_n 2, 1) := by decide +kernel
theorem dX3_standIn_79 : decode cX3_standIn 79 = .ok (.iastore, 1) := by decide +kernel
theorem dX3_standIn_80 : decode cX3_standIn 80 = .ok (.iload 4, 2) := by decide +kernel
theorem dX3_standIn_82 : decode cX3_standIn 82 = .ok (.ireturn, 1) := by decide +kernel
set_option maxRecDepth 20000 in
theorem ggX3_hold_X3_isUnit : GoodIn wsX3_hold wsX3_isUnit := goodIn_r _ [7, 8, 9, 10, 6, 11, 17, 18, 19, 20, 21, 22, 23, 24, 25, 26, 27, 28, 29, 30, 31, 32, 33, 34, 35, 36, 37, 38, 39] (by decide +kernel) (by decide +kernel)
set_option maxRecDepth 20000 in
theorem gX3_hold_X3_isUnit : GoodIn wsX3_hold (wsV RX3 79 RX3 yX3_isUnit wsX3_isUnit) := goodIn_app (goodIn_of _ (by decide +kernel)) ggX3_hold_X3_isUnit
set_option maxRecDepth 20000 in
theorem ggX3_hold_X3_goes : GoodIn wsX3_hold wsX3_goes := goodIn_r _ [15, 16, 17, 18, 19, 20, 21, 22, 23, 24, 25, 26, 27, 28, 29, 30, 31, 32, 33, 34, 35, 36, 37, 38, 39] (by decide +kernel) (by decide +kernel)
set_option maxRecDepth 20000 in
theorem gX3_hold_X3_goes : GoodIn wsX3_hold (wsV RX3 71 RX3 yX3_goes wsX3_goes) := goodIn_app (goodIn_of _ (by decide +kernel)) ggX3_hold_X3_goes
theorem dX3_hold_0 : decode cX3_hold 0 = .ok (.aload_n 0, 1) := by decide +kernel
theorem dX3_hold_1 : decode cX3_hold 1 = .ok (.aload_n 0, 1) := by decide +kernel
theorem dX3_hold_2 : decode cX3_hold 2 = .ok (.iload_n 1, 1) := by decide +kernel
theorem dX3_hold_3 : decode cX3_hold 3 = .ok (.invokevirtual 79, 3) := by decide +kernel
theorem dX3_hold_6 : decode cX3_hold 6 = .ok (.ifCond .ne 7, 3) := by decide +kernel
theorem dX3_hold_9 : decode cX3_hold 9 = .ok (.iconst 1, 1) := by decide +kernel
theorem dX3_hold_10 : decode cX3_hold 10 = .ok (.goto 15, 3) := by decide +kernel
theorem dX3_hold_13 : decode cX3_hold 13 = .ok (.aload_n 0, 1) := by decide +kernel
theorem dX3_hold_14 : decode cX3_hold 14 = .ok (.getfield 67, 3) := by decide +kernel
theorem dX3_hold_17 : decode cX3_hold 17 = .ok (.ifCond .eq 7, 3) := by decide +kernel
theorem dX3_hold_20 : decode cX3_hold 20 = .ok (.iconst 2, 1) := by decide +kernel
theorem dX3_hold_21 : decode cX3_hold 21 = .ok (.goto 4, 3) := by decide +kernel
theorem dX3_hold_24 : decode cX3_hold 24 = .ok (.iconst 0, 1) := by decide +kernel
theorem dX3_hold_25 : decode cX3_hold 25 = .ok (.invokevirtual 71, 3) := by decide +kernel
theorem dX3_hold_28 : decode cX3_hold 28 = .ok (.ifCond .ne 5, 3) := by decide +kernel
theorem dX3_hold_31 : decode cX3_hold 31 = .ok (.iconst 0, 1) := by decide +kernel
theorem dX3_hold_32 : decode cX3_hold 32 = .ok (.ireturn, 1) := by decide +kernel
theorem dX3_hold_33 : decode cX3_hold 33 = .ok (.aload_n 0, 1) := by decide +kernel
theorem dX3_hold_34 : decode cX3_hold 34 = .ok (.getfield 25, 3) := by decide +kernel
theorem dX3_hold_37 : decode cX3_hold 37 = .ok (.iload_n 1, 1) := by decide +kernel
theorem dX3_hold_38 : decode cX3_hold 38 = .ok (.baload, 1) := by decide +kernel
theorem dX3_hold_39 : decode cX3_hold 39 = .ok (.istore_n 3, 1) := by decide +kernel
theorem dX3_hold_40 : decode cX3_hold 40 = .ok (.aload_n 0, 1) := by decide +kernel
theorem dX3_hold_41 : decode cX3_hold 41 = .ok (.getfield 25, 3) := by decide +kernel
theorem dX3_hold_44 : decode cX3_hold 44 = .ok (.iload_n 1, 1) := by decide +kernel
theorem dX3_hold_45 : decode cX3_hold 45 = .ok (.iload_n 2, 1) := by decide +kernel
theorem dX3_hold_46 : decode cX3_hold 46 = .ok (.bastore, 1) := by decide +kernel
theorem dX3_hold_47 : decode cX3_hold 47 = .ok (.iload_n 3, 1) := by decide +kernel
theorem dX3_hold_48 : decode cX3_hold 48 = .ok (.ireturn, 1) := by decide +kernel
set_option maxRecDepth 20000 in
theorem ggX3_setFaults_X3_isUnit : GoodIn wsX3_setFaults wsX3_isUnit := goodIn_r _ [6, 7, 8, 9, 5, 10, 16, 17, 18, 19, 20, 21, 22, 23, 24, 25, 26, 27, 28, 29, 30, 31, 32, 33, 34, 35, 36, 37, 38] (by decide +kernel) (by decide +kernel)
set_option maxRecDepth 20000 in
theorem gX3_setFaults_X3_isUnit : GoodIn wsX3_setFaults (wsV RX3 79 RX3 yX3_isUnit wsX3_isUnit) := goodIn_app (goodIn_of _ (by decide +kernel)) ggX3_setFaults_X3_isUnit
set_option maxRecDepth 20000 in
theorem ggX3_setFaults_X3_isIn : GoodIn wsX3_setFaults wsX3_isIn := goodIn_r _ [10] (by decide +kernel) (by decide +kernel)
set_option maxRecDepth 20000 in
theorem gX3_setFaults_X3_isIn : GoodIn wsX3_setFaults (va_wsS RX3 63 yX3_isIn wsX3_isIn) := goodIn_app (goodIn_of _ (by decide +kernel)) ggX3_setFaults_X3_isIn
set_option maxRecDepth 20000 in
theorem ggX3_setFaults_X3_goes : GoodIn wsX3_setFaults wsX3_goes := goodIn_r _ [14, 15, 16, 17, 18, 19, 20, 21, 22, 23, 24, 25, 26, 27, 28, 29, 30, 31, 32, 33, 34, 35, 36, 37, 38] (by decide +kernel) (by decide +kernel)
set_option maxRecDepth 20000 in
theorem gX3_setFaults_X3_goes : GoodIn wsX3_setFaults (wsV RX3 71 RX3 yX3_goes wsX3_goes) := goodIn_app (goodIn_of _ (by decide +kernel)) ggX3_setFaults_X3_goes
theorem dX3_setFaults_0 : decode cX3_setFaults 0 = .ok (.aload_n 0, 1) := by decide +kernel
theorem dX3_setFaults_1 : decode cX3_setFaults 1 = .ok (.aload_n 0, 1) := by decide +kernel
theorem dX3_setFaults_2 : decode cX3_setFaults 2 = .ok (.iload_n 1, 1) := by decide +kernel
theorem dX3_setFaults_3 : decode cX3_setFaults 3 = .ok (.invokevirtual 79, 3) := by decide +kernel
theorem dX3_setFaults_6 : decode cX3_setFaults 6 = .ok (.ifCond .ne 7, 3) := by decide +kernel
theorem dX3_setFaults_9 : decode cX3_setFaults 9 = .ok (.iconst 1, 1) := by decide +kernel
theorem dX3_setFaults_10 : decode cX3_setFaults 10 = .ok (.goto 18, 3) := by decide +kernel
theorem dX3_setFaults_13 : decode cX3_setFaults 13 = .ok (.iload_n 2, 1) := by decide +kernel
theorem dX3_setFaults_14 : decode cX3_setFaults 14 = .ok (.iconst 0, 1) := by decide +kernel
theorem dX3_setFaults_15 : decode cX3_setFaults 15 = .ok (.bipush 10, 2) := by decide +kernel
theorem dX3_setFaults_17 : decode cX3_setFaults 17 = .ok (.invokestatic 63, 3) := by decide +kernel
theorem dX3_setFaults_20 : decode cX3_setFaults 20 = .ok (.ifCond .eq 7, 3) := by decide +kernel
theorem dX3_setFaults_23 : decode cX3_setFaults 23 = .ok (.iconst 0, 1) := by decide +kernel
theorem dX3_setFaults_24 : decode cX3_setFaults 24 = .ok (.goto 4, 3) := by decide +kernel
theorem dX3_setFaults_27 : decode cX3_setFaults 27 = .ok (.iconst 2, 1) := by decide +kernel
theorem dX3_setFaults_28 : decode cX3_setFaults 28 = .ok (.invokevirtual 71, 3) := by decide +kernel
theorem dX3_setFaults_31 : decode cX3_setFaults 31 = .ok (.ifCond .ne 5, 3) := by decide +kernel
theorem dX3_setFaults_34 : decode cX3_setFaults 34 = .ok (.iconst 0, 1) := by decide +kernel
theorem dX3_setFaults_35 : decode cX3_setFaults 35 = .ok (.ireturn, 1) := by decide +kernel
theorem dX3_setFaults_36 : decode cX3_setFaults 36 = .ok (.aload_n 0, 1) := by decide +kernel
theorem dX3_setFaults_37 : decode cX3_setFaults 37 = .ok (.getfield 19, 3) := by decide +kernel
theorem dX3_setFaults_40 : decode cX3_setFaults 40 = .ok (.iload_n 1, 1) := by decide +kernel
theorem dX3_setFaults_41 : decode cX3_setFaults 41 = .ok (.iaload, 1) := by decide +kernel
theorem dX3_setFaults_42 : decode cX3_setFaults 42 = .ok (.istore_n 3, 1) := by decide +kernel
theorem dX3_setFaults_43 : decode cX3_setFaults 43 = .ok (.aload_n 0, 1) := by decide +kernel
theorem dX3_setFaults_44 : decode cX3_setFaults 44 = .ok (.getfield 19, 3) := by decide +kernel
theorem dX3_setFaults_47 : decode cX3_setFaults 47 = .ok (.iload_n 1, 1) := by decide +kernel
theorem dX3_setFaults_48 : decode cX3_setFaults 48 = .ok (.iload_n 2, 1) := by decide +kernel
theorem dX3_setFaults_49 : decode cX3_setFaults 49 = .ok (.iastore, 1) := by decide +kernel
theorem dX3_setFaults_50 : decode cX3_setFaults 50 = .ok (.iload_n 3, 1) := by decide +kernel
theorem dX3_setFaults_51 : decode cX3_setFaults 51 = .ok (.ireturn, 1) := by decide +kernel
set_option maxRecDepth 20000 in
theorem ggX3_setTime_X3_isUnit : GoodIn wsX3_setTime wsX3_isUnit := goodIn_r _ [6, 7, 8, 9, 5, 10, 16, 17, 18, 19, 20, 21, 22, 23, 24, 25, 26, 27, 28, 29, 30, 31, 32, 33, 34, 35, 36, 37, 38] (by decide +kernel) (by decide +kernel)
set_option maxRecDepth 20000 in
theorem gX3_setTime_X3_isUnit : GoodIn wsX3_setTime (wsV RX3 79 RX3 yX3_isUnit wsX3_isUnit) := goodIn_app (goodIn_of _ (by decide +kernel)) ggX3_setTime_X3_isUnit
set_option maxRecDepth 20000 in
theorem ggX3_setTime_X3_isIn : GoodIn wsX3_setTime wsX3_isIn := goodIn_r _ [10] (by decide +kernel) (by decide +kernel)
set_option maxRecDepth 20000 in
theorem gX3_setTime_X3_isIn : GoodIn wsX3_setTime (va_wsS RX3 63 yX3_isIn wsX3_isIn) := goodIn_app (goodIn_of _ (by decide +kernel)) ggX3_setTime_X3_isIn
set_option maxRecDepth 20000 in
theorem ggX3_setTime_X3_goes : GoodIn wsX3_setTime wsX3_goes := goodIn_r _ [14, 15, 16, 17, 18, 19, 20, 21, 22, 23, 24, 25, 26, 27, 28, 29, 30, 31, 32, 33, 34, 35, 36, 37, 38] (by decide +kernel) (by decide +kernel)
set_option maxRecDepth 20000 in
theorem gX3_setTime_X3_goes : GoodIn wsX3_setTime (wsV RX3 71 RX3 yX3_goes wsX3_goes) := goodIn_app (goodIn_of _ (by decide +kernel)) ggX3_setTime_X3_goes
theorem dX3_setTime_0 : decode cX3_setTime 0 = .ok (.aload_n 0, 1) := by decide +kernel
theorem dX3_setTime_1 : decode cX3_setTime 1 = .ok (.aload_n 0, 1) := by decide +kernel
theorem dX3_setTime_2 : decode cX3_setTime 2 = .ok (.iload_n 1, 1) := by decide +kernel
theorem dX3_setTime_3 : decode cX3_setTime 3 = .ok (.invokevirtual 79, 3) := by decide +kernel
theorem dX3_setTime_6 : decode cX3_setTime 6 = .ok (.ifCond .ne 7, 3) := by decide +kernel
theorem dX3_setTime_9 : decode cX3_setTime 9 = .ok (.iconst 1, 1) := by decide +kernel
theorem dX3_setTime_10 : decode cX3_setTime 10 = .ok (.goto 18, 3) := by decide +kernel
theorem dX3_setTime_13 : decode cX3_setTime 13 = .ok (.iload_n 2, 1) := by decide +kernel
theorem dX3_setTime_14 : decode cX3_setTime 14 = .ok (.iconst 1, 1) := by decide +kernel
theorem dX3_setTime_15 : decode cX3_setTime 15 = .ok (.bipush 100, 2) := by decide +kernel
theorem dX3_setTime_17 : decode cX3_setTime 17 = .ok (.invokestatic 63, 3) := by decide +kernel
theorem dX3_setTime_20 : decode cX3_setTime 20 = .ok (.ifCond .eq 7, 3) := by decide +kernel
theorem dX3_setTime_23 : decode cX3_setTime 23 = .ok (.iconst 0, 1) := by decide +kernel
theorem dX3_setTime_24 : decode cX3_setTime 24 = .ok (.goto 4, 3) := by decide +kernel
theorem dX3_setTime_27 : decode cX3_setTime 27 = .ok (.iconst 2, 1) := by decide +kernel
theorem dX3_setTime_28 : decode cX3_setTime 28 = .ok (.invokevirtual 71, 3) := by decide +kernel
theorem dX3_setTime_31 : decode cX3_setTime 31 = .ok (.ifCond .ne 5, 3) := by decide +kernel
theorem dX3_setTime_34 : decode cX3_setTime 34 = .ok (.iconst 0, 1) := by decide +kernel
theorem dX3_setTime_35 : decode cX3_setTime 35 = .ok (.ireturn, 1) := by decide +kernel
theorem dX3_setTime_36 : decode cX3_setTime 36 = .ok (.aload_n 0, 1) := by decide +kernel
theorem dX3_setTime_37 : decode cX3_setTime 37 = .ok (.getfield 7, 3) := by decide +kernel
theorem dX3_setTime_40 : decode cX3_setTime 40 = .ok (.iload_n 1, 1) := by decide +kernel
theorem dX3_setTime_41 : decode cX3_setTime 41 = .ok (.iaload, 1) := by decide +kernel
theorem dX3_setTime_42 : decode cX3_setTime 42 = .ok (.istore_n 3, 1) := by decide +kernel
theorem dX3_setTime_43 : decode cX3_setTime 43 = .ok (.aload_n 0, 1) := by decide +kernel
theorem dX3_setTime_44 : decode cX3_setTime 44 = .ok (.getfield 7, 3) := by decide +kernel
theorem dX3_setTime_47 : decode cX3_setTime 47 = .ok (.iload_n 1, 1) := by decide +kernel
theorem dX3_setTime_48 : decode cX3_setTime 48 = .ok (.iload_n 2, 1) := by decide +kernel
theorem dX3_setTime_49 : decode cX3_setTime 49 = .ok (.iastore, 1) := by decide +kernel
theorem dX3_setTime_50 : decode cX3_setTime 50 = .ok (.iload_n 3, 1) := by decide +kernel
theorem dX3_setTime_51 : decode cX3_setTime 51 = .ok (.ireturn, 1) := by decide +kernel
theorem dX3_units_0 : decode cX3_units 0 = .ok (.aload_n 0, 1) := by decide +kernel
theorem dX3_units_1 : decode cX3_units 1 = .ok (.iconst 0, 1) := by decide +kernel
theorem dX3_units_2 : decode cX3_units 2 = .ok (.putfield 56, 3) := by decide +kernel
theorem dX3_units_5 : decode cX3_units 5 = .ok (.aload_n 0, 1) := by decide +kernel
theorem dX3_units_6 : decode cX3_units 6 = .ok (.getfield 60, 3) := by decide +kernel
theorem dX3_units_9 : decode cX3_units 9 = .ok (.ireturn, 1) := by decide +kernel
set_option maxRecDepth 20000 in
theorem ggX3_asks_X3_isUnit : GoodIn wsX3_asks wsX3_isUnit := goodIn_r _ [5, 6, 7, 8, 4, 9, 15, 16, 17, 18, 19, 20, 21, 22, 23, 24, 25, 26, 27, 28, 29, 30, 31, 32, 33, 34, 35, 36, 37] (by decide +kernel) (by decide +kernel)
set_option maxRecDepth 20000 in
theorem gX3_asks_X3_isUnit : GoodIn wsX3_asks (wsV RX3 79 RX3 yX3_isUnit wsX3_isUnit) := goodIn_app (goodIn_of _ (by decide +kernel)) ggX3_asks_X3_isUnit
set_option maxRecDepth 20000 in
theorem ggX3_asks_X3_goes : GoodIn wsX3_asks wsX3_goes := goodIn_r _ [13, 14, 15, 16, 17, 18, 19, 20, 21, 22, 23, 24, 25, 26, 27, 28, 29, 30, 31, 32, 33, 34, 35, 36, 37] (by decide +kernel) (by decide +kernel)
set_option maxRecDepth 20000 in
theorem gX3_asks_X3_goes : GoodIn wsX3_asks (wsV RX3 71 RX3 yX3_goes wsX3_goes) := goodIn_app (goodIn_of _ (by decide +kernel)) ggX3_asks_X3_goes
theorem dX3_asks_0 : decode cX3_asks 0 = .ok (.aload_n 0, 1) := by decide +kernel
theorem dX3_asks_1 : decode cX3_asks 1 = .ok (.aload_n 0, 1) := by decide +kernel
theorem dX3_asks_2 : decode cX3_asks 2 = .ok (.iload_n 1, 1) := by decide +kernel
theorem dX3_asks_3 : decode cX3_asks 3 = .ok (.invokevirtual 79, 3) := by decide +kernel
theorem dX3_asks_6 : decode cX3_asks 6 = .ok (.ifCond .eq 7, 3) := by decide +kernel
theorem dX3_asks_9 : decode cX3_asks 9 = .ok (.iconst 0, 1) := by decide +kernel
theorem dX3_asks_10 : decode cX3_asks 10 = .ok (.goto 4, 3) := by decide +kernel
theorem dX3_asks_13 : decode cX3_asks 13 = .ok (.iconst 1, 1) := by decide +kernel
theorem dX3_asks_14 : decode cX3_asks 14 = .ok (.invokevirtual 71, 3) := by decide +kernel
theorem dX3_asks_17 : decode cX3_asks 17 = .ok (.ireturn, 1) := by decide +kernel
set_option maxRecDepth 20000 in
theorem ggX3_learned_X3_asks : GoodIn wsX3_learned wsX3_asks := goodIn_r _ [6, 7, 8, 9, 5, 10, 11, 12, 13, 14, 15, 16, 17, 18, 19, 20, 21, 22, 23, 24, 25, 26, 27, 28, 29, 30, 31, 32, 33, 34, 35, 36, 37, 38, 39, 40, 41, 42] (by decide +kernel) (by decide +kernel)
set_option maxRecDepth 20000 in
theorem gX3_learned_X3_asks : GoodIn wsX3_learned (wsV RX3 89 RX3 yX3_asks wsX3_asks) := goodIn_app (goodIn_of _ (by decide +kernel)) ggX3_learned_X3_asks
theorem dX3_learned_0 : decode cX3_learned 0 = .ok (.aload_n 0, 1) := by decide +kernel
theorem dX3_learned_1 : decode cX3_learned 1 = .ok (.iload_n 1, 1) := by decide +kernel
theorem dX3_learned_2 : decode cX3_learned 2 = .ok (.invokevirtual 89, 3) := by decide +kernel
theorem dX3_learned_5 : decode cX3_learned 5 = .ok (.ifCond .eq 12, 3) := by decide +kernel
theorem dX3_learned_8 : decode cX3_learned 8 = .ok (.aload_n 0, 1) := by decide +kernel
theorem dX3_learned_9 : decode cX3_learned 9 = .ok (.getfield 13, 3) := by decide +kernel
theorem dX3_learned_12 : decode cX3_learned 12 = .ok (.iload_n 1, 1) := by decide +kernel
theorem dX3_learned_13 : decode cX3_learned 13 = .ok (.iaload, 1) := by decide +kernel
theorem dX3_learned_14 : decode cX3_learned 14 = .ok (.goto 4, 3) := by decide +kernel
theorem dX3_learned_17 : decode cX3_learned 17 = .ok (.iconst 0, 1) := by decide +kernel
theorem dX3_learned_18 : decode cX3_learned 18 = .ok (.ireturn, 1) := by decide +kernel
set_option maxRecDepth 20000 in
theorem ggX3_faults_X3_asks : GoodIn wsX3_faults wsX3_asks := goodIn_r _ [6, 7, 8, 9, 5, 10, 11, 12, 13, 14, 15, 16, 17, 18, 19, 20, 21, 22, 23, 24, 25, 26, 27, 28, 29, 30, 31, 32, 33, 34, 35, 36, 37, 38, 39, 40, 41, 42] (by decide +kernel) (by decide +kernel)
set_option maxRecDepth 20000 in
theorem gX3_faults_X3_asks : GoodIn wsX3_faults (wsV RX3 89 RX3 yX3_asks wsX3_asks) := goodIn_app (goodIn_of _ (by decide +kernel)) ggX3_faults_X3_asks
theorem dX3_faults_0 : decode cX3_faults 0 = .ok (.aload_n 0, 1) := by decide +kernel
theorem dX3_faults_1 : decode cX3_faults 1 = .ok (.iload_n 1, 1) := by decide +kernel
theorem dX3_faults_2 : decode cX3_faults 2 = .ok (.invokevirtual 89, 3) := by decide +kernel
theorem dX3_faults_5 : decode cX3_faults 5 = .ok (.ifCond .eq 12, 3) := by decide +kernel
theorem dX3_faults_8 : decode cX3_faults 8 = .ok (.aload_n 0, 1) := by decide +kernel
theorem dX3_faults_9 : decode cX3_faults 9 = .ok (.getfield 19, 3) := by decide +kernel
theorem dX3_faults_12 : decode cX3_faults 12 = .ok (.iload_n 1, 1) := by decide +kernel
theorem dX3_faults_13 : decode cX3_faults 13 = .ok (.iaload, 1) := by decide +kernel
theorem dX3_faults_14 : decode cX3_faults 14 = .ok (.goto 4, 3) := by decide +kernel
theorem dX3_faults_17 : decode cX3_faults 17 = .ok (.iconst 0, 1) := by decide +kernel
theorem dX3_faults_18 : decode cX3_faults 18 = .ok (.ireturn, 1) := by decide +kernel
set_option maxRecDepth 20000 in
theorem ggX3_weakest_X3_edge : GoodIn wsX3_weakest wsX3_edge := goodIn_r _ [8] (by decide +kernel) (by decide +kernel)
set_option maxRecDepth 20000 in
theorem gX3_weakest_X3_edge : GoodIn wsX3_weakest (va_wsS RX3 75 yX3_edge wsX3_edge) := goodIn_app (goodIn_of _ (by decide +kernel)) ggX3_weakest_X3_edge
set_option maxRecDepth 20000 in
theorem ggX3_weakest_X3_reaches : GoodIn wsX3_weakest wsX3_reaches := goodIn_r _ [12, 1, 13, 14, 2, 3, 5, 6, 7, 8, 15, 16, 17, 18, 19, 20, 21, 22, 23, 24, 25, 26, 27, 28, 29, 30, 31, 32, 33, 34, 35, 36, 37] (by decide +kernel) (by decide +kernel)
set_option maxRecDepth 20000 in
theorem gX3_weakest_X3_reaches : GoodIn wsX3_weakest (wsV RX3 82 RX3 yX3_reaches wsX3_reaches) := goodIn_app (goodIn_of _ (by decide +kernel)) ggX3_weakest_X3_reaches
theorem dX3_weakest_0 : decode cX3_weakest 0 = .ok (.iconst (-1), 1) := by decide +kernel
theorem dX3_weakest_1 : decode cX3_weakest 1 = .ok (.istore_n 1, 1) := by decide +kernel
theorem dX3_weakest_2 : decode cX3_weakest 2 = .ok (.iconst 0, 1) := by decide +kernel
theorem dX3_weakest_3 : decode cX3_weakest 3 = .ok (.istore_n 2, 1) := by decide +kernel
theorem dX3_weakest_4 : decode cX3_weakest 4 = .ok (.iload_n 2, 1) := by decide +kernel
theorem dX3_weakest_5 : decode cX3_weakest 5 = .ok (.aload_n 0, 1) := by decide +kernel
theorem dX3_weakest_6 : decode cX3_weakest 6 = .ok (.getfield 60, 3) := by decide +kernel
theorem dX3_weakest_9 : decode cX3_weakest 9 = .ok (.aload_n 0, 1) := by decide +kernel
theorem dX3_weakest_10 : decode cX3_weakest 10 = .ok (.getfield 60, 3) := by decide +kernel
theorem dX3_weakest_13 : decode cX3_weakest 13 = .ok (.imul, 1) := by decide +kernel
theorem dX3_weakest_14 : decode cX3_weakest 14 = .ok (.if_icmp .ge 131, 3) := by decide +kernel
theorem dX3_weakest_17 : decode cX3_weakest 17 = .ok (.iload_n 2, 1) := by decide +kernel
theorem dX3_weakest_18 : decode cX3_weakest 18 = .ok (.aload_n 0, 1) := by decide +kernel
theorem dX3_weakest_19 : decode cX3_weakest 19 = .ok (.getfield 60, 3) := by decide +kernel
theorem dX3_weakest_22 : decode cX3_weakest 22 = .ok (.idiv, 1) := by decide +kernel
theorem dX3_weakest_23 : decode cX3_weakest 23 = .ok (.iload_n 2, 1) := by decide +kernel
theorem dX3_weakest_24 : decode cX3_weakest 24 = .ok (.aload_n 0, 1) := by decide +kernel
theorem dX3_weakest_25 : decode cX3_weakest 25 = .ok (.getfield 60, 3) := by decide +kernel
theorem dX3_weakest_28 : decode cX3_weakest 28 = .ok (.irem, 1) := by decide +kernel
theorem dX3_weakest_29 : decode cX3_weakest 29 = .ok (.invokestatic 75, 3) := by decide +kernel
theorem dX3_weakest_32 : decode cX3_weakest 32 = .ok (.istore_n 3, 1) := by decide +kernel
theorem dX3_weakest_33 : decode cX3_weakest 33 = .ok (.aload_n 0, 1) := by decide +kernel
theorem dX3_weakest_34 : decode cX3_weakest 34 = .ok (.getfield 32, 3) := by decide +kernel
theorem dX3_weakest_37 : decode cX3_weakest 37 = .ok (.iload_n 3, 1) := by decide +kernel
theorem dX3_weakest_38 : decode cX3_weakest 38 = .ok (.iaload, 1) := by decide +kernel
theorem dX3_weakest_39 : decode cX3_weakest 39 = .ok (.ifCond .le 66, 3) := by decide +kernel
theorem dX3_weakest_42 : decode cX3_weakest 42 = .ok (.aload_n 0, 1) := by decide +kernel
theorem dX3_weakest_43 : decode cX3_weakest 43 = .ok (.getfield 38, 3) := by decide +kernel
theorem dX3_weakest_46 : decode cX3_weakest 46 = .ok (.iload_n 3, 1) := by decide +kernel
theorem dX3_weakest_47 : decode cX3_weakest 47 = .ok (.baload, 1) := by decide +kernel
theorem dX3_weakest_48 : decode cX3_weakest 48 = .ok (.ifCond .ne 57, 3) := by decide +kernel
theorem dX3_weakest_51 : decode cX3_weakest 51 = .ok (.iload_n 1, 1) := by decide +kernel
theorem dX3_weakest_52 : decode cX3_weakest 52 = .ok (.iconst (-1), 1) := by decide +kernel
theorem dX3_weakest_53 : decode cX3_weakest 53 = .ok (.if_icmp .eq 48, 3) := by decide +kernel
theorem dX3_weakest_56 : decode cX3_weakest 56 = .ok (.aload_n 0, 1) := by decide +kernel
theorem dX3_weakest_57 : decode cX3_weakest 57 = .ok (.getfield 32, 3) := by decide +kernel
theorem dX3_weakest_60 : decode cX3_weakest 60 = .ok (.iload_n 3, 1) := by decide +kernel
theorem dX3_weakest_61 : decode cX3_weakest 61 = .ok (.iaload, 1) := by decide +kernel
theorem dX3_weakest_62 : decode cX3_weakest 62 = .ok (.aload_n 0, 1) := by decide +kernel
theorem dX3_weakest_63 : decode cX3_weakest 63 = .ok (.getfield 32, 3) := by decide +kernel
theorem dX3_weakest_66 : decode cX3_weakest 66 = .ok (.iload_n 1, 1) := by decide +kernel
theorem dX3_weakest_67 : decode cX3_weakest 67 = .ok (.iaload, 1) := by decide +kernel
theorem dX3_weakest_68 : decode cX3_weakest 68 = .ok (.if_icmp .lt 33, 3) := by decide +kernel
theorem dX3_weakest_71 : decode cX3_weakest 71 = .ok (.aload_n 0, 1) := by decide +kernel
theorem dX3_weakest_72 : decode cX3_weakest 72 = .ok (.getfield 32, 3) := by decide +kernel
theorem dX3_weakest_75 : decode cX3_weakest 75 = .ok (.iload_n 3, 1) := by decide +kernel
theorem dX3_weakest_76 : decode cX3_weakest 76 = .ok (.iaload, 1) := by decide +kernel
theorem dX3_weakest_77 : decode cX3_weakest 77 = .ok (.aload_n 0, 1) := by decide +kernel
theorem dX3_weakest_78 : decode cX3_weakest 78 = .ok (.getfield 32, 3) := by decide +kernel
theorem dX3_weakest_81 : decode cX3_weakest 81 = .ok (.iload_n 1, 1) := by decide +kernel
theorem dX3_weakest_82 : decode cX3_weakest 82 = .ok (.iaload, 1) := by decide +kernel
theorem dX3_weakest_83 : decode cX3_weakest 83 = .ok (.if_icmp .ne 22, 3) := by decide +kernel
theorem dX3_weakest_86 : decode cX3_weakest 86 = .ok (.aload_n 0, 1) := by decide +kernel
theorem dX3_weakest_87 : decode cX3_weakest 87 = .ok (.getfield 35, 3) := by decide +kernel
theorem dX3_weakest_90 : decode cX3_weakest 90 = .ok (.iload_n 3, 1) := by decide +kernel
theorem dX3_weakest_91 : decode cX3_weakest 91 = .ok (.iaload, 1) := by decide +kernel
theorem dX3_weakest_92 : decode cX3_weakest 92 = .ok (.aload_n 0, 1) := by decide +kernel
theorem dX3_weakest_93 : decode cX3_weakest 93 = .ok (.getfield 35, 3) := by decide +kernel
theorem dX3_weakest_96 : decode cX3_weakest 96 = .ok (.iload_n 1, 1) := by decide +kernel
theorem dX3_weakest_97 : decode cX3_weakest 97 = .ok (.iaload, 1) := by decide +kernel
theorem dX3_weakest_98 : decode cX3_weakest 98 = .ok (.if_icmp .ge 7, 3) := by decide +kernel
theorem dX3_weakest_101 : decode cX3_weakest 101 = .ok (.iconst 1, 1) := by decide +kernel
theorem dX3_weakest_102 : decode cX3_weakest 102 = .ok (.goto 4, 3) := by decide +kernel
theorem dX3_weakest_105 : decode cX3_weakest 105 = .ok (.iconst 0, 1) := by decide +kernel
theorem dX3_weakest_106 : decode cX3_weakest 106 = .ok (.istore 4, 2) := by decide +kernel
theorem dX3_weakest_108 : decode cX3_weakest 108 = .ok (.iload 4, 2) := by decide +kernel
theorem dX3_weakest_110 : decode cX3_weakest 110 = .ok (.ifCond .eq 27, 3) := by decide +kernel
theorem dX3_weakest_113 : decode cX3_weakest 113 = .ok (.aload_n 0, 1) := by decide +kernel
theorem dX3_weakest_114 : decode cX3_weakest 114 = .ok (.iload_n 2, 1) := by decide +kernel
theorem dX3_weakest_115 : decode cX3_weakest 115 = .ok (.aload_n 0, 1) := by decide +kernel
theorem dX3_weakest_116 : decode cX3_weakest 116 = .ok (.getfield 60, 3) := by decide +kernel
theorem dX3_weakest_119 : decode cX3_weakest 119 = .ok (.irem, 1) := by decide +kernel
theorem dX3_weakest_120 : decode cX3_weakest 120 = .ok (.iload_n 2, 1) := by decide +kernel
theorem dX3_weakest_121 : decode cX3_weakest 121 = .ok (.aload_n 0, 1) := by decide +kernel
theorem dX3_weakest_122 : decode cX3_weakest 122 = .ok (.getfield 60, 3) := by decide +kernel
theorem dX3_weakest_125 : decode cX3_weakest 125 = .ok (.idiv, 1) := by decide +kernel
theorem dX3_weakest_126 : decode cX3_weakest 126 = .ok (.iconst 1, 1) := by decide +kernel
theorem dX3_weakest_127 : decode cX3_weakest 127 = .ok (.invokevirtual 82, 3) := by decide +kernel
theorem dX3_weakest_130 : decode cX3_weakest 130 = .ok (.ifCond .eq 7, 3) := by decide +kernel
theorem dX3_weakest_133 : decode cX3_weakest 133 = .ok (.iload_n 3, 1) := by decide +kernel
theorem dX3_weakest_134 : decode cX3_weakest 134 = .ok (.goto 4, 3) := by decide +kernel
theorem dX3_weakest_137 : decode cX3_weakest 137 = .ok (.iload_n 1, 1) := by decide +kernel
theorem dX3_weakest_138 : decode cX3_weakest 138 = .ok (.istore_n 1, 1) := by decide +kernel
theorem dX3_weakest_139 : decode cX3_weakest 139 = .ok (.iinc 2 1, 3) := by decide +kernel
theorem dX3_weakest_142 : decode cX3_weakest 142 = .ok (.goto (-138), 3) := by decide +kernel
theorem dX3_weakest_145 : decode cX3_weakest 145 = .ok (.iload_n 1, 1) := by decide +kernel
theorem dX3_weakest_146 : decode cX3_weakest 146 = .ok (.ireturn, 1) := by decide +kernel
set_option maxRecDepth 20000 in
theorem ggX3_begin_X3_isIn : GoodIn wsX3_begin wsX3_isIn := goodIn_r _ [17] (by decide +kernel) (by decide +kernel)
set_option maxRecDepth 20000 in
theorem gX3_begin_X3_isIn : GoodIn wsX3_begin (va_wsS RX3 63 yX3_isIn wsX3_isIn) := goodIn_app (goodIn_of _ (by decide +kernel)) ggX3_begin_X3_isIn
set_option maxRecDepth 20000 in
theorem ggX3_begin_X3_goes : GoodIn wsX3_begin wsX3_goes := goodIn_r _ [21, 22, 42, 43, 44, 45, 46, 47, 48, 49, 50, 51, 52, 53, 54, 55, 56, 57, 58, 59, 60, 61, 62, 63, 64] (by decide +kernel) (by decide +kernel)
set_option maxRecDepth 20000 in
theorem gX3_begin_X3_goes : GoodIn wsX3_begin (wsV RX3 71 RX3 yX3_goes wsX3_goes) := goodIn_app (goodIn_of _ (by decide +kernel)) ggX3_begin_X3_goes
set_option maxRecDepth 20000 in
theorem ggX3_begin_X3_weakest : GoodIn wsX3_begin wsX3_weakest := goodIn_r _ [26, 6, 27, 2, 28, 29, 30, 16, 31, 32, 33, 34, 35, 36, 37, 42, 43, 44, 45, 46, 47, 48, 49, 50, 51, 52, 53, 54, 55, 56, 57, 58, 59, 60, 61, 62, 63, 64] (by decide +kernel) (by decide +kernel)
set_option maxRecDepth 20000 in
theorem gX3_begin_X3_weakest : GoodIn wsX3_begin (wsV RX3 92 RX3 yX3_weakest wsX3_weakest) := goodIn_app (goodIn_of _ (by decide +kernel)) ggX3_begin_X3_weakest
set_option maxRecDepth 20000 in
theorem ggX3_begin_X3_raised : GoodIn wsX3_begin wsX3_raised := goodIn_r _ [41, 6, 9, 11, 7, 5, 13, 42, 43, 44, 45, 46, 47, 48, 49, 50, 51, 52, 53, 54, 55, 56, 57, 58, 59, 60, 61, 62, 63, 64] (by decide +kernel) (by decide +kernel)
set_option maxRecDepth 20000 in
theorem gX3_begin_X3_raised : GoodIn wsX3_begin (wsV RX3 108 RX3 yX3_raised wsX3_raised) := goodIn_app (goodIn_of _ (by decide +kernel)) ggX3_begin_X3_raised
theorem dX3_begin_0 : decode cX3_begin 0 = .ok (.aload_n 0, 1) := by decide +kernel
theorem dX3_begin_1 : decode cX3_begin 1 = .ok (.iload_n 1, 1) := by decide +kernel
theorem dX3_begin_2 : decode cX3_begin 2 = .ok (.iconst 1, 1) := by decide +kernel
theorem dX3_begin_3 : decode cX3_begin 3 = .ok (.bipush 20, 2) := by decide +kernel
theorem dX3_begin_5 : decode cX3_begin 5 = .ok (.invokestatic 63, 3) := by decide +kernel
theorem dX3_begin_8 : decode cX3_begin 8 = .ok (.ifCond .ne 7, 3) := by decide +kernel
theorem dX3_begin_11 : decode cX3_begin 11 = .ok (.iconst 1, 1) := by decide +kernel
theorem dX3_begin_12 : decode cX3_begin 12 = .ok (.goto 15, 3) := by decide +kernel
theorem dX3_begin_15 : decode cX3_begin 15 = .ok (.aload_n 0, 1) := by decide +kernel
theorem dX3_begin_16 : decode cX3_begin 16 = .ok (.getfield 67, 3) := by decide +kernel
theorem dX3_begin_19 : decode cX3_begin 19 = .ok (.ifCond .eq 7, 3) := by decide +kernel
theorem dX3_begin_22 : decode cX3_begin 22 = .ok (.iconst 2, 1) := by decide +kernel
theorem dX3_begin_23 : decode cX3_begin 23 = .ok (.goto 4, 3) := by decide +kernel
theorem dX3_begin_26 : decode cX3_begin 26 = .ok (.iconst 0, 1) := by decide +kernel
theorem dX3_begin_27 : decode cX3_begin 27 = .ok (.invokevirtual 71, 3) := by decide +kernel
theorem dX3_begin_30 : decode cX3_begin 30 = .ok (.ifCond .ne 5, 3) := by decide +kernel
theorem dX3_begin_33 : decode cX3_begin 33 = .ok (.iconst 0, 1) := by decide +kernel
theorem dX3_begin_34 : decode cX3_begin 34 = .ok (.ireturn, 1) := by decide +kernel
theorem dX3_begin_35 : decode cX3_begin 35 = .ok (.iconst 0, 1) := by decide +kernel
theorem dX3_begin_36 : decode cX3_begin 36 = .ok (.istore_n 2, 1) := by decide +kernel
theorem dX3_begin_37 : decode cX3_begin 37 = .ok (.iconst 0, 1) := by decide +kernel
theorem dX3_begin_38 : decode cX3_begin 38 = .ok (.istore_n 3, 1) := by decide +kernel
theorem dX3_begin_39 : decode cX3_begin 39 = .ok (.iload_n 3, 1) := by decide +kernel
theorem dX3_begin_40 : decode cX3_begin 40 = .ok (.sipush 400, 3) := by decide +kernel
theorem dX3_begin_43 : decode cX3_begin 43 = .ok (.if_icmp .ge 16, 3) := by decide +kernel
theorem dX3_begin_46 : decode cX3_begin 46 = .ok (.aload_n 0, 1) := by decide +kernel
theorem dX3_begin_47 : decode cX3_begin 47 = .ok (.getfield 38, 3) := by decide +kernel
theorem dX3_begin_50 : decode cX3_begin 50 = .ok (.iload_n 3, 1) := by decide +kernel
theorem dX3_begin_51 : decode cX3_begin 51 = .ok (.iconst 0, 1) := by decide +kernel
theorem dX3_begin_52 : decode cX3_begin 52 = .ok (.bastore, 1) := by decide +kernel
theorem dX3_begin_53 : decode cX3_begin 53 = .ok (.iinc 3 1, 3) := by decide +kernel
theorem dX3_begin_56 : decode cX3_begin 56 = .ok (.goto (-17), 3) := by decide +kernel
theorem dX3_begin_59 : decode cX3_begin 59 = .ok (.aload_n 0, 1) := by decide +kernel
theorem dX3_begin_60 : decode cX3_begin 60 = .ok (.invokevirtual 92, 3) := by decide +kernel
theorem dX3_begin_63 : decode cX3_begin 63 = .ok (.istore_n 3, 1) := by decide +kernel
theorem dX3_begin_64 : decode cX3_begin 64 = .ok (.iload_n 3, 1) := by decide +kernel
theorem dX3_begin_65 : decode cX3_begin 65 = .ok (.iconst (-1), 1) := by decide +kernel
theorem dX3_begin_66 : decode cX3_begin 66 = .ok (.if_icmp .eq 21, 3) := by decide +kernel
theorem dX3_begin_69 : decode cX3_begin 69 = .ok (.aload_n 0, 1) := by decide +kernel
theorem dX3_begin_70 : decode cX3_begin 70 = .ok (.getfield 38, 3) := by decide +kernel
theorem dX3_begin_73 : decode cX3_begin 73 = .ok (.iload_n 3, 1) := by decide +kernel
theorem dX3_begin_74 : decode cX3_begin 74 = .ok (.iconst 1, 1) := by decide +kernel
theorem dX3_begin_75 : decode cX3_begin 75 = .ok (.bastore, 1) := by decide +kernel
theorem dX3_begin_76 : decode cX3_begin 76 = .ok (.iinc 2 1, 3) := by decide +kernel
theorem dX3_begin_79 : decode cX3_begin 79 = .ok (.aload_n 0, 1) := by decide +kernel
theorem dX3_begin_80 : decode cX3_begin 80 = .ok (.invokevirtual 92, 3) := by decide +kernel
theorem dX3_begin_83 : decode cX3_begin 83 = .ok (.istore_n 3, 1) := by decide +kernel
theorem dX3_begin_84 : decode cX3_begin 84 = .ok (.goto (-20), 3) := by decide +kernel
theorem dX3_begin_87 : decode cX3_begin 87 = .ok (.aload_n 0, 1) := by decide +kernel
theorem dX3_begin_88 : decode cX3_begin 88 = .ok (.iconst 1, 1) := by decide +kernel
theorem dX3_begin_89 : decode cX3_begin 89 = .ok (.putfield 96, 3) := by decide +kernel
theorem dX3_begin_92 : decode cX3_begin 92 = .ok (.aload_n 0, 1) := by decide +kernel
theorem dX3_begin_93 : decode cX3_begin 93 = .ok (.iconst 1, 1) := by decide +kernel
theorem dX3_begin_94 : decode cX3_begin 94 = .ok (.putfield 67, 3) := by decide +kernel
theorem dX3_begin_97 : decode cX3_begin 97 = .ok (.aload_n 0, 1) := by decide +kernel
theorem dX3_begin_98 : decode cX3_begin 98 = .ok (.iload_n 1, 1) := by decide +kernel
theorem dX3_begin_99 : decode cX3_begin 99 = .ok (.putfield 99, 3) := by decide +kernel
theorem dX3_begin_102 : decode cX3_begin 102 = .ok (.aload_n 0, 1) := by decide +kernel
theorem dX3_begin_103 : decode cX3_begin 103 = .ok (.iconst 0, 1) := by decide +kernel
theorem dX3_begin_104 : decode cX3_begin 104 = .ok (.putfield 102, 3) := by decide +kernel
theorem dX3_begin_107 : decode cX3_begin 107 = .ok (.iconst 0, 1) := by decide +kernel
theorem dX3_begin_108 : decode cX3_begin 108 = .ok (.istore_n 3, 1) := by decide +kernel
theorem dX3_begin_109 : decode cX3_begin 109 = .ok (.iload_n 3, 1) := by decide +kernel
theorem dX3_begin_110 : decode cX3_begin 110 = .ok (.aload_n 0, 1) := by decide +kernel
theorem dX3_begin_111 : decode cX3_begin 111 = .ok (.getfield 60, 3) := by decide +kernel
theorem dX3_begin_114 : decode cX3_begin 114 = .ok (.if_icmp .ge 83, 3) := by decide +kernel
theorem dX3_begin_117 : decode cX3_begin 117 = .ok (.aload_n 0, 1) := by decide +kernel
theorem dX3_begin_118 : decode cX3_begin 118 = .ok (.getfield 41, 3) := by decide +kernel
theorem dX3_begin_121 : decode cX3_begin 121 = .ok (.iload_n 3, 1) := by decide +kernel
theorem dX3_begin_122 : decode cX3_begin 122 = .ok (.aload_n 0, 1) := by decide +kernel
theorem dX3_begin_123 : decode cX3_begin 123 = .ok (.getfield 25, 3) := by decide +kernel
theorem dX3_begin_126 : decode cX3_begin 126 = .ok (.iload_n 3, 1) := by decide +kernel
theorem dX3_begin_127 : decode cX3_begin 127 = .ok (.baload, 1) := by decide +kernel
theorem dX3_begin_128 : decode cX3_begin 128 = .ok (.ifCond .eq 7, 3) := by decide +kernel
theorem dX3_begin_131 : decode cX3_begin 131 = .ok (.iconst 4, 1) := by decide +kernel
theorem dX3_begin_132 : decode cX3_begin 132 = .ok (.goto 4, 3) := by decide +kernel
theorem dX3_begin_135 : decode cX3_begin 135 = .ok (.iconst 0, 1) := by decide +kernel
theorem dX3_begin_136 : decode cX3_begin 136 = .ok (.iastore, 1) := by decide +kernel
theorem dX3_begin_137 : decode cX3_begin 137 = .ok (.aload_n 0, 1) := by decide +kernel
theorem dX3_begin_138 : decode cX3_begin 138 = .ok (.getfield 44, 3) := by decide +kernel
theorem dX3_begin_141 : decode cX3_begin 141 = .ok (.iload_n 3, 1) := by decide +kernel
theorem dX3_begin_142 : decode cX3_begin 142 = .ok (.iconst 0, 1) := by decide +kernel
theorem dX3_begin_143 : decode cX3_begin 143 = .ok (.iastore, 1) := by decide +kernel
theorem dX3_begin_144 : decode cX3_begin 144 = .ok (.aload_n 0, 1) := by decide +kernel
theorem dX3_begin_145 : decode cX3_begin 145 = .ok (.getfield 47, 3) := by decide +kernel
theorem dX3_begin_148 : decode cX3_begin 148 = .ok (.iload_n 3, 1) := by decide +kernel
theorem dX3_begin_149 : decode cX3_begin 149 = .ok (.iconst 0, 1) := by decide +kernel
theorem dX3_begin_150 : decode cX3_begin 150 = .ok (.iastore, 1) := by decide +kernel
theorem dX3_begin_151 : decode cX3_begin 151 = .ok (.aload_n 0, 1) := by decide +kernel
theorem dX3_begin_152 : decode cX3_begin 152 = .ok (.getfield 50, 3) := by decide +kernel
theorem dX3_begin_155 : decode cX3_begin 155 = .ok (.iload_n 3, 1) := by decide +kernel
theorem dX3_begin_156 : decode cX3_begin 156 = .ok (.aload_n 0, 1) := by decide +kernel
theorem dX3_begin_157 : decode cX3_begin 157 = .ok (.getfield 13, 3) := by decide +kernel
theorem dX3_begin_160 : decode cX3_begin 160 = .ok (.iload_n 3, 1) := by decide +kernel
theorem dX3_begin_161 : decode cX3_begin 161 = .ok (.iaload, 1) := by decide +kernel
theorem dX3_begin_162 : decode cX3_begin 162 = .ok (.iastore, 1) := by decide +kernel
theorem dX3_begin_163 : decode cX3_begin 163 = .ok (.aload_n 0, 1) := by decide +kernel
theorem dX3_begin_164 : decode cX3_begin 164 = .ok (.dup, 1) := by decide +kernel
theorem dX3_begin_165 : decode cX3_begin 165 = .ok (.getfield 102, 3) := by decide +kernel
theorem dX3_begin_168 : decode cX3_begin 168 = .ok (.aload_n 0, 1) := by decide +kernel
theorem dX3_begin_169 : decode cX3_begin 169 = .ok (.getfield 25, 3) := by decide +kernel
theorem dX3_begin_172 : decode cX3_begin 172 = .ok (.iload_n 3, 1) := by decide +kernel
theorem dX3_begin_173 : decode cX3_begin 173 = .ok (.baload, 1) := by decide +kernel
theorem dX3_begin_174 : decode cX3_begin 174 = .ok (.ifCond .eq 7, 3) := by decide +kernel
theorem dX3_begin_177 : decode cX3_begin 177 = .ok (.iconst 0, 1) := by decide +kernel
theorem dX3_begin_178 : decode cX3_begin 178 = .ok (.goto 9, 3) := by decide +kernel
theorem dX3_begin_181 : decode cX3_begin 181 = .ok (.aload_n 0, 1) := by decide +kernel
theorem dX3_begin_182 : decode cX3_begin 182 = .ok (.getfield 13, 3) := by decide +kernel
theorem dX3_begin_185 : decode cX3_begin 185 = .ok (.iload_n 3, 1) := by decide +kernel
theorem dX3_begin_186 : decode cX3_begin 186 = .ok (.iaload, 1) := by decide +kernel
theorem dX3_begin_187 : decode cX3_begin 187 = .ok (.iadd, 1) := by decide +kernel
theorem dX3_begin_188 : decode cX3_begin 188 = .ok (.putfield 102, 3) := by decide +kernel
theorem dX3_begin_191 : decode cX3_begin 191 = .ok (.iinc 3 1, 3) := by decide +kernel
theorem dX3_begin_194 : decode cX3_begin 194 = .ok (.goto (-85), 3) := by decide +kernel
theorem dX3_begin_197 : decode cX3_begin 197 = .ok (.aload_n 0, 1) := by decide +kernel
theorem dX3_begin_198 : decode cX3_begin 198 = .ok (.iconst 0, 1) := by decide +kernel
theorem dX3_begin_199 : decode cX3_begin 199 = .ok (.putfield 105, 3) := by decide +kernel
theorem dX3_begin_202 : decode cX3_begin 202 = .ok (.aload_n 0, 1) := by decide +kernel
theorem dX3_begin_203 : decode cX3_begin 203 = .ok (.aload_n 0, 1) := by decide +kernel
theorem dX3_begin_204 : decode cX3_begin 204 = .ok (.invokevirtual 108, 3) := by decide +kernel
theorem dX3_begin_207 : decode cX3_begin 207 = .ok (.putfield 105, 3) := by decide +kernel
theorem dX3_begin_210 : decode cX3_begin 210 = .ok (.iload_n 2, 1) := by decide +kernel
theorem dX3_begin_211 : decode cX3_begin 211 = .ok (.ireturn, 1) := by decide +kernel
theorem dX3_isOff_0 : decode cX3_isOff 0 = .ok (.aload_n 0, 1) := by decide +kernel
theorem dX3_isOff_1 : decode cX3_isOff 1 = .ok (.getfield 41, 3) := by decide +kernel
theorem dX3_isOff_4 : decode cX3_isOff 4 = .ok (.iload_n 1, 1) := by decide +kernel
theorem dX3_isOff_5 : decode cX3_isOff 5 = .ok (.iaload, 1) := by decide +kernel
theorem dX3_isOff_6 : decode cX3_isOff 6 = .ok (.iconst 3, 1) := by decide +kernel
theorem dX3_isOff_7 : decode cX3_isOff 7 = .ok (.if_icmp .eq 13, 3) := by decide +kernel
theorem dX3_isOff_10 : decode cX3_isOff 10 = .ok (.aload_n 0, 1) := by decide +kernel
theorem dX3_isOff_11 : decode cX3_isOff 11 = .ok (.getfield 41, 3) := by decide +kernel
theorem dX3_isOff_14 : decode cX3_isOff 14 = .ok (.iload_n 1, 1) := by decide +kernel
theorem dX3_isOff_15 : decode cX3_isOff 15 = .ok (.iaload, 1) := by decide +kernel
theorem dX3_isOff_16 : decode cX3_isOff 16 = .ok (.iconst 4, 1) := by decide +kernel
theorem dX3_isOff_17 : decode cX3_isOff 17 = .ok (.if_icmp .ne 7, 3) := by decide +kernel
theorem dX3_isOff_20 : decode cX3_isOff 20 = .ok (.iconst 1, 1) := by decide +kernel
theorem dX3_isOff_21 : decode cX3_isOff 21 = .ok (.goto 4, 3) := by decide +kernel
theorem dX3_isOff_24 : decode cX3_isOff 24 = .ok (.iconst 0, 1) := by decide +kernel
theorem dX3_isOff_25 : decode cX3_isOff 25 = .ok (.ireturn, 1) := by decide +kernel
set_option maxRecDepth 20000 in
theorem ggX3_isMet_X3_isOff : GoodIn wsX3_isMet wsX3_isOff := goodIn_r _ [7, 2, 8, 9, 10, 11, 12, 13, 14, 15, 16, 17, 18, 19, 20, 21, 22, 23, 24, 25, 26, 27, 28, 29, 30] (by decide +kernel) (by decide +kernel)
set_option maxRecDepth 20000 in
theorem gX3_isMet_X3_isOff : GoodIn wsX3_isMet (wsV RX3 111 RX3 yX3_isOff wsX3_isOff) := goodIn_app (goodIn_of _ (by decide +kernel)) ggX3_isMet_X3_isOff
theorem dX3_isMet_0 : decode cX3_isMet 0 = .ok (.aload_n 0, 1) := by decide +kernel
theorem dX3_isMet_1 : decode cX3_isMet 1 = .ok (.getfield 22, 3) := by decide +kernel
theorem dX3_isMet_4 : decode cX3_isMet 4 = .ok (.iload_n 1, 1) := by decide +kernel
theorem dX3_isMet_5 : decode cX3_isMet 5 = .ok (.iaload, 1) := by decide +kernel
theorem dX3_isMet_6 : decode cX3_isMet 6 = .ok (.istore_n 2, 1) := by decide +kernel
theorem dX3_isMet_7 : decode cX3_isMet 7 = .ok (.aload_n 0, 1) := by decide +kernel
theorem dX3_isMet_8 : decode cX3_isMet 8 = .ok (.getfield 41, 3) := by decide +kernel
theorem dX3_isMet_11 : decode cX3_isMet 11 = .ok (.iload_n 1, 1) := by decide +kernel
theorem dX3_isMet_12 : decode cX3_isMet 12 = .ok (.iaload, 1) := by decide +kernel
theorem dX3_isMet_13 : decode cX3_isMet 13 = .ok (.iconst 2, 1) := by decide +kernel
theorem dX3_isMet_14 : decode cX3_isMet 14 = .ok (.if_icmp .eq 26, 3) := by decide +kernel
theorem dX3_isMet_17 : decode cX3_isMet 17 = .ok (.aload_n 0, 1) := by decide +kernel
theorem dX3_isMet_18 : decode cX3_isMet 18 = .ok (.iload_n 1, 1) := by decide +kernel
theorem dX3_isMet_19 : decode cX3_isMet 19 = .ok (.invokevirtual 111, 3) := by decide +kernel
theorem dX3_isMet_22 : decode cX3_isMet 22 = .ok (.ifCond .eq 22, 3) := by decide +kernel
theorem dX3_isMet_25 : decode cX3_isMet 25 = .ok (.iload_n 2, 1) := by decide +kernel
theorem dX3_isMet_26 : decode cX3_isMet 26 = .ok (.iconst (-1), 1) := by decide +kernel
theorem dX3_isMet_27 : decode cX3_isMet 27 = .ok (.if_icmp .eq 17, 3) := by decide +kernel
theorem dX3_isMet_30 : decode cX3_isMet 30 = .ok (.aload_n 0, 1) := by decide +kernel
theorem dX3_isMet_31 : decode cX3_isMet 31 = .ok (.getfield 41, 3) := by decide +kernel
theorem dX3_isMet_34 : decode cX3_isMet 34 = .ok (.iload_n 2, 1) := by decide +kernel
theorem dX3_isMet_35 : decode cX3_isMet 35 = .ok (.iaload, 1) := by decide +kernel
theorem dX3_isMet_36 : decode cX3_isMet 36 = .ok (.iconst 2, 1) := by decide +kernel
theorem dX3_isMet_37 : decode cX3_isMet 37 = .ok (.if_icmp .ne 7, 3) := by decide +kernel
theorem dX3_isMet_40 : decode cX3_isMet 40 = .ok (.iconst 1, 1) := by decide +kernel
theorem dX3_isMet_41 : decode cX3_isMet 41 = .ok (.goto 4, 3) := by decide +kernel
theorem dX3_isMet_44 : decode cX3_isMet 44 = .ok (.iconst 0, 1) := by decide +kernel
theorem dX3_isMet_45 : decode cX3_isMet 45 = .ok (.ireturn, 1) := by decide +kernel
set_option maxRecDepth 20000 in
theorem ggX3_isLost_X3_isOff : GoodIn wsX3_isLost wsX3_isOff := goodIn_r _ [6, 7, 8, 9, 10, 11, 12, 13, 14, 15, 16, 17, 18, 19, 20, 21, 22, 23, 24, 25, 26, 27, 28, 29, 30] (by decide +kernel) (by decide +kernel)
set_option maxRecDepth 20000 in
theorem gX3_isLost_X3_isOff : GoodIn wsX3_isLost (wsV RX3 111 RX3 yX3_isOff wsX3_isOff) := goodIn_app (goodIn_of _ (by decide +kernel)) ggX3_isLost_X3_isOff
theorem dX3_isLost_0 : decode cX3_isLost 0 = .ok (.aload_n 0, 1) := by decide +kernel
theorem dX3_isLost_1 : decode cX3_isLost 1 = .ok (.getfield 22, 3) := by decide +kernel
theorem dX3_isLost_4 : decode cX3_isLost 4 = .ok (.iload_n 1, 1) := by decide +kernel
theorem dX3_isLost_5 : decode cX3_isLost 5 = .ok (.iaload, 1) := by decide +kernel
theorem dX3_isLost_6 : decode cX3_isLost 6 = .ok (.istore_n 2, 1) := by decide +kernel
theorem dX3_isLost_7 : decode cX3_isLost 7 = .ok (.aload_n 0, 1) := by decide +kernel
theorem dX3_isLost_8 : decode cX3_isLost 8 = .ok (.iload_n 1, 1) := by decide +kernel
theorem dX3_isLost_9 : decode cX3_isLost 9 = .ok (.invokevirtual 111, 3) := by decide +kernel
theorem dX3_isLost_12 : decode cX3_isLost 12 = .ok (.ifCond .eq 20, 3) := by decide +kernel
theorem dX3_isLost_15 : decode cX3_isLost 15 = .ok (.iload_n 2, 1) := by decide +kernel
theorem dX3_isLost_16 : decode cX3_isLost 16 = .ok (.iconst (-1), 1) := by decide +kernel
theorem dX3_isLost_17 : decode cX3_isLost 17 = .ok (.if_icmp .eq 11, 3) := by decide +kernel
theorem dX3_isLost_20 : decode cX3_isLost 20 = .ok (.aload_n 0, 1) := by decide +kernel
theorem dX3_isLost_21 : decode cX3_isLost 21 = .ok (.iload_n 2, 1) := by decide +kernel
theorem dX3_isLost_22 : decode cX3_isLost 22 = .ok (.invokevirtual 111, 3) := by decide +kernel
theorem dX3_isLost_25 : decode cX3_isLost 25 = .ok (.ifCond .eq 7, 3) := by decide +kernel
theorem dX3_isLost_28 : decode cX3_isLost 28 = .ok (.iconst 1, 1) := by decide +kernel
theorem dX3_isLost_29 : decode cX3_isLost 29 = .ok (.goto 4, 3) := by decide +kernel
theorem dX3_isLost_32 : decode cX3_isLost 32 = .ok (.iconst 0, 1) := by decide +kernel
theorem dX3_isLost_33 : decode cX3_isLost 33 = .ok (.ireturn, 1) := by decide +kernel
set_option maxRecDepth 20000 in
theorem ggX3_waits_X3_edge : GoodIn wsX3_waits wsX3_edge := goodIn_r _ [8] (by decide +kernel) (by decide +kernel)
set_option maxRecDepth 20000 in
theorem gX3_waits_X3_edge : GoodIn wsX3_waits (va_wsS RX3 75 yX3_edge wsX3_edge) := goodIn_app (goodIn_of _ (by decide +kernel)) ggX3_waits_X3_edge
set_option maxRecDepth 20000 in
theorem ggX3_waits_X3_isOff : GoodIn wsX3_waits wsX3_isOff := goodIn_r _ [12, 3, 22, 23, 24, 25, 26, 27, 28, 29, 30, 31, 32, 33, 34, 35, 36, 37, 38, 39, 40, 41, 42, 43, 44] (by decide +kernel) (by decide +kernel)
set_option maxRecDepth 20000 in
theorem gX3_waits_X3_isOff : GoodIn wsX3_waits (wsV RX3 111 RX3 yX3_isOff wsX3_isOff) := goodIn_app (goodIn_of _ (by decide +kernel)) ggX3_waits_X3_isOff
set_option maxRecDepth 20000 in
theorem ggX3_waits_X3_isMet : GoodIn wsX3_waits wsX3_isMet := goodIn_r _ [16, 17, 3, 9, 10, 11, 7, 12, 22, 23, 24, 25, 26, 27, 28, 29, 30, 31, 32, 33, 34, 35, 36, 37, 38, 39, 40, 41, 42, 43, 44] (by decide +kernel) (by decide +kernel)
set_option maxRecDepth 20000 in
theorem gX3_waits_X3_isMet : GoodIn wsX3_waits (wsV RX3 114 RX3 yX3_isMet wsX3_isMet) := goodIn_app (goodIn_of _ (by decide +kernel)) ggX3_waits_X3_isMet
set_option maxRecDepth 20000 in
theorem ggX3_waits_X3_isLost : GoodIn wsX3_waits wsX3_isLost := goodIn_r _ [21, 17, 9, 10, 11, 7, 12, 3, 22, 23, 24, 25, 26, 27, 28, 29, 30, 31, 32, 33, 34, 35, 36, 37, 38, 39, 40, 41, 42, 43, 44] (by decide +kernel) (by decide +kernel)
set_option maxRecDepth 20000 in
theorem gX3_waits_X3_isLost : GoodIn wsX3_waits (wsV RX3 117 RX3 yX3_isLost wsX3_isLost) := goodIn_app (goodIn_of _ (by decide +kernel)) ggX3_waits_X3_isLost
theorem dX3_waits_0 : decode cX3_waits 0 = .ok (.aload_n 0, 1) := by decide +kernel
theorem dX3_waits_1 : decode cX3_waits 1 = .ok (.getfield 32, 3) := by decide +kernel
theorem dX3_waits_4 : decode cX3_waits 4 = .ok (.iload_n 1, 1) := by decide +kernel
theorem dX3_waits_5 : decode cX3_waits 5 = .ok (.iload_n 2, 1) := by decide +kernel
theorem dX3_waits_6 : decode cX3_waits 6 = .ok (.invokestatic 75, 3) := by decide +kernel
theorem dX3_waits_9 : decode cX3_waits 9 = .ok (.iaload, 1) := by decide +kernel
theorem dX3_waits_10 : decode cX3_waits 10 = .ok (.ifCond .le 20, 3) := by decide +kernel
theorem dX3_waits_13 : decode cX3_waits 13 = .ok (.aload_n 0, 1) := by decide +kernel
theorem dX3_waits_14 : decode cX3_waits 14 = .ok (.getfield 38, 3) := by decide +kernel
theorem dX3_waits_17 : decode cX3_waits 17 = .ok (.iload_n 1, 1) := by decide +kernel
theorem dX3_waits_18 : decode cX3_waits 18 = .ok (.iload_n 2, 1) := by decide +kernel
theorem dX3_waits_19 : decode cX3_waits 19 = .ok (.invokestatic 75, 3) := by decide +kernel
theorem dX3_waits_22 : decode cX3_waits 22 = .ok (.baload, 1) := by decide +kernel
theorem dX3_waits_23 : decode cX3_waits 23 = .ok (.ifCond .ne 7, 3) := by decide +kernel
theorem dX3_waits_26 : decode cX3_waits 26 = .ok (.iconst 1, 1) := by decide +kernel
theorem dX3_waits_27 : decode cX3_waits 27 = .ok (.goto 4, 3) := by decide +kernel
theorem dX3_waits_30 : decode cX3_waits 30 = .ok (.iconst 0, 1) := by decide +kernel
theorem dX3_waits_31 : decode cX3_waits 31 = .ok (.istore_n 3, 1) := by decide +kernel
theorem dX3_waits_32 : decode cX3_waits 32 = .ok (.aload_n 0, 1) := by decide +kernel
theorem dX3_waits_33 : decode cX3_waits 33 = .ok (.getfield 41, 3) := by decide +kernel
theorem dX3_waits_36 : decode cX3_waits 36 = .ok (.iload_n 2, 1) := by decide +kernel
theorem dX3_waits_37 : decode cX3_waits 37 = .ok (.iaload, 1) := by decide +kernel
theorem dX3_waits_38 : decode cX3_waits 38 = .ok (.iconst 2, 1) := by decide +kernel
theorem dX3_waits_39 : decode cX3_waits 39 = .ok (.if_icmp .eq 11, 3) := by decide +kernel
theorem dX3_waits_42 : decode cX3_waits 42 = .ok (.aload_n 0, 1) := by decide +kernel
theorem dX3_waits_43 : decode cX3_waits 43 = .ok (.iload_n 2, 1) := by decide +kernel
theorem dX3_waits_44 : decode cX3_waits 44 = .ok (.invokevirtual 111, 3) := by decide +kernel
theorem dX3_waits_47 : decode cX3_waits 47 = .ok (.ifCond .eq 7, 3) := by decide +kernel
theorem dX3_waits_50 : decode cX3_waits 50 = .ok (.iconst 1, 1) := by decide +kernel
theorem dX3_waits_51 : decode cX3_waits 51 = .ok (.goto 4, 3) := by decide +kernel
theorem dX3_waits_54 : decode cX3_waits 54 = .ok (.iconst 0, 1) := by decide +kernel
theorem dX3_waits_55 : decode cX3_waits 55 = .ok (.istore 4, 2) := by decide +kernel
theorem dX3_waits_57 : decode cX3_waits 57 = .ok (.aload_n 0, 1) := by decide +kernel
theorem dX3_waits_58 : decode cX3_waits 58 = .ok (.getfield 29, 3) := by decide +kernel
theorem dX3_waits_61 : decode cX3_waits 61 = .ok (.iload_n 1, 1) := by decide +kernel
theorem dX3_waits_62 : decode cX3_waits 62 = .ok (.iload_n 2, 1) := by decide +kernel
theorem dX3_waits_63 : decode cX3_waits 63 = .ok (.invokestatic 75, 3) := by decide +kernel
theorem dX3_waits_66 : decode cX3_waits 66 = .ok (.baload, 1) := by decide +kernel
theorem dX3_waits_67 : decode cX3_waits 67 = .ok (.ifCond .eq 19, 3) := by decide +kernel
theorem dX3_waits_70 : decode cX3_waits 70 = .ok (.aload_n 0, 1) := by decide +kernel
theorem dX3_waits_71 : decode cX3_waits 71 = .ok (.iload_n 2, 1) := by decide +kernel
theorem dX3_waits_72 : decode cX3_waits 72 = .ok (.invokevirtual 114, 3) := by decide +kernel
theorem dX3_waits_75 : decode cX3_waits 75 = .ok (.ifCond .ne 11, 3) := by decide +kernel
theorem dX3_waits_78 : decode cX3_waits 78 = .ok (.aload_n 0, 1) := by decide +kernel
theorem dX3_waits_79 : decode cX3_waits 79 = .ok (.iload_n 2, 1) := by decide +kernel
theorem dX3_waits_80 : decode cX3_waits 80 = .ok (.invokevirtual 117, 3) := by decide +kernel
theorem dX3_waits_83 : decode cX3_waits 83 = .ok (.ifCond .eq 12, 3) := by decide +kernel
theorem dX3_waits_86 : decode cX3_waits 86 = .ok (.iload_n 3, 1) := by decide +kernel
theorem dX3_waits_87 : decode cX3_waits 87 = .ok (.ifCond .eq 12, 3) := by decide +kernel
theorem dX3_waits_90 : decode cX3_waits 90 = .ok (.iload 4, 2) := by decide +kernel
theorem dX3_waits_92 : decode cX3_waits 92 = .ok (.ifCond .ne 7, 3) := by decide +kernel
theorem dX3_waits_95 : decode cX3_waits 95 = .ok (.iconst 1, 1) := by decide +kernel
theorem dX3_waits_96 : decode cX3_waits 96 = .ok (.goto 4, 3) := by decide +kernel
theorem dX3_waits_99 : decode cX3_waits 99 = .ok (.iconst 0, 1) := by decide +kernel
theorem dX3_waits_100 : decode cX3_waits 100 = .ok (.ireturn, 1) := by decide +kernel
theorem dX3_starting_0 : decode cX3_starting 0 = .ok (.iconst 0, 1) := by decide +kernel
theorem dX3_starting_1 : decode cX3_starting 1 = .ok (.istore_n 1, 1) := by decide +kernel
theorem dX3_starting_2 : decode cX3_starting 2 = .ok (.iconst 0, 1) := by decide +kernel
theorem dX3_starting_3 : decode cX3_starting 3 = .ok (.istore_n 2, 1) := by decide +kernel
theorem dX3_starting_4 : decode cX3_starting 4 = .ok (.iload_n 2, 1) := by decide +kernel
theorem dX3_starting_5 : decode cX3_starting 5 = .ok (.aload_n 0, 1) := by decide +kernel
theorem dX3_starting_6 : decode cX3_starting 6 = .ok (.getfield 60, 3) := by decide +kernel
theorem dX3_starting_9 : decode cX3_starting 9 = .ok (.if_icmp .ge 27, 3) := by decide +kernel
theorem dX3_starting_12 : decode cX3_starting 12 = .ok (.iload_n 1, 1) := by decide +kernel
theorem dX3_starting_13 : decode cX3_starting 13 = .ok (.aload_n 0, 1) := by decide +kernel
theorem dX3_starting_14 : decode cX3_starting 14 = .ok (.getfield 41, 3) := by decide +kernel
theorem dX3_starting_17 : decode cX3_starting 17 = .ok (.iload_n 2, 1) := by decide +kernel
theorem dX3_starting_18 : decode cX3_starting 18 = .ok (.iaload, 1) := by decide +kernel
theorem dX3_starting_19 : decode cX3_starting 19 = .ok (.iconst 1, 1) := by decide +kernel
theorem dX3_starting_20 : decode cX3_starting 20 = .ok (.if_icmp .ne 7, 3) := by decide +kernel
theorem dX3_starting_23 : decode cX3_starting 23 = .ok (.iconst 1, 1) := by decide +kernel
theorem dX3_starting_24 : decode cX3_starting 24 = .ok (.goto 4, 3) := by decide +kernel
theorem dX3_starting_27 : decode cX3_starting 27 = .ok (.iconst 0, 1) := by decide +kernel
theorem dX3_starting_28 : decode cX3_starting 28 = .ok (.iadd, 1) := by decide +kernel
theorem dX3_starting_29 : decode cX3_starting 29 = .ok (.istore_n 1, 1) := by decide +kernel
theorem dX3_starting_30 : decode cX3_starting 30 = .ok (.iinc 2 1, 3) := by decide +kernel
theorem dX3_starting_33 : decode cX3_starting 33 = .ok (.goto (-29), 3) := by decide +kernel
theorem dX3_starting_36 : decode cX3_starting 36 = .ok (.iload_n 1, 1) := by decide +kernel
theorem dX3_starting_37 : decode cX3_starting 37 = .ok (.ireturn, 1) := by decide +kernel
theorem dX3_ends_0 : decode cX3_ends 0 = .ok (.aload_n 0, 1) := by decide +kernel
theorem dX3_ends_1 : decode cX3_ends 1 = .ok (.getfield 19, 3) := by decide +kernel
theorem dX3_ends_4 : decode cX3_ends 4 = .ok (.iload_n 1, 1) := by decide +kernel
theorem dX3_ends_5 : decode cX3_ends 5 = .ok (.iaload, 1) := by decide +kernel
theorem dX3_ends_6 : decode cX3_ends 6 = .ok (.ifCond .ne 58, 3) := by decide +kernel
theorem dX3_ends_9 : decode cX3_ends 9 = .ok (.aload_n 0, 1) := by decide +kernel
theorem dX3_ends_10 : decode cX3_ends 10 = .ok (.getfield 41, 3) := by decide +kernel
theorem dX3_ends_13 : decode cX3_ends 13 = .ok (.iload_n 1, 1) := by decide +kernel
theorem dX3_ends_14 : decode cX3_ends 14 = .ok (.iconst 2, 1) := by decide +kernel
theorem dX3_ends_15 : decode cX3_ends 15 = .ok (.iastore, 1) := by decide +kernel
theorem dX3_ends_16 : decode cX3_ends 16 = .ok (.aload_n 0, 1) := by decide +kernel
theorem dX3_ends_17 : decode cX3_ends 17 = .ok (.getfield 13, 3) := by decide +kernel
theorem dX3_ends_20 : decode cX3_ends 20 = .ok (.iload_n 1, 1) := by decide +kernel
theorem dX3_ends_21 : decode cX3_ends 21 = .ok (.aload_n 0, 1) := by decide +kernel
theorem dX3_ends_22 : decode cX3_ends 22 = .ok (.getfield 13, 3) := by decide +kernel
theorem dX3_ends_25 : decode cX3_ends 25 = .ok (.iload_n 1, 1) := by decide +kernel
theorem dX3_ends_26 : decode cX3_ends 26 = .ok (.iaload, 1) := by decide +kernel
theorem dX3_ends_27 : decode cX3_ends 27 = .ok (.aload_n 0, 1) := by decide +kernel
theorem dX3_ends_28 : decode cX3_ends 28 = .ok (.getfield 7, 3) := by decide +kernel
theorem dX3_ends_31 : decode cX3_ends 31 = .ok (.iload_n 1, 1) := by decide +kernel
theorem dX3_ends_32 : decode cX3_ends 32 = .ok (.iaload, 1) := by decide +kernel
theorem dX3_ends_33 : decode cX3_ends 33 = .ok (.iadd, 1) := by decide +kernel
theorem dX3_ends_34 : decode cX3_ends 34 = .ok (.iconst 2, 1) := by decide +kernel
theorem dX3_ends_35 : decode cX3_ends 35 = .ok (.idiv, 1) := by decide +kernel
theorem dX3_ends_36 : decode cX3_ends 36 = .ok (.iastore, 1) := by decide +kernel
theorem dX3_ends_37 : decode cX3_ends 37 = .ok (.aload_n 0, 1) := by decide +kernel
theorem dX3_ends_38 : decode cX3_ends 38 = .ok (.getfield 13, 3) := by decide +kernel
theorem dX3_ends_41 : decode cX3_ends 41 = .ok (.iload_n 1, 1) := by decide +kernel
theorem dX3_ends_42 : decode cX3_ends 42 = .ok (.aload_n 0, 1) := by decide +kernel
theorem dX3_ends_43 : decode cX3_ends 43 = .ok (.getfield 13, 3) := by decide +kernel
theorem dX3_ends_46 : decode cX3_ends 46 = .ok (.iload_n 1, 1) := by decide +kernel
theorem dX3_ends_47 : decode cX3_ends 47 = .ok (.iaload, 1) := by decide +kernel
theorem dX3_ends_48 : decode cX3_ends 48 = .ok (.iconst 1, 1) := by decide +kernel
theorem dX3_ends_49 : decode cX3_ends 49 = .ok (.if_icmp .ge 7, 3) := by decide +kernel
theorem dX3_ends_52 : decode cX3_ends 52 = .ok (.iconst 1, 1) := by decide +kernel
theorem dX3_ends_53 : decode cX3_ends 53 = .ok (.goto 9, 3) := by decide +kernel
theorem dX3_ends_56 : decode cX3_ends 56 = .ok (.aload_n 0, 1) := by decide +kernel
theorem dX3_ends_57 : decode cX3_ends 57 = .ok (.getfield 13, 3) := by decide +kernel
theorem dX3_ends_60 : decode cX3_ends 60 = .ok (.iload_n 1, 1) := by decide +kernel
theorem dX3_ends_61 : decode cX3_ends 61 = .ok (.iaload, 1) := by decide +kernel
theorem dX3_ends_62 : decode cX3_ends 62 = .ok (.iastore, 1) := by decide +kernel
theorem dX3_ends_63 : decode cX3_ends 63 = .ok (.return_, 1) := by decide +kernel
theorem dX3_ends_64 : decode cX3_ends 64 = .ok (.aload_n 0, 1) := by decide +kernel
theorem dX3_ends_65 : decode cX3_ends 65 = .ok (.getfield 19, 3) := by decide +kernel
theorem dX3_ends_68 : decode cX3_ends 68 = .ok (.iload_n 1, 1) := by decide +kernel
theorem dX3_ends_69 : decode cX3_ends 69 = .ok (.dup2, 1) := by decide +kernel
theorem dX3_ends_70 : decode cX3_ends 70 = .ok (.iaload, 1) := by decide +kernel
theorem dX3_ends_71 : decode cX3_ends 71 = .ok (.iconst 1, 1) := by decide +kernel
theorem dX3_ends_72 : decode cX3_ends 72 = .ok (.isub, 1) := by decide +kernel
theorem dX3_ends_73 : decode cX3_ends 73 = .ok (.iastore, 1) := by decide +kernel
theorem dX3_ends_74 : decode cX3_ends 74 = .ok (.aload_n 0, 1) := by decide +kernel
theorem dX3_ends_75 : decode cX3_ends 75 = .ok (.getfield 47, 3) := by decide +kernel
theorem dX3_ends_78 : decode cX3_ends 78 = .ok (.iload_n 1, 1) := by decide +kernel
theorem dX3_ends_79 : decode cX3_ends 79 = .ok (.iaload, 1) := by decide +kernel
theorem dX3_ends_80 : decode cX3_ends 80 = .ok (.aload_n 0, 1) := by decide +kernel
theorem dX3_ends_81 : decode cX3_ends 81 = .ok (.getfield 16, 3) := by decide +kernel
theorem dX3_ends_84 : decode cX3_ends 84 = .ok (.iload_n 1, 1) := by decide +kernel
theorem dX3_ends_85 : decode cX3_ends 85 = .ok (.iaload, 1) := by decide +kernel
theorem dX3_ends_86 : decode cX3_ends 86 = .ok (.if_icmp .ge 7, 3) := by decide +kernel
theorem dX3_ends_89 : decode cX3_ends 89 = .ok (.iconst 1, 1) := by decide +kernel
theorem dX3_ends_90 : decode cX3_ends 90 = .ok (.goto 4, 3) := by decide +kernel
theorem dX3_ends_93 : decode cX3_ends 93 = .ok (.iconst 0, 1) := by decide +kernel
theorem dX3_ends_94 : decode cX3_ends 94 = .ok (.istore_n 2, 1) := by decide +kernel
theorem dX3_ends_95 : decode cX3_ends 95 = .ok (.aload_n 0, 1) := by decide +kernel
theorem dX3_ends_96 : decode cX3_ends 96 = .ok (.getfield 41, 3) := by decide +kernel
theorem dX3_ends_99 : decode cX3_ends 99 = .ok (.iload_n 1, 1) := by decide +kernel
theorem dX3_ends_100 : decode cX3_ends 100 = .ok (.iload_n 2, 1) := by decide +kernel
theorem dX3_ends_101 : decode cX3_ends 101 = .ok (.ifCond .eq 7, 3) := by decide +kernel
theorem dX3_ends_104 : decode cX3_ends 104 = .ok (.iconst 0, 1) := by decide +kernel
theorem dX3_ends_105 : decode cX3_ends 105 = .ok (.goto 4, 3) := by decide +kernel
theorem dX3_ends_108 : decode cX3_ends 108 = .ok (.iconst 3, 1) := by decide +kernel
theorem dX3_ends_109 : decode cX3_ends 109 = .ok (.iastore, 1) := by decide +kernel
theorem dX3_ends_110 : decode cX3_ends 110 = .ok (.aload_n 0, 1) := by decide +kernel
theorem dX3_ends_111 : decode cX3_ends 111 = .ok (.getfield 47, 3) := by decide +kernel
theorem dX3_ends_114 : decode cX3_ends 114 = .ok (.iload_n 1, 1) := by decide +kernel
theorem dX3_ends_115 : decode cX3_ends 115 = .ok (.dup2, 1) := by decide +kernel
theorem dX3_ends_116 : decode cX3_ends 116 = .ok (.iaload, 1) := by decide +kernel
theorem dX3_ends_117 : decode cX3_ends 117 = .ok (.iload_n 2, 1) := by decide +kernel
theorem dX3_ends_118 : decode cX3_ends 118 = .ok (.ifCond .eq 7, 3) := by decide +kernel
theorem dX3_ends_121 : decode cX3_ends 121 = .ok (.iconst 1, 1) := by decide +kernel
theorem dX3_ends_122 : decode cX3_ends 122 = .ok (.goto 4, 3) := by decide +kernel
theorem dX3_ends_125 : decode cX3_ends 125 = .ok (.iconst 0, 1) := by decide +kernel
theorem dX3_ends_126 : decode cX3_ends 126 = .ok (.iadd, 1) := by decide +kernel
theorem dX3_ends_127 : decode cX3_ends 127 = .ok (.iastore, 1) := by decide +kernel
theorem dX3_ends_128 : decode cX3_ends 128 = .ok (.return_, 1) := by decide +kernel
set_option maxRecDepth 20000 in
theorem ggX3_isSo_X3_edge : GoodIn wsX3_isSo wsX3_edge := goodIn_r _ [6] (by decide +kernel) (by decide +kernel)
set_option maxRecDepth 20000 in
theorem gX3_isSo_X3_edge : GoodIn wsX3_isSo (va_wsS RX3 75 yX3_edge wsX3_edge) := goodIn_app (goodIn_of _ (by decide +kernel)) ggX3_isSo_X3_edge
set_option maxRecDepth 20000 in
theorem ggX3_isSo_X3_isLost : GoodIn wsX3_isSo wsX3_isLost := goodIn_r _ [10, 11, 12, 13, 14, 5, 15, 16, 27, 28, 29, 30, 31, 32, 33, 34, 35, 36, 37, 38, 39, 40, 41, 42, 43, 44, 45, 46, 47, 48, 49] (by decide +kernel) (by decide +kernel)
set_option maxRecDepth 20000 in
theorem gX3_isSo_X3_isLost : GoodIn wsX3_isSo (wsV RX3 117 RX3 yX3_isLost wsX3_isLost) := goodIn_app (goodIn_of _ (by decide +kernel)) ggX3_isSo_X3_isLost
set_option maxRecDepth 20000 in
theorem ggX3_isSo_X3_waits : GoodIn wsX3_isSo wsX3_waits := goodIn_r _ [20, 21, 22, 16, 2, 3, 4, 5, 6, 12, 13, 14, 15, 23, 24, 25, 26, 11, 7, 8, 9, 10, 27, 28, 29, 30, 31, 32, 33, 34, 35, 36, 37, 38, 39, 40, 41, 42, 43, 44, 45, 46, 47, 48, 49] (by decide +kernel) (by decide +kernel)
set_option maxRecDepth 20000 in
theorem gX3_isSo_X3_waits : GoodIn wsX3_isSo (wsV RX3 120 RX3 yX3_waits wsX3_waits) := goodIn_app (goodIn_of _ (by decide +kernel)) ggX3_isSo_X3_waits
theorem dX3_isSo_0 : decode cX3_isSo 0 = .ok (.iconst 0, 1) := by decide +kernel
theorem dX3_isSo_1 : decode cX3_isSo 1 = .ok (.istore_n 3, 1) := by decide +kernel
theorem dX3_isSo_2 : decode cX3_isSo 2 = .ok (.iconst 1, 1) := by decide +kernel
theorem dX3_isSo_3 : decode cX3_isSo 3 = .ok (.istore 4, 2) := by decide +kernel
theorem dX3_isSo_5 : decode cX3_isSo 5 = .ok (.iconst 0, 1) := by decide +kernel
theorem dX3_isSo_6 : decode cX3_isSo 6 = .ok (.istore 5, 2) := by decide +kernel
theorem dX3_isSo_8 : decode cX3_isSo 8 = .ok (.iload 5, 2) := by decide +kernel
theorem dX3_isSo_10 : decode cX3_isSo 10 = .ok (.aload_n 0, 1) := by decide +kernel
theorem dX3_isSo_11 : decode cX3_isSo 11 = .ok (.getfield 60, 3) := by decide +kernel
theorem dX3_isSo_14 : decode cX3_isSo 14 = .ok (.if_icmp .ge 64, 3) := by decide +kernel
theorem dX3_isSo_17 : decode cX3_isSo 17 = .ok (.iload_n 3, 1) := by decide +kernel
theorem dX3_isSo_18 : decode cX3_isSo 18 = .ok (.ifCond .ne 26, 3) := by decide +kernel
theorem dX3_isSo_21 : decode cX3_isSo 21 = .ok (.aload_n 0, 1) := by decide +kernel
theorem dX3_isSo_22 : decode cX3_isSo 22 = .ok (.getfield 29, 3) := by decide +kernel
theorem dX3_isSo_25 : decode cX3_isSo 25 = .ok (.iload_n 1, 1) := by decide +kernel
theorem dX3_isSo_26 : decode cX3_isSo 26 = .ok (.iload 5, 2) := by decide +kernel
theorem dX3_isSo_28 : decode cX3_isSo 28 = .ok (.invokestatic 75, 3) := by decide +kernel
theorem dX3_isSo_31 : decode cX3_isSo 31 = .ok (.baload, 1) := by decide +kernel
theorem dX3_isSo_32 : decode cX3_isSo 32 = .ok (.ifCond .eq 16, 3) := by decide +kernel
theorem dX3_isSo_35 : decode cX3_isSo 35 = .ok (.aload_n 0, 1) := by decide +kernel
theorem dX3_isSo_36 : decode cX3_isSo 36 = .ok (.iload 5, 2) := by decide +kernel
theorem dX3_isSo_38 : decode cX3_isSo 38 = .ok (.invokevirtual 117, 3) := by decide +kernel
theorem dX3_isSo_41 : decode cX3_isSo 41 = .ok (.ifCond .eq 7, 3) := by decide +kernel
theorem dX3_isSo_44 : decode cX3_isSo 44 = .ok (.iconst 1, 1) := by decide +kernel
theorem dX3_isSo_45 : decode cX3_isSo 45 = .ok (.goto 4, 3) := by decide +kernel
theorem dX3_isSo_48 : decode cX3_isSo 48 = .ok (.iconst 0, 1) := by decide +kernel
theorem dX3_isSo_49 : decode cX3_isSo 49 = .ok (.istore_n 3, 1) := by decide +kernel
theorem dX3_isSo_50 : decode cX3_isSo 50 = .ok (.iload 4, 2) := by decide +kernel
theorem dX3_isSo_52 : decode cX3_isSo 52 = .ok (.ifCond .eq 17, 3) := by decide +kernel
theorem dX3_isSo_55 : decode cX3_isSo 55 = .ok (.aload_n 0, 1) := by decide +kernel
theorem dX3_isSo_56 : decode cX3_isSo 56 = .ok (.iload_n 1, 1) := by decide +kernel
theorem dX3_isSo_57 : decode cX3_isSo 57 = .ok (.iload 5, 2) := by decide +kernel
theorem dX3_isSo_59 : decode cX3_isSo 59 = .ok (.invokevirtual 120, 3) := by decide +kernel
theorem dX3_isSo_62 : decode cX3_isSo 62 = .ok (.ifCond .ne 7, 3) := by decide +kernel
theorem dX3_isSo_65 : decode cX3_isSo 65 = .ok (.iconst 1, 1) := by decide +kernel
theorem dX3_isSo_66 : decode cX3_isSo 66 = .ok (.goto 4, 3) := by decide +kernel
theorem dX3_isSo_69 : decode cX3_isSo 69 = .ok (.iconst 0, 1) := by decide +kernel
theorem dX3_isSo_70 : decode cX3_isSo 70 = .ok (.istore 4, 2) := by decide +kernel
theorem dX3_isSo_72 : decode cX3_isSo 72 = .ok (.iinc 5 1, 3) := by decide +kernel
theorem dX3_isSo_75 : decode cX3_isSo 75 = .ok (.goto (-67), 3) := by decide +kernel
theorem dX3_isSo_78 : decode cX3_isSo 78 = .ok (.iload_n 2, 1) := by decide +kernel
theorem dX3_isSo_79 : decode cX3_isSo 79 = .ok (.ifCond .ne 7, 3) := by decide +kernel
theorem dX3_isSo_82 : decode cX3_isSo 82 = .ok (.iload_n 3, 1) := by decide +kernel
theorem dX3_isSo_83 : decode cX3_isSo 83 = .ok (.goto 17, 3) := by decide +kernel
theorem dX3_isSo_86 : decode cX3_isSo 86 = .ok (.iload 4, 2) := by decide +kernel
theorem dX3_isSo_88 : decode cX3_isSo 88 = .ok (.ifCond .eq 11, 3) := by decide +kernel
theorem dX3_isSo_91 : decode cX3_isSo 91 = .ok (.iload_n 3, 1) := by decide +kernel
theorem dX3_isSo_92 : decode cX3_isSo 92 = .ok (.ifCond .ne 7, 3) := by decide +kernel
theorem dX3_isSo_95 : decode cX3_isSo 95 = .ok (.iconst 1, 1) := by decide +kernel
theorem dX3_isSo_96 : decode cX3_isSo 96 = .ok (.goto 4, 3) := by decide +kernel
theorem dX3_isSo_99 : decode cX3_isSo 99 = .ok (.iconst 0, 1) := by decide +kernel
theorem dX3_isSo_100 : decode cX3_isSo 100 = .ok (.ireturn, 1) := by decide +kernel
theorem dX3_raised_0 : decode cX3_raised 0 = .ok (.iconst 0, 1) := by decide +kernel
theorem dX3_raised_1 : decode cX3_raised 1 = .ok (.istore_n 1, 1) := by decide +kernel
theorem dX3_raised_2 : decode cX3_raised 2 = .ok (.iconst 0, 1) := by decide +kernel
theorem dX3_raised_3 : decode cX3_raised 3 = .ok (.istore_n 2, 1) := by decide +kernel
theorem dX3_raised_4 : decode cX3_raised 4 = .ok (.iload_n 2, 1) := by decide +kernel
theorem dX3_raised_5 : decode cX3_raised 5 = .ok (.aload_n 0, 1) := by decide +kernel
theorem dX3_raised_6 : decode cX3_raised 6 = .ok (.getfield 60, 3) := by decide +kernel
theorem dX3_raised_9 : decode cX3_raised 9 = .ok (.if_icmp .ge 87, 3) := by decide +kernel
theorem dX3_raised_12 : decode cX3_raised 12 = .ok (.aload_n 0, 1) := by decide +kernel
theorem dX3_raised_13 : decode cX3_raised 13 = .ok (.getfield 44, 3) := by decide +kernel
theorem dX3_raised_16 : decode cX3_raised 16 = .ok (.iload_n 2, 1) := by decide +kernel
theorem dX3_raised_17 : decode cX3_raised 17 = .ok (.iaload, 1) := by decide +kernel
theorem dX3_raised_18 : decode cX3_raised 18 = .ok (.aload_n 0, 1) := by decide +kernel
theorem dX3_raised_19 : decode cX3_raised 19 = .ok (.getfield 50, 3) := by decide +kernel
theorem dX3_raised_22 : decode cX3_raised 22 = .ok (.iload_n 2, 1) := by decide +kernel
theorem dX3_raised_23 : decode cX3_raised 23 = .ok (.iaload, 1) := by decide +kernel
theorem dX3_raised_24 : decode cX3_raised 24 = .ok (.if_icmp .ge 12, 3) := by decide +kernel
theorem dX3_raised_27 : decode cX3_raised 27 = .ok (.aload_n 0, 1) := by decide +kernel
theorem dX3_raised_28 : decode cX3_raised 28 = .ok (.getfield 44, 3) := by decide +kernel
theorem dX3_raised_31 : decode cX3_raised 31 = .ok (.iload_n 2, 1) := by decide +kernel
theorem dX3_raised_32 : decode cX3_raised 32 = .ok (.iaload, 1) := by decide +kernel
theorem dX3_raised_33 : decode cX3_raised 33 = .ok (.goto 9, 3) := by decide +kernel
theorem dX3_raised_36 : decode cX3_raised 36 = .ok (.aload_n 0, 1) := by decide +kernel
theorem dX3_raised_37 : decode cX3_raised 37 = .ok (.getfield 50, 3) := by decide +kernel
theorem dX3_raised_40 : decode cX3_raised 40 = .ok (.iload_n 2, 1) := by decide +kernel
theorem dX3_raised_41 : decode cX3_raised 41 = .ok (.iaload, 1) := by decide +kernel
theorem dX3_raised_42 : decode cX3_raised 42 = .ok (.istore_n 3, 1) := by decide +kernel
theorem dX3_raised_43 : decode cX3_raised 43 = .ok (.iload_n 1, 1) := by decide +kernel
theorem dX3_raised_44 : decode cX3_raised 44 = .ok (.aload_n 0, 1) := by decide +kernel
theorem dX3_raised_45 : decode cX3_raised 45 = .ok (.getfield 41, 3) := by decide +kernel
theorem dX3_raised_48 : decode cX3_raised 48 = .ok (.iload_n 2, 1) := by decide +kernel
theorem dX3_raised_49 : decode cX3_raised 49 = .ok (.iaload, 1) := by decide +kernel
theorem dX3_raised_50 : decode cX3_raised 50 = .ok (.iconst 2, 1) := by decide +kernel
theorem dX3_raised_51 : decode cX3_raised 51 = .ok (.if_icmp .eq 13, 3) := by decide +kernel
theorem dX3_raised_54 : decode cX3_raised 54 = .ok (.aload_n 0, 1) := by decide +kernel
theorem dX3_raised_55 : decode cX3_raised 55 = .ok (.getfield 41, 3) := by decide +kernel
theorem dX3_raised_58 : decode cX3_raised 58 = .ok (.iload_n 2, 1) := by decide +kernel
theorem dX3_raised_59 : decode cX3_raised 59 = .ok (.iaload, 1) := by decide +kernel
theorem dX3_raised_60 : decode cX3_raised 60 = .ok (.iconst 3, 1) := by decide +kernel
theorem dX3_raised_61 : decode cX3_raised 61 = .ok (.if_icmp .ne 12, 3) := by decide +kernel
theorem dX3_raised_64 : decode cX3_raised 64 = .ok (.aload_n 0, 1) := by decide +kernel
theorem dX3_raised_65 : decode cX3_raised 65 = .ok (.getfield 50, 3) := by decide +kernel
theorem dX3_raised_68 : decode cX3_raised 68 = .ok (.iload_n 2, 1) := by decide +kernel
theorem dX3_raised_69 : decode cX3_raised 69 = .ok (.iaload, 1) := by decide +kernel
theorem dX3_raised_70 : decode cX3_raised 70 = .ok (.goto 18, 3) := by decide +kernel
theorem dX3_raised_73 : decode cX3_raised 73 = .ok (.aload_n 0, 1) := by decide +kernel
theorem dX3_raised_74 : decode cX3_raised 74 = .ok (.getfield 41, 3) := by decide +kernel
theorem dX3_raised_77 : decode cX3_raised 77 = .ok (.iload_n 2, 1) := by decide +kernel
theorem dX3_raised_78 : decode cX3_raised 78 = .ok (.iaload, 1) := by decide +kernel
theorem dX3_raised_79 : decode cX3_raised 79 = .ok (.iconst 1, 1) := by decide +kernel
theorem dX3_raised_80 : decode cX3_raised 80 = .ok (.if_icmp .ne 7, 3) := by decide +kernel
theorem dX3_raised_83 : decode cX3_raised 83 = .ok (.iload_n 3, 1) := by decide +kernel
theorem dX3_raised_84 : decode cX3_raised 84 = .ok (.goto 4, 3) := by decide +kernel
theorem dX3_raised_87 : decode cX3_raised 87 = .ok (.iconst 0, 1) := by decide +kernel
theorem dX3_raised_88 : decode cX3_raised 88 = .ok (.iadd, 1) := by decide +kernel
theorem dX3_raised_89 : decode cX3_raised 89 = .ok (.istore_n 1, 1) := by decide +kernel
theorem dX3_raised_90 : decode cX3_raised 90 = .ok (.iinc 2 1, 3) := by decide +kernel
theorem dX3_raised_93 : decode cX3_raised 93 = .ok (.goto (-89), 3) := by decide +kernel
theorem dX3_raised_96 : decode cX3_raised 96 = .ok (.aload_n 0, 1) := by decide +kernel
theorem dX3_raised_97 : decode cX3_raised 97 = .ok (.getfield 102, 3) := by decide +kernel
theorem dX3_raised_100 : decode cX3_raised 100 = .ok (.ifCond .ne 9, 3) := by decide +kernel
theorem dX3_raised_103 : decode cX3_raised 103 = .ok (.sipush 1000, 3) := by decide +kernel
theorem dX3_raised_106 : decode cX3_raised 106 = .ok (.goto 13, 3) := by decide +kernel
theorem dX3_raised_109 : decode cX3_raised 109 = .ok (.sipush 1000, 3) := by decide +kernel
theorem dX3_raised_112 : decode cX3_raised 112 = .ok (.iload_n 1, 1) := by decide +kernel
theorem dX3_raised_113 : decode cX3_raised 113 = .ok (.imul, 1) := by decide +kernel
theorem dX3_raised_114 : decode cX3_raised 114 = .ok (.aload_n 0, 1) := by decide +kernel
theorem dX3_raised_115 : decode cX3_raised 115 = .ok (.getfield 102, 3) := by decide +kernel
theorem dX3_raised_118 : decode cX3_raised 118 = .ok (.idiv, 1) := by decide +kernel
theorem dX3_raised_119 : decode cX3_raised 119 = .ok (.istore_n 2, 1) := by decide +kernel
theorem dX3_raised_120 : decode cX3_raised 120 = .ok (.iload_n 2, 1) := by decide +kernel
theorem dX3_raised_121 : decode cX3_raised 121 = .ok (.aload_n 0, 1) := by decide +kernel
theorem dX3_raised_122 : decode cX3_raised 122 = .ok (.getfield 105, 3) := by decide +kernel
theorem dX3_raised_125 : decode cX3_raised 125 = .ok (.if_icmp .le 7, 3) := by decide +kernel
theorem dX3_raised_128 : decode cX3_raised 128 = .ok (.iload_n 2, 1) := by decide +kernel
theorem dX3_raised_129 : decode cX3_raised 129 = .ok (.goto 7, 3) := by decide +kernel
theorem dX3_raised_132 : decode cX3_raised 132 = .ok (.aload_n 0, 1) := by decide +kernel
theorem dX3_raised_133 : decode cX3_raised 133 = .ok (.getfield 105, 3) := by decide +kernel
theorem dX3_raised_136 : decode cX3_raised 136 = .ok (.ireturn, 1) := by decide +kernel
set_option maxRecDepth 20000 in
theorem ggX3_passes_X3_ends : GoodIn wsX3_passes wsX3_ends := goodIn_r _ [12, 13, 3, 14, 4, 15, 16, 54, 55, 56, 57, 58, 59, 60, 61, 62, 63, 64, 65, 66, 67, 68, 69, 70, 71, 72, 73, 74, 75, 76] (by decide +kernel) (by decide +kernel)
set_option maxRecDepth 20000 in
theorem gX3_passes_X3_ends : GoodIn wsX3_passes (wsV RX3 124 RX3 yX3_ends wsX3_ends) := goodIn_app (goodIn_of _ (by decide +kernel)) ggX3_passes_X3_ends
set_option maxRecDepth 20000 in
theorem ggX3_passes_X3_isSo : GoodIn wsX3_passes wsX3_isSo := goodIn_r _ [20, 1, 21, 22, 23, 11, 24, 25, 26, 27, 28, 29, 30, 31, 32, 33, 3, 34, 35, 36, 37, 38, 39, 40, 41, 42, 43, 54, 55, 56, 57, 58, 59, 60, 61, 62, 63, 64, 65, 66, 67, 68, 69, 70, 71, 72, 73, 74, 75, 76] (by decide +kernel) (by decide +kernel)
set_option maxRecDepth 20000 in
theorem gX3_passes_X3_isSo : GoodIn wsX3_passes (wsV RX3 128 RX3 yX3_isSo wsX3_isSo) := goodIn_app (goodIn_of _ (by decide +kernel)) ggX3_passes_X3_isSo
set_option maxRecDepth 20000 in
theorem ggX3_passes_X3_starting : GoodIn wsX3_passes wsX3_starting := goodIn_r _ [47, 1, 3, 54, 55, 56, 57, 58, 59, 60, 61, 62, 63, 64, 65, 66, 67, 68, 69, 70, 71, 72, 73, 74, 75, 76] (by decide +kernel) (by decide +kernel)
set_option maxRecDepth 20000 in
theorem gX3_passes_X3_starting : GoodIn wsX3_passes (wsV RX3 131 RX3 yX3_starting wsX3_starting) := goodIn_app (goodIn_of _ (by decide +kernel)) ggX3_passes_X3_starting
set_option maxRecDepth 20000 in
theorem ggX3_passes_X3_raised : GoodIn wsX3_passes wsX3_raised := goodIn_r _ [51, 1, 2, 52, 3, 53, 7, 54, 55, 56, 57, 58, 59, 60, 61, 62, 63, 64, 65, 66, 67, 68, 69, 70, 71, 72, 73, 74, 75, 76] (by decide +kernel) (by decide +kernel)
set_option maxRecDepth 20000 in
theorem gX3_passes_X3_raised : GoodIn wsX3_passes (wsV RX3 108 RX3 yX3_raised wsX3_raised) := goodIn_app (goodIn_of _ (by decide +kernel)) ggX3_passes_X3_raised
theorem dX3_passes_0 : decode cX3_passes 0 = .ok (.iconst 0, 1) := by decide +kernel
theorem dX3_passes_1 : decode cX3_passes 1 = .ok (.istore_n 1, 1) := by decide +kernel
theorem dX3_passes_2 : decode cX3_passes 2 = .ok (.iload_n 1, 1) := by decide +kernel
theorem dX3_passes_3 : decode cX3_passes 3 = .ok (.aload_n 0, 1) := by decide +kernel
theorem dX3_passes_4 : decode cX3_passes 4 = .ok (.getfield 60, 3) := by decide +kernel
theorem dX3_passes_7 : decode cX3_passes 7 = .ok (.if_icmp .ge 63, 3) := by decide +kernel
theorem dX3_passes_10 : decode cX3_passes 10 = .ok (.aload_n 0, 1) := by decide +kernel
theorem dX3_passes_11 : decode cX3_passes 11 = .ok (.getfield 44, 3) := by decide +kernel
theorem dX3_passes_14 : decode cX3_passes 14 = .ok (.iload_n 1, 1) := by decide +kernel
theorem dX3_passes_15 : decode cX3_passes 15 = .ok (.dup2, 1) := by decide +kernel
theorem dX3_passes_16 : decode cX3_passes 16 = .ok (.iaload, 1) := by decide +kernel
theorem dX3_passes_17 : decode cX3_passes 17 = .ok (.aload_n 0, 1) := by decide +kernel
theorem dX3_passes_18 : decode cX3_passes 18 = .ok (.getfield 41, 3) := by decide +kernel
theorem dX3_passes_21 : decode cX3_passes 21 = .ok (.iload_n 1, 1) := by decide +kernel
theorem dX3_passes_22 : decode cX3_passes 22 = .ok (.iaload, 1) := by decide +kernel
theorem dX3_passes_23 : decode cX3_passes 23 = .ok (.iconst 1, 1) := by decide +kernel
theorem dX3_passes_24 : decode cX3_passes 24 = .ok (.if_icmp .ne 7, 3) := by decide +kernel
theorem dX3_passes_27 : decode cX3_passes 27 = .ok (.iconst 1, 1) := by decide +kernel
theorem dX3_passes_28 : decode cX3_passes 28 = .ok (.goto 4, 3) := by decide +kernel
theorem dX3_passes_31 : decode cX3_passes 31 = .ok (.iconst 0, 1) := by decide +kernel
theorem dX3_passes_32 : decode cX3_passes 32 = .ok (.iadd, 1) := by decide +kernel
theorem dX3_passes_33 : decode cX3_passes 33 = .ok (.iastore, 1) := by decide +kernel
theorem dX3_passes_34 : decode cX3_passes 34 = .ok (.aload_n 0, 1) := by decide +kernel
theorem dX3_passes_35 : decode cX3_passes 35 = .ok (.getfield 41, 3) := by decide +kernel
theorem dX3_passes_38 : decode cX3_passes 38 = .ok (.iload_n 1, 1) := by decide +kernel
theorem dX3_passes_39 : decode cX3_passes 39 = .ok (.iaload, 1) := by decide +kernel
theorem dX3_passes_40 : decode cX3_passes 40 = .ok (.iconst 1, 1) := by decide +kernel
theorem dX3_passes_41 : decode cX3_passes 41 = .ok (.if_icmp .ne 23, 3) := by decide +kernel
theorem dX3_passes_44 : decode cX3_passes 44 = .ok (.aload_n 0, 1) := by decide +kernel
theorem dX3_passes_45 : decode cX3_passes 45 = .ok (.getfield 44, 3) := by decide +kernel
theorem dX3_passes_48 : decode cX3_passes 48 = .ok (.iload_n 1, 1) := by decide +kernel
theorem dX3_passes_49 : decode cX3_passes 49 = .ok (.iaload, 1) := by decide +kernel
theorem dX3_passes_50 : decode cX3_passes 50 = .ok (.aload_n 0, 1) := by decide +kernel
theorem dX3_passes_51 : decode cX3_passes 51 = .ok (.getfield 7, 3) := by decide +kernel
theorem dX3_passes_54 : decode cX3_passes 54 = .ok (.iload_n 1, 1) := by decide +kernel
theorem dX3_passes_55 : decode cX3_passes 55 = .ok (.iaload, 1) := by decide +kernel
theorem dX3_passes_56 : decode cX3_passes 56 = .ok (.if_icmp .lt 8, 3) := by decide +kernel
theorem dX3_passes_59 : decode cX3_passes 59 = .ok (.aload_n 0, 1) := by decide +kernel
theorem dX3_passes_60 : decode cX3_passes 60 = .ok (.iload_n 1, 1) := by decide +kernel
theorem dX3_passes_61 : decode cX3_passes 61 = .ok (.invokevirtual 124, 3) := by decide +kernel
theorem dX3_passes_64 : decode cX3_passes 64 = .ok (.iinc 1 1, 3) := by decide +kernel
theorem dX3_passes_67 : decode cX3_passes 67 = .ok (.goto (-65), 3) := by decide +kernel
theorem dX3_passes_70 : decode cX3_passes 70 = .ok (.iconst 0, 1) := by decide +kernel
theorem dX3_passes_71 : decode cX3_passes 71 = .ok (.istore_n 1, 1) := by decide +kernel
theorem dX3_passes_72 : decode cX3_passes 72 = .ok (.iload_n 1, 1) := by decide +kernel
theorem dX3_passes_73 : decode cX3_passes 73 = .ok (.aload_n 0, 1) := by decide +kernel
theorem dX3_passes_74 : decode cX3_passes 74 = .ok (.getfield 60, 3) := by decide +kernel
theorem dX3_passes_77 : decode cX3_passes 77 = .ok (.if_icmp .ge 43, 3) := by decide +kernel
theorem dX3_passes_80 : decode cX3_passes 80 = .ok (.aload_n 0, 1) := by decide +kernel
theorem dX3_passes_81 : decode cX3_passes 81 = .ok (.getfield 41, 3) := by decide +kernel
theorem dX3_passes_84 : decode cX3_passes 84 = .ok (.iload_n 1, 1) := by decide +kernel
theorem dX3_passes_85 : decode cX3_passes 85 = .ok (.aload_n 0, 1) := by decide +kernel
theorem dX3_passes_86 : decode cX3_passes 86 = .ok (.getfield 41, 3) := by decide +kernel
theorem dX3_passes_89 : decode cX3_passes 89 = .ok (.iload_n 1, 1) := by decide +kernel
theorem dX3_passes_90 : decode cX3_passes 90 = .ok (.iaload, 1) := by decide +kernel
theorem dX3_passes_91 : decode cX3_passes 91 = .ok (.ifCond .ne 16, 3) := by decide +kernel
theorem dX3_passes_94 : decode cX3_passes 94 = .ok (.aload_n 0, 1) := by decide +kernel
theorem dX3_passes_95 : decode cX3_passes 95 = .ok (.iload_n 1, 1) := by decide +kernel
theorem dX3_passes_96 : decode cX3_passes 96 = .ok (.iconst 0, 1) := by decide +kernel
theorem dX3_passes_97 : decode cX3_passes 97 = .ok (.invokevirtual 128, 3) := by decide +kernel
theorem dX3_passes_100 : decode cX3_passes 100 = .ok (.ifCond .eq 7, 3) := by decide +kernel
theorem dX3_passes_103 : decode cX3_passes 103 = .ok (.iconst 3, 1) := by decide +kernel
theorem dX3_passes_104 : decode cX3_passes 104 = .ok (.goto 9, 3) := by decide +kernel
theorem dX3_passes_107 : decode cX3_passes 107 = .ok (.aload_n 0, 1) := by decide +kernel
theorem dX3_passes_108 : decode cX3_passes 108 = .ok (.getfield 41, 3) := by decide +kernel
theorem dX3_passes_111 : decode cX3_passes 111 = .ok (.iload_n 1, 1) := by decide +kernel
theorem dX3_passes_112 : decode cX3_passes 112 = .ok (.iaload, 1) := by decide +kernel
theorem dX3_passes_113 : decode cX3_passes 113 = .ok (.iastore, 1) := by decide +kernel
theorem dX3_passes_114 : decode cX3_passes 114 = .ok (.iinc 1 1, 3) := by decide +kernel
theorem dX3_passes_117 : decode cX3_passes 117 = .ok (.goto (-45), 3) := by decide +kernel
theorem dX3_passes_120 : decode cX3_passes 120 = .ok (.iconst 0, 1) := by decide +kernel
theorem dX3_passes_121 : decode cX3_passes 121 = .ok (.istore_n 1, 1) := by decide +kernel
theorem dX3_passes_122 : decode cX3_passes 122 = .ok (.iload_n 1, 1) := by decide +kernel
theorem dX3_passes_123 : decode cX3_passes 123 = .ok (.aload_n 0, 1) := by decide +kernel
theorem dX3_passes_124 : decode cX3_passes 124 = .ok (.getfield 60, 3) := by decide +kernel
theorem dX3_passes_127 : decode cX3_passes 127 = .ok (.if_icmp .ge 52, 3) := by decide +kernel
theorem dX3_passes_130 : decode cX3_passes 130 = .ok (.aload_n 0, 1) := by decide +kernel
theorem dX3_passes_131 : decode cX3_passes 131 = .ok (.getfield 41, 3) := by decide +kernel
theorem dX3_passes_134 : decode cX3_passes 134 = .ok (.iload_n 1, 1) := by decide +kernel
theorem dX3_passes_135 : decode cX3_passes 135 = .ok (.iaload, 1) := by decide +kernel
theorem dX3_passes_136 : decode cX3_passes 136 = .ok (.ifCond .ne 37, 3) := by decide +kernel
theorem dX3_passes_139 : decode cX3_passes 139 = .ok (.aload_n 0, 1) := by decide +kernel
theorem dX3_passes_140 : decode cX3_passes 140 = .ok (.invokevirtual 131, 3) := by decide +kernel
theorem dX3_passes_143 : decode cX3_passes 143 = .ok (.aload_n 0, 1) := by decide +kernel
theorem dX3_passes_144 : decode cX3_passes 144 = .ok (.getfield 99, 3) := by decide +kernel
theorem dX3_passes_147 : decode cX3_passes 147 = .ok (.if_icmp .ge 26, 3) := by decide +kernel
theorem dX3_passes_150 : decode cX3_passes 150 = .ok (.aload_n 0, 1) := by decide +kernel
theorem dX3_passes_151 : decode cX3_passes 151 = .ok (.iload_n 1, 1) := by decide +kernel
theorem dX3_passes_152 : decode cX3_passes 152 = .ok (.iconst 1, 1) := by decide +kernel
theorem dX3_passes_153 : decode cX3_passes 153 = .ok (.invokevirtual 128, 3) := by decide +kernel
theorem dX3_passes_156 : decode cX3_passes 156 = .ok (.ifCond .eq 17, 3) := by decide +kernel
theorem dX3_passes_159 : decode cX3_passes 159 = .ok (.aload_n 0, 1) := by decide +kernel
theorem dX3_passes_160 : decode cX3_passes 160 = .ok (.getfield 41, 3) := by decide +kernel
theorem dX3_passes_163 : decode cX3_passes 163 = .ok (.iload_n 1, 1) := by decide +kernel
theorem dX3_passes_164 : decode cX3_passes 164 = .ok (.iconst 1, 1) := by decide +kernel
theorem dX3_passes_165 : decode cX3_passes 165 = .ok (.iastore, 1) := by decide +kernel
theorem dX3_passes_166 : decode cX3_passes 166 = .ok (.aload_n 0, 1) := by decide +kernel
theorem dX3_passes_167 : decode cX3_passes 167 = .ok (.getfield 44, 3) := by decide +kernel
theorem dX3_passes_170 : decode cX3_passes 170 = .ok (.iload_n 1, 1) := by decide +kernel
theorem dX3_passes_171 : decode cX3_passes 171 = .ok (.iconst 0, 1) := by decide +kernel
theorem dX3_passes_172 : decode cX3_passes 172 = .ok (.iastore, 1) := by decide +kernel
theorem dX3_passes_173 : decode cX3_passes 173 = .ok (.iinc 1 1, 3) := by decide +kernel
theorem dX3_passes_176 : decode cX3_passes 176 = .ok (.goto (-54), 3) := by decide +kernel
theorem dX3_passes_179 : decode cX3_passes 179 = .ok (.aload_n 0, 1) := by decide +kernel
theorem dX3_passes_180 : decode cX3_passes 180 = .ok (.aload_n 0, 1) := by decide +kernel
theorem dX3_passes_181 : decode cX3_passes 181 = .ok (.invokevirtual 131, 3) := by decide +kernel
theorem dX3_passes_184 : decode cX3_passes 184 = .ok (.ifCond .le 7, 3) := by decide +kernel
theorem dX3_passes_187 : decode cX3_passes 187 = .ok (.iconst 1, 1) := by decide +kernel
theorem dX3_passes_188 : decode cX3_passes 188 = .ok (.goto 4, 3) := by decide +kernel
theorem dX3_passes_191 : decode cX3_passes 191 = .ok (.iconst 0, 1) := by decide +kernel
theorem dX3_passes_192 : decode cX3_passes 192 = .ok (.putfield 67, 3) := by decide +kernel
theorem dX3_passes_195 : decode cX3_passes 195 = .ok (.aload_n 0, 1) := by decide +kernel
theorem dX3_passes_196 : decode cX3_passes 196 = .ok (.aload_n 0, 1) := by decide +kernel
theorem dX3_passes_197 : decode cX3_passes 197 = .ok (.getfield 67, 3) := by decide +kernel
theorem dX3_passes_200 : decode cX3_passes 200 = .ok (.ifCond .eq 10, 3) := by decide +kernel
theorem dX3_passes_203 : decode cX3_passes 203 = .ok (.aload_n 0, 1) := by decide +kernel
theorem dX3_passes_204 : decode cX3_passes 204 = .ok (.invokevirtual 108, 3) := by decide +kernel
theorem dX3_passes_207 : decode cX3_passes 207 = .ok (.goto 6, 3) := by decide +kernel
theorem dX3_passes_210 : decode cX3_passes 210 = .ok (.sipush 1000, 3) := by decide +kernel
theorem dX3_passes_213 : decode cX3_passes 213 = .ok (.putfield 105, 3) := by decide +kernel
theorem dX3_passes_216 : decode cX3_passes 216 = .ok (.return_, 1) := by decide +kernel
set_option maxRecDepth 20000 in
theorem ggX3_tick_X3_isIn : GoodIn wsX3_tick wsX3_isIn := goodIn_r _ [5] (by decide +kernel) (by decide +kernel)
set_option maxRecDepth 20000 in
theorem gX3_tick_X3_isIn : GoodIn wsX3_tick (va_wsS RX3 63 yX3_isIn wsX3_isIn) := goodIn_app (goodIn_of _ (by decide +kernel)) ggX3_tick_X3_isIn
set_option maxRecDepth 20000 in
theorem ggX3_tick_X3_goes : GoodIn wsX3_tick wsX3_goes := goodIn_r _ [9, 10, 66, 67, 68, 69, 70, 71, 72, 73, 74, 75, 76, 77, 78, 79, 80, 81, 82, 83, 84, 85, 86, 87, 88] (by decide +kernel) (by decide +kernel)
set_option maxRecDepth 20000 in
theorem gX3_tick_X3_goes : GoodIn wsX3_tick (wsV RX3 71 RX3 yX3_goes wsX3_goes) := goodIn_app (goodIn_of _ (by decide +kernel)) ggX3_tick_X3_goes
set_option maxRecDepth 20000 in
theorem ggX3_tick_X3_passes : GoodIn wsX3_tick wsX3_passes := goodIn_r _ [14, 15, 16, 17, 18, 19, 1, 20, 21, 22, 23, 4, 24, 25, 26, 27, 28, 29, 30, 31, 32, 33, 34, 35, 36, 37, 38, 39, 40, 41, 42, 43, 44, 45, 46, 47, 48, 49, 50, 51, 52, 53, 54, 55, 56, 57, 58, 59, 60, 61, 62, 63, 64, 65, 66, 67, 68, 69, 70, 71, 72, 73, 74, 75, 76, 77, 78, 79, 80, 81, 82, 83, 84, 85, 86, 87, 88] (by decide +kernel) (by decide +kernel)
set_option maxRecDepth 20000 in
theorem gX3_tick_X3_passes : GoodIn wsX3_tick (wsV RX3 134 RX3 yX3_passes wsX3_passes) := goodIn_app (goodIn_of _ (by decide +kernel)) ggX3_tick_X3_passes
theorem dX3_tick_0 : decode cX3_tick 0 = .ok (.aload_n 0, 1) := by decide +kernel
theorem dX3_tick_1 : decode cX3_tick 1 = .ok (.iload_n 1, 1) := by decide +kernel
theorem dX3_tick_2 : decode cX3_tick 2 = .ok (.iconst 1, 1) := by decide +kernel
theorem dX3_tick_3 : decode cX3_tick 3 = .ok (.sipush 200, 3) := by decide +kernel
theorem dX3_tick_6 : decode cX3_tick 6 = .ok (.invokestatic 63, 3) := by decide +kernel
theorem dX3_tick_9 : decode cX3_tick 9 = .ok (.ifCond .ne 7, 3) := by decide +kernel
theorem dX3_tick_12 : decode cX3_tick 12 = .ok (.iconst 1, 1) := by decide +kernel
theorem dX3_tick_13 : decode cX3_tick 13 = .ok (.goto 15, 3) := by decide +kernel
theorem dX3_tick_16 : decode cX3_tick 16 = .ok (.aload_n 0, 1) := by decide +kernel
theorem dX3_tick_17 : decode cX3_tick 17 = .ok (.getfield 67, 3) := by decide +kernel
theorem dX3_tick_20 : decode cX3_tick 20 = .ok (.ifCond .eq 7, 3) := by decide +kernel
theorem dX3_tick_23 : decode cX3_tick 23 = .ok (.iconst 0, 1) := by decide +kernel
theorem dX3_tick_24 : decode cX3_tick 24 = .ok (.goto 4, 3) := by decide +kernel
theorem dX3_tick_27 : decode cX3_tick 27 = .ok (.iconst 2, 1) := by decide +kernel
theorem dX3_tick_28 : decode cX3_tick 28 = .ok (.invokevirtual 71, 3) := by decide +kernel
theorem dX3_tick_31 : decode cX3_tick 31 = .ok (.ifCond .ne 5, 3) := by decide +kernel
theorem dX3_tick_34 : decode cX3_tick 34 = .ok (.iconst 0, 1) := by decide +kernel
theorem dX3_tick_35 : decode cX3_tick 35 = .ok (.ireturn, 1) := by decide +kernel
theorem dX3_tick_36 : decode cX3_tick 36 = .ok (.iconst 0, 1) := by decide +kernel
theorem dX3_tick_37 : decode cX3_tick 37 = .ok (.istore_n 2, 1) := by decide +kernel
theorem dX3_tick_38 : decode cX3_tick 38 = .ok (.iload_n 2, 1) := by decide +kernel
theorem dX3_tick_39 : decode cX3_tick 39 = .ok (.iload_n 1, 1) := by decide +kernel
theorem dX3_tick_40 : decode cX3_tick 40 = .ok (.if_icmp .ge 20, 3) := by decide +kernel
theorem dX3_tick_43 : decode cX3_tick 43 = .ok (.aload_n 0, 1) := by decide +kernel
theorem dX3_tick_44 : decode cX3_tick 44 = .ok (.getfield 67, 3) := by decide +kernel
theorem dX3_tick_47 : decode cX3_tick 47 = .ok (.ifCond .eq 13, 3) := by decide +kernel
theorem dX3_tick_50 : decode cX3_tick 50 = .ok (.aload_n 0, 1) := by decide +kernel
theorem dX3_tick_51 : decode cX3_tick 51 = .ok (.invokevirtual 134, 3) := by decide +kernel
theorem dX3_tick_54 : decode cX3_tick 54 = .ok (.iinc 2 1, 3) := by decide +kernel
theorem dX3_tick_57 : decode cX3_tick 57 = .ok (.goto (-19), 3) := by decide +kernel
theorem dX3_tick_60 : decode cX3_tick 60 = .ok (.iload_n 2, 1) := by decide +kernel
theorem dX3_tick_61 : decode cX3_tick 61 = .ok (.ireturn, 1) := by decide +kernel
theorem dX3_goesOn_0 : decode cX3_goesOn 0 = .ok (.aload_n 0, 1) := by decide +kernel
theorem dX3_goesOn_1 : decode cX3_goesOn 1 = .ok (.iconst 0, 1) := by decide +kernel
theorem dX3_goesOn_2 : decode cX3_goesOn 2 = .ok (.putfield 56, 3) := by decide +kernel
theorem dX3_goesOn_5 : decode cX3_goesOn 5 = .ok (.aload_n 0, 1) := by decide +kernel
theorem dX3_goesOn_6 : decode cX3_goesOn 6 = .ok (.getfield 67, 3) := by decide +kernel
theorem dX3_goesOn_9 : decode cX3_goesOn 9 = .ok (.ireturn, 1) := by decide +kernel
set_option maxRecDepth 20000 in
theorem ggX3_state_X3_asks : GoodIn wsX3_state wsX3_asks := goodIn_r _ [6, 7, 8, 9, 5, 10, 11, 12, 13, 14, 15, 16, 17, 18, 19, 20, 21, 22, 23, 24, 25, 26, 27, 28, 29, 30, 31, 32, 33, 34, 35, 36, 37, 38, 39, 40, 41, 42] (by decide +kernel) (by decide +kernel)
set_option maxRecDepth 20000 in
theorem gX3_state_X3_asks : GoodIn wsX3_state (wsV RX3 89 RX3 yX3_asks wsX3_asks) := goodIn_app (goodIn_of _ (by decide +kernel)) ggX3_state_X3_asks
theorem dX3_state_0 : decode cX3_state 0 = .ok (.aload_n 0, 1) := by decide +kernel
theorem dX3_state_1 : decode cX3_state 1 = .ok (.iload_n 1, 1) := by decide +kernel
theorem dX3_state_2 : decode cX3_state 2 = .ok (.invokevirtual 89, 3) := by decide +kernel
theorem dX3_state_5 : decode cX3_state 5 = .ok (.ifCond .eq 12, 3) := by decide +kernel
theorem dX3_state_8 : decode cX3_state 8 = .ok (.aload_n 0, 1) := by decide +kernel
theorem dX3_state_9 : decode cX3_state 9 = .ok (.getfield 41, 3) := by decide +kernel
theorem dX3_state_12 : decode cX3_state 12 = .ok (.iload_n 1, 1) := by decide +kernel
theorem dX3_state_13 : decode cX3_state 13 = .ok (.iaload, 1) := by decide +kernel
theorem dX3_state_14 : decode cX3_state 14 = .ok (.goto 4, 3) := by decide +kernel
theorem dX3_state_17 : decode cX3_state 17 = .ok (.iconst 0, 1) := by decide +kernel
theorem dX3_state_18 : decode cX3_state 18 = .ok (.ireturn, 1) := by decide +kernel
set_option maxRecDepth 20000 in
theorem ggX3_waitsFor_X3_asks : GoodIn wsX3_waitsFor wsX3_asks := goodIn_r _ [7, 8, 9, 10, 6, 11, 1, 12, 13, 14, 15, 16, 17, 18, 19, 43, 44, 45, 46, 47, 48, 49, 50, 51, 52, 53, 54, 55, 56, 57, 58, 59, 60, 61, 62, 63, 64, 65] (by decide +kernel) (by decide +kernel)
set_option maxRecDepth 20000 in
theorem gX3_waitsFor_X3_asks : GoodIn wsX3_waitsFor (wsV RX3 89 RX3 yX3_asks wsX3_asks) := goodIn_app (goodIn_of _ (by decide +kernel)) ggX3_waitsFor_X3_asks
set_option maxRecDepth 20000 in
theorem ggX3_waitsFor_X3_waits : GoodIn wsX3_waitsFor wsX3_waits := goodIn_r _ [23, 24, 25, 2, 26, 27, 28, 6, 29, 30, 31, 32, 33, 34, 35, 36, 37, 38, 39, 40, 41, 42, 43, 44, 45, 46, 47, 48, 49, 50, 51, 52, 53, 54, 55, 56, 57, 58, 59, 60, 61, 62, 63, 64, 65] (by decide +kernel) (by decide +kernel)
set_option maxRecDepth 20000 in
theorem gX3_waitsFor_X3_waits : GoodIn wsX3_waitsFor (wsV RX3 120 RX3 yX3_waits wsX3_waits) := goodIn_app (goodIn_of _ (by decide +kernel)) ggX3_waitsFor_X3_waits
theorem dX3_waitsFor_0 : decode cX3_waitsFor 0 = .ok (.aload_n 0, 1) := by decide +kernel
theorem dX3_waitsFor_1 : decode cX3_waitsFor 1 = .ok (.iload_n 1, 1) := by decide +kernel
theorem dX3_waitsFor_2 : decode cX3_waitsFor 2 = .ok (.invokevirtual 89, 3) := by decide +kernel
theorem dX3_waitsFor_5 : decode cX3_waitsFor 5 = .ok (.ifCond .ne 5, 3) := by decide +kernel
theorem dX3_waitsFor_8 : decode cX3_waitsFor 8 = .ok (.iconst 0, 1) := by decide +kernel
theorem dX3_waitsFor_9 : decode cX3_waitsFor 9 = .ok (.ireturn, 1) := by decide +kernel
theorem dX3_waitsFor_10 : decode cX3_waitsFor 10 = .ok (.iconst (-1), 1) := by decide +kernel
theorem dX3_waitsFor_11 : decode cX3_waitsFor 11 = .ok (.istore_n 2, 1) := by decide +kernel
theorem dX3_waitsFor_12 : decode cX3_waitsFor 12 = .ok (.aload_n 0, 1) := by decide +kernel
theorem dX3_waitsFor_13 : decode cX3_waitsFor 13 = .ok (.getfield 60, 3) := by decide +kernel
theorem dX3_waitsFor_16 : decode cX3_waitsFor 16 = .ok (.iconst 1, 1) := by decide +kernel
theorem dX3_waitsFor_17 : decode cX3_waitsFor 17 = .ok (.isub, 1) := by decide +kernel
theorem dX3_waitsFor_18 : decode cX3_waitsFor 18 = .ok (.istore_n 3, 1) := by decide +kernel
theorem dX3_waitsFor_19 : decode cX3_waitsFor 19 = .ok (.iload_n 3, 1) := by decide +kernel
theorem dX3_waitsFor_20 : decode cX3_waitsFor 20 = .ok (.ifCond .lt 33, 3) := by decide +kernel
theorem dX3_waitsFor_23 : decode cX3_waitsFor 23 = .ok (.aload_n 0, 1) := by decide +kernel
theorem dX3_waitsFor_24 : decode cX3_waitsFor 24 = .ok (.getfield 41, 3) := by decide +kernel
theorem dX3_waitsFor_27 : decode cX3_waitsFor 27 = .ok (.iload_n 1, 1) := by decide +kernel
theorem dX3_waitsFor_28 : decode cX3_waitsFor 28 = .ok (.iaload, 1) := by decide +kernel
theorem dX3_waitsFor_29 : decode cX3_waitsFor 29 = .ok (.ifCond .ne 16, 3) := by decide +kernel
theorem dX3_waitsFor_32 : decode cX3_waitsFor 32 = .ok (.aload_n 0, 1) := by decide +kernel
theorem dX3_waitsFor_33 : decode cX3_waitsFor 33 = .ok (.iload_n 1, 1) := by decide +kernel
theorem dX3_waitsFor_34 : decode cX3_waitsFor 34 = .ok (.iload_n 3, 1) := by decide +kernel
theorem dX3_waitsFor_35 : decode cX3_waitsFor 35 = .ok (.invokevirtual 120, 3) := by decide +kernel
theorem dX3_waitsFor_38 : decode cX3_waitsFor 38 = .ok (.ifCond .eq 7, 3) := by decide +kernel
theorem dX3_waitsFor_41 : decode cX3_waitsFor 41 = .ok (.iload_n 3, 1) := by decide +kernel
theorem dX3_waitsFor_42 : decode cX3_waitsFor 42 = .ok (.goto 4, 3) := by decide +kernel
theorem dX3_waitsFor_45 : decode cX3_waitsFor 45 = .ok (.iload_n 2, 1) := by decide +kernel
theorem dX3_waitsFor_46 : decode cX3_waitsFor 46 = .ok (.istore_n 2, 1) := by decide +kernel
theorem dX3_waitsFor_47 : decode cX3_waitsFor 47 = .ok (.iinc 3 (-1), 3) := by decide +kernel
theorem dX3_waitsFor_50 : decode cX3_waitsFor 50 = .ok (.goto (-31), 3) := by decide +kernel
theorem dX3_waitsFor_53 : decode cX3_waitsFor 53 = .ok (.iload_n 2, 1) := by decide +kernel
theorem dX3_waitsFor_54 : decode cX3_waitsFor 54 = .ok (.ireturn, 1) := by decide +kernel
theorem dX3_bar_0 : decode cX3_bar 0 = .ok (.aload_n 0, 1) := by decide +kernel
theorem dX3_bar_1 : decode cX3_bar 1 = .ok (.iconst 0, 1) := by decide +kernel
theorem dX3_bar_2 : decode cX3_bar 2 = .ok (.putfield 56, 3) := by decide +kernel
theorem dX3_bar_5 : decode cX3_bar 5 = .ok (.aload_n 0, 1) := by decide +kernel
theorem dX3_bar_6 : decode cX3_bar 6 = .ok (.getfield 96, 3) := by decide +kernel
theorem dX3_bar_9 : decode cX3_bar 9 = .ok (.ifCond .eq 10, 3) := by decide +kernel
theorem dX3_bar_12 : decode cX3_bar 12 = .ok (.aload_n 0, 1) := by decide +kernel
theorem dX3_bar_13 : decode cX3_bar 13 = .ok (.getfield 105, 3) := by decide +kernel
theorem dX3_bar_16 : decode cX3_bar 16 = .ok (.goto 4, 3) := by decide +kernel
theorem dX3_bar_19 : decode cX3_bar 19 = .ok (.iconst 0, 1) := by decide +kernel
theorem dX3_bar_20 : decode cX3_bar 20 = .ok (.ireturn, 1) := by decide +kernel
theorem dX3_ready_0 : decode cX3_ready 0 = .ok (.aload_n 0, 1) := by decide +kernel
theorem dX3_ready_1 : decode cX3_ready 1 = .ok (.iconst 0, 1) := by decide +kernel
theorem dX3_ready_2 : decode cX3_ready 2 = .ok (.putfield 56, 3) := by decide +kernel
theorem dX3_ready_5 : decode cX3_ready 5 = .ok (.iconst 0, 1) := by decide +kernel
theorem dX3_ready_6 : decode cX3_ready 6 = .ok (.istore_n 1, 1) := by decide +kernel
theorem dX3_ready_7 : decode cX3_ready 7 = .ok (.iconst 0, 1) := by decide +kernel
theorem dX3_ready_8 : decode cX3_ready 8 = .ok (.istore_n 2, 1) := by decide +kernel
theorem dX3_ready_9 : decode cX3_ready 9 = .ok (.iload_n 2, 1) := by decide +kernel
theorem dX3_ready_10 : decode cX3_ready 10 = .ok (.aload_n 0, 1) := by decide +kernel
theorem dX3_ready_11 : decode cX3_ready 11 = .ok (.getfield 60, 3) := by decide +kernel
theorem dX3_ready_14 : decode cX3_ready 14 = .ok (.if_icmp .ge 29, 3) := by decide +kernel
theorem dX3_ready_17 : decode cX3_ready 17 = .ok (.iload_n 1, 1) := by decide +kernel
theorem dX3_ready_18 : decode cX3_ready 18 = .ok (.aload_n 0, 1) := by decide +kernel
theorem dX3_ready_19 : decode cX3_ready 19 = .ok (.getfield 41, 3) := by decide +kernel
theorem dX3_ready_22 : decode cX3_ready 22 = .ok (.iload_n 2, 1) := by decide +kernel
theorem dX3_ready_23 : decode cX3_ready 23 = .ok (.iaload, 1) := by decide +kernel
theorem dX3_ready_24 : decode cX3_ready 24 = .ok (.iconst 2, 1) := by decide +kernel
theorem dX3_ready_25 : decode cX3_ready 25 = .ok (.if_icmp .ne 9, 3) := by decide +kernel
theorem dX3_ready_28 : decode cX3_ready 28 = .ok (.iconst 1, 1) := by decide +kernel
theorem dX3_ready_29 : decode cX3_ready 29 = .ok (.iload_n 2, 1) := by decide +kernel
theorem dX3_ready_30 : decode cX3_ready 30 = .ok (.ishl, 1) := by decide +kernel
theorem dX3_ready_31 : decode cX3_ready 31 = .ok (.goto 4, 3) := by decide +kernel
theorem dX3_ready_34 : decode cX3_ready 34 = .ok (.iconst 0, 1) := by decide +kernel
theorem dX3_ready_35 : decode cX3_ready 35 = .ok (.ior, 1) := by decide +kernel
theorem dX3_ready_36 : decode cX3_ready 36 = .ok (.istore_n 1, 1) := by decide +kernel
theorem dX3_ready_37 : decode cX3_ready 37 = .ok (.iinc 2 1, 3) := by decide +kernel
theorem dX3_ready_40 : decode cX3_ready 40 = .ok (.goto (-31), 3) := by decide +kernel
theorem dX3_ready_43 : decode cX3_ready 43 = .ok (.iload_n 1, 1) := by decide +kernel
theorem dX3_ready_44 : decode cX3_ready 44 = .ok (.ireturn, 1) := by decide +kernel
set_option maxRecDepth 20000 in
theorem ggX3_canRunIn_X3_edge : GoodIn wsX3_canRunIn wsX3_edge := goodIn_r _ [10] (by decide +kernel) (by decide +kernel)
set_option maxRecDepth 20000 in
theorem gX3_canRunIn_X3_edge : GoodIn wsX3_canRunIn (va_wsS RX3 75 yX3_edge wsX3_edge) := goodIn_app (goodIn_of _ (by decide +kernel)) ggX3_canRunIn_X3_edge
theorem dX3_canRunIn_0 : decode cX3_canRunIn 0 = .ok (.aload_n 0, 1) := by decide +kernel
theorem dX3_canRunIn_1 : decode cX3_canRunIn 1 = .ok (.getfield 25, 3) := by decide +kernel
theorem dX3_canRunIn_4 : decode cX3_canRunIn 4 = .ok (.iload_n 1, 1) := by decide +kernel
theorem dX3_canRunIn_5 : decode cX3_canRunIn 5 = .ok (.baload, 1) := by decide +kernel
theorem dX3_canRunIn_6 : decode cX3_canRunIn 6 = .ok (.ifCond .ne 22, 3) := by decide +kernel
theorem dX3_canRunIn_9 : decode cX3_canRunIn 9 = .ok (.aload_n 0, 1) := by decide +kernel
theorem dX3_canRunIn_10 : decode cX3_canRunIn 10 = .ok (.getfield 19, 3) := by decide +kernel
theorem dX3_canRunIn_13 : decode cX3_canRunIn 13 = .ok (.iload_n 1, 1) := by decide +kernel
theorem dX3_canRunIn_14 : decode cX3_canRunIn 14 = .ok (.iaload, 1) := by decide +kernel
theorem dX3_canRunIn_15 : decode cX3_canRunIn 15 = .ok (.aload_n 0, 1) := by decide +kernel
theorem dX3_canRunIn_16 : decode cX3_canRunIn 16 = .ok (.getfield 16, 3) := by decide +kernel
theorem dX3_canRunIn_19 : decode cX3_canRunIn 19 = .ok (.iload_n 1, 1) := by decide +kernel
theorem dX3_canRunIn_20 : decode cX3_canRunIn 20 = .ok (.iaload, 1) := by decide +kernel
theorem dX3_canRunIn_21 : decode cX3_canRunIn 21 = .ok (.if_icmp .gt 7, 3) := by decide +kernel
theorem dX3_canRunIn_24 : decode cX3_canRunIn 24 = .ok (.iconst 1, 1) := by decide +kernel
theorem dX3_canRunIn_25 : decode cX3_canRunIn 25 = .ok (.goto 4, 3) := by decide +kernel
theorem dX3_canRunIn_28 : decode cX3_canRunIn 28 = .ok (.iconst 0, 1) := by decide +kernel
theorem dX3_canRunIn_29 : decode cX3_canRunIn 29 = .ok (.istore_n 3, 1) := by decide +kernel
theorem dX3_canRunIn_30 : decode cX3_canRunIn 30 = .ok (.iconst 0, 1) := by decide +kernel
theorem dX3_canRunIn_31 : decode cX3_canRunIn 31 = .ok (.istore 4, 2) := by decide +kernel
theorem dX3_canRunIn_33 : decode cX3_canRunIn 33 = .ok (.iload 4, 2) := by decide +kernel
theorem dX3_canRunIn_35 : decode cX3_canRunIn 35 = .ok (.aload_n 0, 1) := by decide +kernel
theorem dX3_canRunIn_36 : decode cX3_canRunIn 36 = .ok (.getfield 60, 3) := by decide +kernel
theorem dX3_canRunIn_39 : decode cX3_canRunIn 39 = .ok (.if_icmp .ge 81, 3) := by decide +kernel
theorem dX3_canRunIn_42 : decode cX3_canRunIn 42 = .ok (.iload_n 2, 1) := by decide +kernel
theorem dX3_canRunIn_43 : decode cX3_canRunIn 43 = .ok (.iload 4, 2) := by decide +kernel
theorem dX3_canRunIn_45 : decode cX3_canRunIn 45 = .ok (.ishr, 1) := by decide +kernel
theorem dX3_canRunIn_46 : decode cX3_canRunIn 46 = .ok (.iconst 1, 1) := by decide +kernel
theorem dX3_canRunIn_47 : decode cX3_canRunIn 47 = .ok (.iand, 1) := by decide +kernel
theorem dX3_canRunIn_48 : decode cX3_canRunIn 48 = .ok (.iconst 1, 1) := by decide +kernel
theorem dX3_canRunIn_49 : decode cX3_canRunIn 49 = .ok (.if_icmp .eq 29, 3) := by decide +kernel
theorem dX3_canRunIn_52 : decode cX3_canRunIn 52 = .ok (.aload_n 0, 1) := by decide +kernel
theorem dX3_canRunIn_53 : decode cX3_canRunIn 53 = .ok (.getfield 22, 3) := by decide +kernel
theorem dX3_canRunIn_56 : decode cX3_canRunIn 56 = .ok (.iload 4, 2) := by decide +kernel
theorem dX3_canRunIn_58 : decode cX3_canRunIn 58 = .ok (.iaload, 1) := by decide +kernel
theorem dX3_canRunIn_59 : decode cX3_canRunIn 59 = .ok (.iconst (-1), 1) := by decide +kernel
theorem dX3_canRunIn_60 : decode cX3_canRunIn 60 = .ok (.if_icmp .eq 22, 3) := by decide +kernel
theorem dX3_canRunIn_63 : decode cX3_canRunIn 63 = .ok (.iload_n 2, 1) := by decide +kernel
theorem dX3_canRunIn_64 : decode cX3_canRunIn 64 = .ok (.aload_n 0, 1) := by decide +kernel
theorem dX3_canRunIn_65 : decode cX3_canRunIn 65 = .ok (.getfield 22, 3) := by decide +kernel
theorem dX3_canRunIn_68 : decode cX3_canRunIn 68 = .ok (.iload 4, 2) := by decide +kernel
theorem dX3_canRunIn_70 : decode cX3_canRunIn 70 = .ok (.iaload, 1) := by decide +kernel
theorem dX3_canRunIn_71 : decode cX3_canRunIn 71 = .ok (.ishr, 1) := by decide +kernel
theorem dX3_canRunIn_72 : decode cX3_canRunIn 72 = .ok (.iconst 1, 1) := by decide +kernel
theorem dX3_canRunIn_73 : decode cX3_canRunIn 73 = .ok (.iand, 1) := by decide +kernel
theorem dX3_canRunIn_74 : decode cX3_canRunIn 74 = .ok (.iconst 1, 1) := by decide +kernel
theorem dX3_canRunIn_75 : decode cX3_canRunIn 75 = .ok (.if_icmp .ne 7, 3) := by decide +kernel
theorem dX3_canRunIn_78 : decode cX3_canRunIn 78 = .ok (.iconst 1, 1) := by decide +kernel
theorem dX3_canRunIn_79 : decode cX3_canRunIn 79 = .ok (.goto 4, 3) := by decide +kernel
theorem dX3_canRunIn_82 : decode cX3_canRunIn 82 = .ok (.iconst 0, 1) := by decide +kernel
theorem dX3_canRunIn_83 : decode cX3_canRunIn 83 = .ok (.istore 5, 2) := by decide +kernel
theorem dX3_canRunIn_85 : decode cX3_canRunIn 85 = .ok (.iload_n 3, 1) := by decide +kernel
theorem dX3_canRunIn_86 : decode cX3_canRunIn 86 = .ok (.ifCond .eq 26, 3) := by decide +kernel
theorem dX3_canRunIn_89 : decode cX3_canRunIn 89 = .ok (.aload_n 0, 1) := by decide +kernel
theorem dX3_canRunIn_90 : decode cX3_canRunIn 90 = .ok (.getfield 29, 3) := by decide +kernel
theorem dX3_canRunIn_93 : decode cX3_canRunIn 93 = .ok (.iload_n 1, 1) := by decide +kernel
theorem dX3_canRunIn_94 : decode cX3_canRunIn 94 = .ok (.iload 4, 2) := by decide +kernel
theorem dX3_canRunIn_96 : decode cX3_canRunIn 96 = .ok (.invokestatic 75, 3) := by decide +kernel
theorem dX3_canRunIn_99 : decode cX3_canRunIn 99 = .ok (.baload, 1) := by decide +kernel
theorem dX3_canRunIn_100 : decode cX3_canRunIn 100 = .ok (.ifCond .eq 8, 3) := by decide +kernel
theorem dX3_canRunIn_103 : decode cX3_canRunIn 103 = .ok (.iload 5, 2) := by decide +kernel
theorem dX3_canRunIn_105 : decode cX3_canRunIn 105 = .ok (.ifCond .eq 7, 3) := by decide +kernel
theorem dX3_canRunIn_108 : decode cX3_canRunIn 108 = .ok (.iconst 1, 1) := by decide +kernel
theorem dX3_canRunIn_109 : decode cX3_canRunIn 109 = .ok (.goto 4, 3) := by decide +kernel
theorem dX3_canRunIn_112 : decode cX3_canRunIn 112 = .ok (.iconst 0, 1) := by decide +kernel
theorem dX3_canRunIn_113 : decode cX3_canRunIn 113 = .ok (.istore_n 3, 1) := by decide +kernel
theorem dX3_canRunIn_114 : decode cX3_canRunIn 114 = .ok (.iinc 4 1, 3) := by decide +kernel
theorem dX3_canRunIn_117 : decode cX3_canRunIn 117 = .ok (.goto (-84), 3) := by decide +kernel
theorem dX3_canRunIn_120 : decode cX3_canRunIn 120 = .ok (.iload_n 3, 1) := by decide +kernel
theorem dX3_canRunIn_121 : decode cX3_canRunIn 121 = .ok (.ireturn, 1) := by decide +kernel
set_option maxRecDepth 20000 in
theorem ggX3_canRun_X3_canRunIn : GoodIn wsX3_canRun wsX3_canRunIn := goodIn_r _ [7, 8, 9, 10, 2, 11, 12, 13, 14, 6, 15, 16, 17, 18, 19, 20, 21, 22, 23, 24, 25, 26, 27, 28, 29, 30, 31, 32, 33, 34, 35, 36, 37, 38] (by decide +kernel) (by decide +kernel)
set_option maxRecDepth 20000 in
theorem gX3_canRun_X3_canRunIn : GoodIn wsX3_canRun (wsV RX3 137 RX3 yX3_canRunIn wsX3_canRunIn) := goodIn_app (goodIn_of _ (by decide +kernel)) ggX3_canRun_X3_canRunIn
theorem dX3_canRun_0 : decode cX3_canRun 0 = .ok (.aload_n 0, 1) := by decide +kernel
theorem dX3_canRun_1 : decode cX3_canRun 1 = .ok (.iconst 0, 1) := by decide +kernel
theorem dX3_canRun_2 : decode cX3_canRun 2 = .ok (.putfield 56, 3) := by decide +kernel
theorem dX3_canRun_5 : decode cX3_canRun 5 = .ok (.iconst 1, 1) := by decide +kernel
theorem dX3_canRun_6 : decode cX3_canRun 6 = .ok (.aload_n 0, 1) := by decide +kernel
theorem dX3_canRun_7 : decode cX3_canRun 7 = .ok (.getfield 60, 3) := by decide +kernel
theorem dX3_canRun_10 : decode cX3_canRun 10 = .ok (.ishl, 1) := by decide +kernel
theorem dX3_canRun_11 : decode cX3_canRun 11 = .ok (.iconst 1, 1) := by decide +kernel
theorem dX3_canRun_12 : decode cX3_canRun 12 = .ok (.isub, 1) := by decide +kernel
theorem dX3_canRun_13 : decode cX3_canRun 13 = .ok (.istore_n 1, 1) := by decide +kernel
theorem dX3_canRun_14 : decode cX3_canRun 14 = .ok (.iconst 0, 1) := by decide +kernel
theorem dX3_canRun_15 : decode cX3_canRun 15 = .ok (.istore_n 2, 1) := by decide +kernel
theorem dX3_canRun_16 : decode cX3_canRun 16 = .ok (.iload_n 2, 1) := by decide +kernel
theorem dX3_canRun_17 : decode cX3_canRun 17 = .ok (.iload_n 1, 1) := by decide +kernel
theorem dX3_canRun_18 : decode cX3_canRun 18 = .ok (.if_icmp .eq 53, 3) := by decide +kernel
theorem dX3_canRun_21 : decode cX3_canRun 21 = .ok (.iload_n 1, 1) := by decide +kernel
theorem dX3_canRun_22 : decode cX3_canRun 22 = .ok (.istore_n 2, 1) := by decide +kernel
theorem dX3_canRun_23 : decode cX3_canRun 23 = .ok (.iconst 0, 1) := by decide +kernel
theorem dX3_canRun_24 : decode cX3_canRun 24 = .ok (.istore_n 3, 1) := by decide +kernel
theorem dX3_canRun_25 : decode cX3_canRun 25 = .ok (.iload_n 3, 1) := by decide +kernel
theorem dX3_canRun_26 : decode cX3_canRun 26 = .ok (.aload_n 0, 1) := by decide +kernel
theorem dX3_canRun_27 : decode cX3_canRun 27 = .ok (.getfield 60, 3) := by decide +kernel
theorem dX3_canRun_30 : decode cX3_canRun 30 = .ok (.if_icmp .ge 38, 3) := by decide +kernel
theorem dX3_canRun_33 : decode cX3_canRun 33 = .ok (.iload_n 1, 1) := by decide +kernel
theorem dX3_canRun_34 : decode cX3_canRun 34 = .ok (.iload_n 1, 1) := by decide +kernel
theorem dX3_canRun_35 : decode cX3_canRun 35 = .ok (.iload_n 3, 1) := by decide +kernel
theorem dX3_canRun_36 : decode cX3_canRun 36 = .ok (.ishr, 1) := by decide +kernel
theorem dX3_canRun_37 : decode cX3_canRun 37 = .ok (.iconst 1, 1) := by decide +kernel
theorem dX3_canRun_38 : decode cX3_canRun 38 = .ok (.iand, 1) := by decide +kernel
theorem dX3_canRun_39 : decode cX3_canRun 39 = .ok (.ifCond .eq 12, 3) := by decide +kernel
theorem dX3_canRun_42 : decode cX3_canRun 42 = .ok (.aload_n 0, 1) := by decide +kernel
theorem dX3_canRun_43 : decode cX3_canRun 43 = .ok (.iload_n 3, 1) := by decide +kernel
theorem dX3_canRun_44 : decode cX3_canRun 44 = .ok (.iload_n 1, 1) := by decide +kernel
theorem dX3_canRun_45 : decode cX3_canRun 45 = .ok (.invokevirtual 137, 3) := by decide +kernel
theorem dX3_canRun_48 : decode cX3_canRun 48 = .ok (.ifCond .eq 7, 3) := by decide +kernel
theorem dX3_canRun_51 : decode cX3_canRun 51 = .ok (.iload_n 1, 1) := by decide +kernel
theorem dX3_canRun_52 : decode cX3_canRun 52 = .ok (.goto 8, 3) := by decide +kernel
theorem dX3_canRun_55 : decode cX3_canRun 55 = .ok (.iconst 1, 1) := by decide +kernel
theorem dX3_canRun_56 : decode cX3_canRun 56 = .ok (.iload_n 3, 1) := by decide +kernel
theorem dX3_canRun_57 : decode cX3_canRun 57 = .ok (.ishl, 1) := by decide +kernel
theorem dX3_canRun_58 : decode cX3_canRun 58 = .ok (.iconst (-1), 1) := by decide +kernel
theorem dX3_canRun_59 : decode cX3_canRun 59 = .ok (.ixor, 1) := by decide +kernel
theorem dX3_canRun_60 : decode cX3_canRun 60 = .ok (.iand, 1) := by decide +kernel
theorem dX3_canRun_61 : decode cX3_canRun 61 = .ok (.istore_n 1, 1) := by decide +kernel
theorem dX3_canRun_62 : decode cX3_canRun 62 = .ok (.iinc 3 1, 3) := by decide +kernel
theorem dX3_canRun_65 : decode cX3_canRun 65 = .ok (.goto (-40), 3) := by decide +kernel
theorem dX3_canRun_68 : decode cX3_canRun 68 = .ok (.goto (-52), 3) := by decide +kernel
theorem dX3_canRun_71 : decode cX3_canRun 71 = .ok (.iload_n 1, 1) := by decide +kernel
theorem dX3_canRun_72 : decode cX3_canRun 72 = .ok (.ireturn, 1) := by decide +kernel
theorem dJ9_max_7cf53_0 : decode cJ9_max_7cf53 0 = .ok (.iload_n 0, 1) := by decide +kernel
theorem dJ9_max_7cf53_1 : decode cJ9_max_7cf53 1 = .ok (.iload_n 1, 1) := by decide +kernel
theorem dJ9_max_7cf53_2 : decode cJ9_max_7cf53 2 = .ok (.if_icmp .lt 7, 3) := by decide +kernel
theorem dJ9_max_7cf53_5 : decode cJ9_max_7cf53 5 = .ok (.iload_n 0, 1) := by decide +kernel
theorem dJ9_max_7cf53_6 : decode cJ9_max_7cf53 6 = .ok (.goto 4, 3) := by decide +kernel
theorem dJ9_max_7cf53_9 : decode cJ9_max_7cf53 9 = .ok (.iload_n 1, 1) := by decide +kernel
theorem dJ9_max_7cf53_10 : decode cJ9_max_7cf53 10 = .ok (.ireturn, 1) := by decide +kernel
theorem dJ9_min_7cf53_0 : decode cJ9_min_7cf53 0 = .ok (.iload_n 0, 1) := by decide +kernel
theorem dJ9_min_7cf53_1 : decode cJ9_min_7cf53 1 = .ok (.iload_n 1, 1) := by decide +kernel
theorem dJ9_min_7cf53_2 : decode cJ9_min_7cf53 2 = .ok (.if_icmp .gt 7, 3) := by decide +kernel
theorem dJ9_min_7cf53_5 : decode cJ9_min_7cf53 5 = .ok (.iload_n 0, 1) := by decide +kernel
theorem dJ9_min_7cf53_6 : decode cJ9_min_7cf53 6 = .ok (.goto 4, 3) := by decide +kernel
theorem dJ9_min_7cf53_9 : decode cJ9_min_7cf53 9 = .ok (.iload_n 1, 1) := by decide +kernel
theorem dJ9_min_7cf53_10 : decode cJ9_min_7cf53 10 = .ok (.ireturn, 1) := by decide +kernel
theorem dJxa1e45_init_da8c8_0 : decode cJxa1e45_init_da8c8 0 = .ok (.aload_n 0, 1) := by decide +kernel
theorem dJxa1e45_init_da8c8_1 : decode cJxa1e45_init_da8c8 1 = .ok (.invokespecial 1, 3) := by decide +kernel
theorem dJxa1e45_init_da8c8_4 : decode cJxa1e45_init_da8c8 4 = .ok (.return_, 1) := by decide +kernel
set_option maxRecDepth 20000 in
theorem ggJxc12de_init_da8c8_Jxa1e45_init_da8c8 : GoodIn wsJxc12de_init_da8c8 wsJxa1e45_init_da8c8 := goodIn_r _ [5, 6, 7, 8] (by decide +kernel) (by decide +kernel)
set_option maxRecDepth 20000 in
theorem gJxc12de_init_da8c8_Jxa1e45_init_da8c8 : GoodIn wsJxc12de_init_da8c8 (wsJxa1e45_init_da8c8) := ggJxc12de_init_da8c8_Jxa1e45_init_da8c8
theorem dJxc12de_init_da8c8_0 : decode cJxc12de_init_da8c8 0 = .ok (.aload_n 0, 1) := by decide +kernel
theorem dJxc12de_init_da8c8_1 : decode cJxc12de_init_da8c8 1 = .ok (.invokespecial 1, 3) := by decide +kernel
theorem dJxc12de_init_da8c8_4 : decode cJxc12de_init_da8c8 4 = .ok (.aload_n 0, 1) := by decide +kernel
theorem dJxc12de_init_da8c8_5 : decode cJxc12de_init_da8c8 5 = .ok (.iconst 0, 1) := by decide +kernel
theorem dJxc12de_init_da8c8_6 : decode cJxc12de_init_da8c8 6 = .ok (.putfield 7, 3) := by decide +kernel
theorem dJxc12de_init_da8c8_9 : decode cJxc12de_init_da8c8 9 = .ok (.return_, 1) := by decide +kernel
set_option maxRecDepth 20000 in
theorem ggJx4a65c_init_da8c8_Jxc12de_init_da8c8 : GoodIn wsJx4a65c_init_da8c8 wsJxc12de_init_da8c8 := goodIn_r _ [6, 7, 8, 9, 10, 11, 12, 13, 14, 15, 16, 17] (by decide +kernel) (by decide +kernel)
set_option maxRecDepth 20000 in
theorem gJx4a65c_init_da8c8_Jxc12de_init_da8c8 : GoodIn wsJx4a65c_init_da8c8 (wsJxc12de_init_da8c8) := ggJx4a65c_init_da8c8_Jxc12de_init_da8c8
theorem dJx4a65c_init_da8c8_0 : decode cJx4a65c_init_da8c8 0 = .ok (.aload_n 0, 1) := by decide +kernel
theorem dJx4a65c_init_da8c8_1 : decode cJx4a65c_init_da8c8 1 = .ok (.invokespecial 1, 3) := by decide +kernel
theorem dJx4a65c_init_da8c8_4 : decode cJx4a65c_init_da8c8 4 = .ok (.aload_n 0, 1) := by decide +kernel
theorem dJx4a65c_init_da8c8_5 : decode cJx4a65c_init_da8c8 5 = .ok (.getstatic 39, 3) := by decide +kernel
theorem dJx4a65c_init_da8c8_8 : decode cJx4a65c_init_da8c8 8 = .ok (.putfield 9, 3) := by decide +kernel
theorem dJx4a65c_init_da8c8_11 : decode cJx4a65c_init_da8c8 11 = .ok (.return_, 1) := by decide +kernel
set_option maxRecDepth 20000 in
theorem ggJx4a65c_grow_92f84_J8_newLength_cabcc : GoodIn wsJx4a65c_grow_92f84 wsJ8_newLength_cabcc := goodIn_r _ [11, 12, 4, 5, 6, 13, 14, 15, 10, 16] (by decide +kernel) (by decide +kernel)
set_option maxRecDepth 20000 in
theorem gJx4a65c_grow_92f84_J8_newLength_cabcc : GoodIn wsJx4a65c_grow_92f84 (va_wsS RJx4a65c 73 yJ8_newLength_cabcc wsJ8_newLength_cabcc) := goodIn_app (goodIn_of _ (by decide +kernel)) ggJx4a65c_grow_92f84_J8_newLength_cabcc
set_option maxRecDepth 20000 in
theorem ggJx4a65c_grow_92f84_J7_copyOf_1904c : GoodIn wsJx4a65c_grow_92f84 wsJ7_copyOf_1904c := goodIn_r _ [20, 21, 22, 23, 24, 25, 26, 19, 27, 28, 29, 30, 31, 5, 32, 33, 34, 35, 36] (by decide +kernel) (by decide +kernel)
set_option maxRecDepth 20000 in
theorem gJx4a65c_grow_92f84_J7_copyOf_1904c : GoodIn wsJx4a65c_grow_92f84 (va_wsS RJx4a65c 66 yJ7_copyOf_1904c wsJ7_copyOf_1904c) := goodIn_app (goodIn_of _ (by decide +kernel)) ggJx4a65c_grow_92f84_J7_copyOf_1904c
theorem dJx4a65c_grow_92f84_0 : decode cJx4a65c_grow_92f84 0 = .ok (.aload_n 0, 1) := by decide +kernel
theorem dJx4a65c_grow_92f84_1 : decode cJx4a65c_grow_92f84 1 = .ok (.getfield 9, 3) := by decide +kernel
theorem dJx4a65c_grow_92f84_4 : decode cJx4a65c_grow_92f84 4 = .ok (.arraylength, 1) := by decide +kernel
theorem dJx4a65c_grow_92f84_5 : decode cJx4a65c_grow_92f84 5 = .ok (.istore_n 2, 1) := by decide +kernel
theorem dJx4a65c_grow_92f84_6 : decode cJx4a65c_grow_92f84 6 = .ok (.iload_n 2, 1) := by decide +kernel
theorem dJx4a65c_grow_92f84_7 : decode cJx4a65c_grow_92f84 7 = .ok (.ifCond .gt 13, 3) := by decide +kernel
theorem dJx4a65c_grow_92f84_10 : decode cJx4a65c_grow_92f84 10 = .ok (.aload_n 0, 1) := by decide +kernel
theorem dJx4a65c_grow_92f84_11 : decode cJx4a65c_grow_92f84 11 = .ok (.getfield 9, 3) := by decide +kernel
theorem dJx4a65c_grow_92f84_14 : decode cJx4a65c_grow_92f84 14 = .ok (.getstatic 39, 3) := by decide +kernel
theorem dJx4a65c_grow_92f84_17 : decode cJx4a65c_grow_92f84 17 = .ok (.if_acmp .eq 28, 3) := by decide +kernel
theorem dJx4a65c_grow_92f84_20 : decode cJx4a65c_grow_92f84 20 = .ok (.iload_n 2, 1) := by decide +kernel
theorem dJx4a65c_grow_92f84_21 : decode cJx4a65c_grow_92f84 21 = .ok (.iload_n 1, 1) := by decide +kernel
theorem dJx4a65c_grow_92f84_22 : decode cJx4a65c_grow_92f84 22 = .ok (.iload_n 2, 1) := by decide +kernel
theorem dJx4a65c_grow_92f84_23 : decode cJx4a65c_grow_92f84 23 = .ok (.isub, 1) := by decide +kernel
theorem dJx4a65c_grow_92f84_24 : decode cJx4a65c_grow_92f84 24 = .ok (.iload_n 2, 1) := by decide +kernel
theorem dJx4a65c_grow_92f84_25 : decode cJx4a65c_grow_92f84 25 = .ok (.iconst 1, 1) := by decide +kernel
theorem dJx4a65c_grow_92f84_26 : decode cJx4a65c_grow_92f84 26 = .ok (.ishr, 1) := by decide +kernel
theorem dJx4a65c_grow_92f84_27 : decode cJx4a65c_grow_92f84 27 = .ok (.invokestatic 73, 3) := by decide +kernel
theorem dJx4a65c_grow_92f84_30 : decode cJx4a65c_grow_92f84 30 = .ok (.istore_n 3, 1) := by decide +kernel
theorem dJx4a65c_grow_92f84_31 : decode cJx4a65c_grow_92f84 31 = .ok (.aload_n 0, 1) := by decide +kernel
theorem dJx4a65c_grow_92f84_32 : decode cJx4a65c_grow_92f84 32 = .ok (.aload_n 0, 1) := by decide +kernel
theorem dJx4a65c_grow_92f84_33 : decode cJx4a65c_grow_92f84 33 = .ok (.getfield 9, 3) := by decide +kernel
theorem dJx4a65c_grow_92f84_36 : decode cJx4a65c_grow_92f84 36 = .ok (.iload_n 3, 1) := by decide +kernel
theorem dJx4a65c_grow_92f84_37 : decode cJx4a65c_grow_92f84 37 = .ok (.invokestatic 66, 3) := by decide +kernel
theorem dJx4a65c_grow_92f84_40 : decode cJx4a65c_grow_92f84 40 = .ok (.dup_x1, 1) := by decide +kernel
theorem dJx4a65c_grow_92f84_41 : decode cJx4a65c_grow_92f84 41 = .ok (.putfield 9, 3) := by decide +kernel
theorem dJx4a65c_grow_92f84_44 : decode cJx4a65c_grow_92f84 44 = .ok (.areturn, 1) := by decide +kernel
theorem dJx4a65c_grow_92f84_45 : decode cJx4a65c_grow_92f84 45 = .ok (.aload_n 0, 1) := by decide +kernel
theorem dJx4a65c_grow_92f84_46 : decode cJx4a65c_grow_92f84 46 = .ok (.bipush 10, 2) := by decide +kernel
theorem dJx4a65c_grow_92f84_48 : decode cJx4a65c_grow_92f84 48 = .ok (.iload_n 1, 1) := by decide +kernel
theorem dJx4a65c_grow_92f84_49 : decode cJx4a65c_grow_92f84 49 = .ok (.invokestatic 79, 3) := by decide +kernel
theorem dJx4a65c_grow_92f84_52 : decode cJx4a65c_grow_92f84 52 = .ok (.anewarray 7, 3) := by decide +kernel
theorem dJx4a65c_grow_92f84_55 : decode cJx4a65c_grow_92f84 55 = .ok (.dup_x1, 1) := by decide +kernel
theorem dJx4a65c_grow_92f84_56 : decode cJx4a65c_grow_92f84 56 = .ok (.putfield 9, 3) := by decide +kernel
theorem dJx4a65c_grow_92f84_59 : decode cJx4a65c_grow_92f84 59 = .ok (.areturn, 1) := by decide +kernel
set_option maxRecDepth 20000 in
theorem ggJx4a65c_grow_d5877_Jx4a65c_grow_92f84 : GoodIn wsJx4a65c_grow_d5877 wsJx4a65c_grow_92f84 := goodIn_r _ [6, 7, 8, 9, 10, 11, 12, 13, 14, 15, 16, 17, 18, 19, 20, 21, 22, 23, 24, 25, 26, 27, 28, 29, 30, 31, 32, 33, 34, 35, 36, 37, 38, 39, 40, 41, 42, 43, 44, 45] (by decide +kernel) (by decide +kernel)
set_option maxRecDepth 20000 in
theorem gJx4a65c_grow_d5877_Jx4a65c_grow_92f84 : GoodIn wsJx4a65c_grow_d5877 (wsV RJx4a65c 69 RJx4a65c yJx4a65c_grow_92f84 wsJx4a65c_grow_92f84) := goodIn_app (goodIn_of _ (by decide +kernel)) ggJx4a65c_grow_d5877_Jx4a65c_grow_92f84
theorem dJx4a65c_grow_d5877_0 : decode cJx4a65c_grow_d5877 0 = .ok (.aload_n 0, 1) := by decide +kernel
theorem dJx4a65c_grow_d5877_1 : decode cJx4a65c_grow_d5877 1 = .ok (.aload_n 0, 1) := by decide +kernel
theorem dJx4a65c_grow_d5877_2 : decode cJx4a65c_grow_d5877 2 = .ok (.getfield 48, 3) := by decide +kernel
theorem dJx4a65c_grow_d5877_5 : decode cJx4a65c_grow_d5877 5 = .ok (.iconst 1, 1) := by decide +kernel
theorem dJx4a65c_grow_d5877_6 : decode cJx4a65c_grow_d5877 6 = .ok (.iadd, 1) := by decide +kernel
theorem dJx4a65c_grow_d5877_7 : decode cJx4a65c_grow_d5877 7 = .ok (.invokevirtual 69, 3) := by decide +kernel
theorem dJx4a65c_grow_d5877_10 : decode cJx4a65c_grow_d5877 10 = .ok (.areturn, 1) := by decide +kernel
theorem dJx4a65c_size_8abf5_0 : decode cJx4a65c_size_8abf5 0 = .ok (.aload_n 0, 1) := by decide +kernel
theorem dJx4a65c_size_8abf5_1 : decode cJx4a65c_size_8abf5 1 = .ok (.getfield 48, 3) := by decide +kernel
theorem dJx4a65c_size_8abf5_4 : decode cJx4a65c_size_8abf5 4 = .ok (.ireturn, 1) := by decide +kernel
theorem dJx4a65c_elementData_915e3_0 : decode cJx4a65c_elementData_915e3 0 = .ok (.aload_n 0, 1) := by decide +kernel
theorem dJx4a65c_elementData_915e3_1 : decode cJx4a65c_elementData_915e3 1 = .ok (.getfield 9, 3) := by decide +kernel
theorem dJx4a65c_elementData_915e3_4 : decode cJx4a65c_elementData_915e3 4 = .ok (.iload_n 1, 1) := by decide +kernel
theorem dJx4a65c_elementData_915e3_5 : decode cJx4a65c_elementData_915e3 5 = .ok (.aaload, 1) := by decide +kernel
theorem dJx4a65c_elementData_915e3_6 : decode cJx4a65c_elementData_915e3 6 = .ok (.areturn, 1) := by decide +kernel
set_option maxRecDepth 20000 in
theorem ggJx4a65c_get_915e3_J15_checkIndex_7cf53 : GoodIn wsJx4a65c_get_915e3 wsJ15_checkIndex_7cf53 := goodIn_r _ [5, 6, 7, 8, 9] (by decide +kernel) (by decide +kernel)
set_option maxRecDepth 20000 in
theorem gJx4a65c_get_915e3_J15_checkIndex_7cf53 : GoodIn wsJx4a65c_get_915e3 (va_wsS RJx4a65c 118 yJ15_checkIndex_7cf53 wsJ15_checkIndex_7cf53) := goodIn_app (goodIn_of _ (by decide +kernel)) ggJx4a65c_get_915e3_J15_checkIndex_7cf53
set_option maxRecDepth 20000 in
theorem ggJx4a65c_get_915e3_Jx4a65c_elementData_915e3 : GoodIn wsJx4a65c_get_915e3 wsJx4a65c_elementData_915e3 := goodIn_r _ [14, 15, 16, 17, 18] (by decide +kernel) (by decide +kernel)
set_option maxRecDepth 20000 in
theorem gJx4a65c_get_915e3_Jx4a65c_elementData_915e3 : GoodIn wsJx4a65c_get_915e3 (wsV RJx4a65c 123 RJx4a65c yJx4a65c_elementData_915e3 wsJx4a65c_elementData_915e3) := goodIn_app (goodIn_of _ (by decide +kernel)) ggJx4a65c_get_915e3_Jx4a65c_elementData_915e3
theorem dJx4a65c_get_915e3_0 : decode cJx4a65c_get_915e3 0 = .ok (.iload_n 1, 1) := by decide +kernel
theorem dJx4a65c_get_915e3_1 : decode cJx4a65c_get_915e3 1 = .ok (.aload_n 0, 1) := by decide +kernel
theorem dJx4a65c_get_915e3_2 : decode cJx4a65c_get_915e3 2 = .ok (.getfield 48, 3) := by decide +kernel
theorem dJx4a65c_get_915e3_5 : decode cJx4a65c_get_915e3 5 = .ok (.invokestatic 118, 3) := by decide +kernel
theorem dJx4a65c_get_915e3_8 : decode cJx4a65c_get_915e3 8 = .ok (.pop, 1) := by decide +kernel
theorem dJx4a65c_get_915e3_9 : decode cJx4a65c_get_915e3 9 = .ok (.aload_n 0, 1) := by decide +kernel
theorem dJx4a65c_get_915e3_10 : decode cJx4a65c_get_915e3 10 = .ok (.iload_n 1, 1) := by decide +kernel
theorem dJx4a65c_get_915e3_11 : decode cJx4a65c_get_915e3 11 = .ok (.invokevirtual 123, 3) := by decide +kernel
theorem dJx4a65c_get_915e3_14 : decode cJx4a65c_get_915e3 14 = .ok (.areturn, 1) := by decide +kernel
set_option maxRecDepth 20000 in
theorem ggJx4a65c_add_72be8_Jx4a65c_grow_d5877 : GoodIn wsJx4a65c_add_72be8 wsJx4a65c_grow_d5877 := goodIn_r _ [6, 1, 7, 8, 9, 5, 10, 11, 12, 13, 14, 15, 16, 17, 18, 19, 20, 21, 22, 23, 24, 25, 26, 27, 28, 29, 30, 31, 32, 33, 34, 35, 36, 37, 38, 39, 40, 41, 42, 43, 44, 45, 46, 47, 48, 49] (by decide +kernel) (by decide +kernel)
set_option maxRecDepth 20000 in
theorem gJx4a65c_add_72be8_Jx4a65c_grow_d5877 : GoodIn wsJx4a65c_add_72be8 (wsV RJx4a65c 129 RJx4a65c yJx4a65c_grow_d5877 wsJx4a65c_grow_d5877) := goodIn_app (goodIn_of _ (by decide +kernel)) ggJx4a65c_add_72be8_Jx4a65c_grow_d5877
theorem dJx4a65c_add_72be8_0 : decode cJx4a65c_add_72be8 0 = .ok (.iload_n 3, 1) := by decide +kernel
theorem dJx4a65c_add_72be8_1 : decode cJx4a65c_add_72be8 1 = .ok (.aload_n 2, 1) := by decide +kernel
theorem dJx4a65c_add_72be8_2 : decode cJx4a65c_add_72be8 2 = .ok (.arraylength, 1) := by decide +kernel
theorem dJx4a65c_add_72be8_3 : decode cJx4a65c_add_72be8 3 = .ok (.if_icmp .ne 8, 3) := by decide +kernel
theorem dJx4a65c_add_72be8_6 : decode cJx4a65c_add_72be8 6 = .ok (.aload_n 0, 1) := by decide +kernel
theorem dJx4a65c_add_72be8_7 : decode cJx4a65c_add_72be8 7 = .ok (.invokevirtual 129, 3) := by decide +kernel
theorem dJx4a65c_add_72be8_10 : decode cJx4a65c_add_72be8 10 = .ok (.astore_n 2, 1) := by decide +kernel
theorem dJx4a65c_add_72be8_11 : decode cJx4a65c_add_72be8 11 = .ok (.aload_n 2, 1) := by decide +kernel
theorem dJx4a65c_add_72be8_12 : decode cJx4a65c_add_72be8 12 = .ok (.iload_n 3, 1) := by decide +kernel
theorem dJx4a65c_add_72be8_13 : decode cJx4a65c_add_72be8 13 = .ok (.aload_n 1, 1) := by decide +kernel
theorem dJx4a65c_add_72be8_14 : decode cJx4a65c_add_72be8 14 = .ok (.aastore, 1) := by decide +kernel
theorem dJx4a65c_add_72be8_15 : decode cJx4a65c_add_72be8 15 = .ok (.aload_n 0, 1) := by decide +kernel
theorem dJx4a65c_add_72be8_16 : decode cJx4a65c_add_72be8 16 = .ok (.iload_n 3, 1) := by decide +kernel
theorem dJx4a65c_add_72be8_17 : decode cJx4a65c_add_72be8 17 = .ok (.iconst 1, 1) := by decide +kernel
theorem dJx4a65c_add_72be8_18 : decode cJx4a65c_add_72be8 18 = .ok (.iadd, 1) := by decide +kernel
theorem dJx4a65c_add_72be8_19 : decode cJx4a65c_add_72be8 19 = .ok (.putfield 48, 3) := by decide +kernel
theorem dJx4a65c_add_72be8_22 : decode cJx4a65c_add_72be8 22 = .ok (.return_, 1) := by decide +kernel
set_option maxRecDepth 20000 in
theorem ggJx4a65c_add_9ea2d_Jx4a65c_add_72be8 : GoodIn wsJx4a65c_add_9ea2d wsJx4a65c_add_72be8 := goodIn_r _ [9, 4, 10, 11, 12, 8, 13, 14, 15, 16, 17, 3, 18, 19, 20, 21, 22, 23, 24, 25, 26, 27, 28, 29, 30, 31, 32, 33, 34, 35, 36, 37, 38, 39, 40, 41, 42, 43, 44, 45, 46, 47, 48, 49, 50, 51, 52, 53, 54, 55] (by decide +kernel) (by decide +kernel)
set_option maxRecDepth 20000 in
theorem gJx4a65c_add_9ea2d_Jx4a65c_add_72be8 : GoodIn wsJx4a65c_add_9ea2d (wsV RJx4a65c 131 RJx4a65c yJx4a65c_add_72be8 wsJx4a65c_add_72be8) := goodIn_app (goodIn_of _ (by decide +kernel)) ggJx4a65c_add_9ea2d_Jx4a65c_add_72be8
theorem dJx4a65c_add_9ea2d_0 : decode cJx4a65c_add_9ea2d 0 = .ok (.aload_n 0, 1) := by decide +kernel
theorem dJx4a65c_add_9ea2d_1 : decode cJx4a65c_add_9ea2d 1 = .ok (.dup, 1) := by decide +kernel
theorem dJx4a65c_add_9ea2d_2 : decode cJx4a65c_add_9ea2d 2 = .ok (.getfield 63, 3) := by decide +kernel
theorem dJx4a65c_add_9ea2d_5 : decode cJx4a65c_add_9ea2d 5 = .ok (.iconst 1, 1) := by decide +kernel
theorem dJx4a65c_add_9ea2d_6 : decode cJx4a65c_add_9ea2d 6 = .ok (.iadd, 1) := by decide +kernel
theorem dJx4a65c_add_9ea2d_7 : decode cJx4a65c_add_9ea2d 7 = .ok (.putfield 63, 3) := by decide +kernel
theorem dJx4a65c_add_9ea2d_10 : decode cJx4a65c_add_9ea2d 10 = .ok (.aload_n 0, 1) := by decide +kernel
theorem dJx4a65c_add_9ea2d_11 : decode cJx4a65c_add_9ea2d 11 = .ok (.aload_n 1, 1) := by decide +kernel
theorem dJx4a65c_add_9ea2d_12 : decode cJx4a65c_add_9ea2d 12 = .ok (.aload_n 0, 1) := by decide +kernel
theorem dJx4a65c_add_9ea2d_13 : decode cJx4a65c_add_9ea2d 13 = .ok (.getfield 9, 3) := by decide +kernel
theorem dJx4a65c_add_9ea2d_16 : decode cJx4a65c_add_9ea2d 16 = .ok (.aload_n 0, 1) := by decide +kernel
theorem dJx4a65c_add_9ea2d_17 : decode cJx4a65c_add_9ea2d 17 = .ok (.getfield 48, 3) := by decide +kernel
theorem dJx4a65c_add_9ea2d_20 : decode cJx4a65c_add_9ea2d 20 = .ok (.invokevirtual 131, 3) := by decide +kernel
theorem dJx4a65c_add_9ea2d_23 : decode cJx4a65c_add_9ea2d 23 = .ok (.iconst 1, 1) := by decide +kernel
theorem dJx4a65c_add_9ea2d_24 : decode cJx4a65c_add_9ea2d 24 = .ok (.ireturn, 1) := by decide +kernel
set_option maxRecDepth 20000 in
theorem ggJ7_copyOf_1904c_J7_copyOf_6403c : GoodIn wsJ7_copyOf_1904c wsJ7_copyOf_6403c := goodIn_r _ [8, 9, 10, 11, 12, 13, 14, 15, 16, 17, 18] (by decide +kernel) (by decide +kernel)
set_option maxRecDepth 20000 in
theorem gJ7_copyOf_1904c_J7_copyOf_6403c : GoodIn wsJ7_copyOf_1904c (va_wsS RJ7 300 yJ7_copyOf_6403c wsJ7_copyOf_6403c) := goodIn_app (goodIn_of _ (by decide +kernel)) ggJ7_copyOf_1904c_J7_copyOf_6403c
theorem dJ7_copyOf_1904c_0 : decode cJ7_copyOf_1904c 0 = .ok (.aload_n 0, 1) := by decide +kernel
theorem dJ7_copyOf_1904c_1 : decode cJ7_copyOf_1904c 1 = .ok (.iload_n 1, 1) := by decide +kernel
theorem dJ7_copyOf_1904c_2 : decode cJ7_copyOf_1904c 2 = .ok (.aload_n 0, 1) := by decide +kernel
theorem dJ7_copyOf_1904c_3 : decode cJ7_copyOf_1904c 3 = .ok (.invokevirtual 86, 3) := by decide +kernel
theorem dJ7_copyOf_1904c_6 : decode cJ7_copyOf_1904c 6 = .ok (.invokestatic 300, 3) := by decide +kernel
theorem dJ7_copyOf_1904c_9 : decode cJ7_copyOf_1904c 9 = .ok (.areturn, 1) := by decide +kernel
theorem dJ7_copyOf_6403c_0 : decode cJ7_copyOf_6403c 0 = .ok (.aload_n 2, 1) := by decide +kernel
theorem dJ7_copyOf_6403c_1 : decode cJ7_copyOf_6403c 1 = .ok (.ldc 110, 2) := by decide +kernel
theorem dJ7_copyOf_6403c_3 : decode cJ7_copyOf_6403c 3 = .ok (.if_acmp .ne 10, 3) := by decide +kernel
theorem dJ7_copyOf_6403c_6 : decode cJ7_copyOf_6403c 6 = .ok (.iload_n 1, 1) := by decide +kernel
theorem dJ7_copyOf_6403c_7 : decode cJ7_copyOf_6403c 7 = .ok (.anewarray 2, 3) := by decide +kernel
theorem dJ7_copyOf_6403c_10 : decode cJ7_copyOf_6403c 10 = .ok (.goto 14, 3) := by decide +kernel
theorem dJ7_copyOf_6403c_13 : decode cJ7_copyOf_6403c 13 = .ok (.aload_n 2, 1) := by decide +kernel
theorem dJ7_copyOf_6403c_14 : decode cJ7_copyOf_6403c 14 = .ok (.invokevirtual 90, 3) := by decide +kernel
theorem dJ7_copyOf_6403c_17 : decode cJ7_copyOf_6403c 17 = .ok (.iload_n 1, 1) := by decide +kernel
theorem dJ7_copyOf_6403c_18 : decode cJ7_copyOf_6403c 18 = .ok (.invokestatic 95, 3) := by decide +kernel
theorem dJ7_copyOf_6403c_21 : decode cJ7_copyOf_6403c 21 = .ok (.checkcast 110, 3) := by decide +kernel
theorem dJ7_copyOf_6403c_24 : decode cJ7_copyOf_6403c 24 = .ok (.astore_n 3, 1) := by decide +kernel
theorem dJ7_copyOf_6403c_25 : decode cJ7_copyOf_6403c 25 = .ok (.aload_n 0, 1) := by decide +kernel
theorem dJ7_copyOf_6403c_26 : decode cJ7_copyOf_6403c 26 = .ok (.iconst 0, 1) := by decide +kernel
theorem dJ7_copyOf_6403c_27 : decode cJ7_copyOf_6403c 27 = .ok (.aload_n 3, 1) := by decide +kernel
theorem dJ7_copyOf_6403c_28 : decode cJ7_copyOf_6403c 28 = .ok (.iconst 0, 1) := by decide +kernel
theorem dJ7_copyOf_6403c_29 : decode cJ7_copyOf_6403c 29 = .ok (.aload_n 0, 1) := by decide +kernel
theorem dJ7_copyOf_6403c_30 : decode cJ7_copyOf_6403c 30 = .ok (.arraylength, 1) := by decide +kernel
theorem dJ7_copyOf_6403c_31 : decode cJ7_copyOf_6403c 31 = .ok (.iload_n 1, 1) := by decide +kernel
theorem dJ7_copyOf_6403c_32 : decode cJ7_copyOf_6403c 32 = .ok (.invokestatic 304, 3) := by decide +kernel
theorem dJ7_copyOf_6403c_35 : decode cJ7_copyOf_6403c 35 = .ok (.invokestatic 150, 3) := by decide +kernel
theorem dJ7_copyOf_6403c_38 : decode cJ7_copyOf_6403c 38 = .ok (.aload_n 3, 1) := by decide +kernel
theorem dJ7_copyOf_6403c_39 : decode cJ7_copyOf_6403c 39 = .ok (.areturn, 1) := by decide +kernel
set_option maxRecDepth 20000 in
theorem ggJ15_checkIndex_7cf53_J3_checkIndex_8e157 : GoodIn wsJ15_checkIndex_7cf53 wsJ3_checkIndex_8e157 := goodIn_r _ [4] (by decide +kernel) (by decide +kernel)
set_option maxRecDepth 20000 in
theorem gJ15_checkIndex_7cf53_J3_checkIndex_8e157 : GoodIn wsJ15_checkIndex_7cf53 (va_wsS RJ15 105 yJ3_checkIndex_8e157 wsJ3_checkIndex_8e157) := goodIn_app (goodIn_of _ (by decide +kernel)) ggJ15_checkIndex_7cf53_J3_checkIndex_8e157
theorem dJ15_checkIndex_7cf53_0 : decode cJ15_checkIndex_7cf53 0 = .ok (.iload_n 0, 1) := by decide +kernel
theorem dJ15_checkIndex_7cf53_1 : decode cJ15_checkIndex_7cf53 1 = .ok (.iload_n 1, 1) := by decide +kernel
theorem dJ15_checkIndex_7cf53_2 : decode cJ15_checkIndex_7cf53 2 = .ok (.aconst_null, 1) := by decide +kernel
theorem dJ15_checkIndex_7cf53_3 : decode cJ15_checkIndex_7cf53 3 = .ok (.invokestatic 105, 3) := by decide +kernel
theorem dJ15_checkIndex_7cf53_6 : decode cJ15_checkIndex_7cf53 6 = .ok (.ireturn, 1) := by decide +kernel
set_option maxRecDepth 20000 in
theorem ggJ8_newLength_cabcc_J8_hugeLength_7cf53 : GoodIn wsJ8_newLength_cabcc wsJ8_hugeLength_7cf53 := goodIn_r _ [9, 5] (by decide +kernel) (by decide +kernel)
set_option maxRecDepth 20000 in
theorem gJ8_newLength_cabcc_J8_hugeLength_7cf53 : GoodIn wsJ8_newLength_cabcc (va_wsS RJ8 201 yJ8_hugeLength_7cf53 wsJ8_hugeLength_7cf53) := goodIn_app (goodIn_of _ (by decide +kernel)) ggJ8_newLength_cabcc_J8_hugeLength_7cf53
theorem dJ8_newLength_cabcc_0 : decode cJ8_newLength_cabcc 0 = .ok (.iload_n 0, 1) := by decide +kernel
theorem dJ8_newLength_cabcc_1 : decode cJ8_newLength_cabcc 1 = .ok (.iload_n 1, 1) := by decide +kernel
theorem dJ8_newLength_cabcc_2 : decode cJ8_newLength_cabcc 2 = .ok (.iload_n 2, 1) := by decide +kernel
theorem dJ8_newLength_cabcc_3 : decode cJ8_newLength_cabcc 3 = .ok (.invokestatic 194, 3) := by decide +kernel
theorem dJ8_newLength_cabcc_6 : decode cJ8_newLength_cabcc 6 = .ok (.iadd, 1) := by decide +kernel
theorem dJ8_newLength_cabcc_7 : decode cJ8_newLength_cabcc 7 = .ok (.istore_n 3, 1) := by decide +kernel
theorem dJ8_newLength_cabcc_8 : decode cJ8_newLength_cabcc 8 = .ok (.iconst 0, 1) := by decide +kernel
theorem dJ8_newLength_cabcc_9 : decode cJ8_newLength_cabcc 9 = .ok (.iload_n 3, 1) := by decide +kernel
theorem dJ8_newLength_cabcc_10 : decode cJ8_newLength_cabcc 10 = .ok (.if_icmp .ge 11, 3) := by decide +kernel
theorem dJ8_newLength_cabcc_13 : decode cJ8_newLength_cabcc 13 = .ok (.iload_n 3, 1) := by decide +kernel
theorem dJ8_newLength_cabcc_14 : decode cJ8_newLength_cabcc 14 = .ok (.ldc 200, 2) := by decide +kernel
theorem dJ8_newLength_cabcc_16 : decode cJ8_newLength_cabcc 16 = .ok (.if_icmp .gt 5, 3) := by decide +kernel
theorem dJ8_newLength_cabcc_19 : decode cJ8_newLength_cabcc 19 = .ok (.iload_n 3, 1) := by decide +kernel
theorem dJ8_newLength_cabcc_20 : decode cJ8_newLength_cabcc 20 = .ok (.ireturn, 1) := by decide +kernel
theorem dJ8_newLength_cabcc_21 : decode cJ8_newLength_cabcc 21 = .ok (.iload_n 0, 1) := by decide +kernel
theorem dJ8_newLength_cabcc_22 : decode cJ8_newLength_cabcc 22 = .ok (.iload_n 1, 1) := by decide +kernel
theorem dJ8_newLength_cabcc_23 : decode cJ8_newLength_cabcc 23 = .ok (.invokestatic 201, 3) := by decide +kernel
theorem dJ8_newLength_cabcc_26 : decode cJ8_newLength_cabcc 26 = .ok (.ireturn, 1) := by decide +kernel
theorem dJ8_hugeLength_7cf53_0 : decode cJ8_hugeLength_7cf53 0 = .ok (.iload_n 0, 1) := by decide +kernel
theorem dJ8_hugeLength_7cf53_1 : decode cJ8_hugeLength_7cf53 1 = .ok (.iload_n 1, 1) := by decide +kernel
theorem dJ8_hugeLength_7cf53_2 : decode cJ8_hugeLength_7cf53 2 = .ok (.iadd, 1) := by decide +kernel
theorem dJ8_hugeLength_7cf53_3 : decode cJ8_hugeLength_7cf53 3 = .ok (.istore_n 2, 1) := by decide +kernel
theorem dJ8_hugeLength_7cf53_4 : decode cJ8_hugeLength_7cf53 4 = .ok (.iload_n 2, 1) := by decide +kernel
theorem dJ8_hugeLength_7cf53_5 : decode cJ8_hugeLength_7cf53 5 = .ok (.ifCond .ge 44, 3) := by decide +kernel
theorem dJ8_hugeLength_7cf53_8 : decode cJ8_hugeLength_7cf53 8 = .ok (.new 204, 3) := by decide +kernel
theorem dJ8_hugeLength_7cf53_11 : decode cJ8_hugeLength_7cf53 11 = .ok (.dup, 1) := by decide +kernel
theorem dJ8_hugeLength_7cf53_12 : decode cJ8_hugeLength_7cf53 12 = .ok (.new 89, 3) := by decide +kernel
theorem dJ8_hugeLength_7cf53_15 : decode cJ8_hugeLength_7cf53 15 = .ok (.dup, 1) := by decide +kernel
theorem dJ8_hugeLength_7cf53_16 : decode cJ8_hugeLength_7cf53 16 = .ok (.invokespecial 91, 3) := by decide +kernel
theorem dJ8_hugeLength_7cf53_19 : decode cJ8_hugeLength_7cf53 19 = .ok (.ldc 206, 2) := by decide +kernel
theorem dJ8_hugeLength_7cf53_21 : decode cJ8_hugeLength_7cf53 21 = .ok (.invokevirtual 94, 3) := by decide +kernel
theorem dJ8_hugeLength_7cf53_24 : decode cJ8_hugeLength_7cf53 24 = .ok (.iload_n 0, 1) := by decide +kernel
theorem dJ8_hugeLength_7cf53_25 : decode cJ8_hugeLength_7cf53 25 = .ok (.invokevirtual 98, 3) := by decide +kernel
theorem dJ8_hugeLength_7cf53_28 : decode cJ8_hugeLength_7cf53 28 = .ok (.ldc 208, 2) := by decide +kernel
theorem dJ8_hugeLength_7cf53_30 : decode cJ8_hugeLength_7cf53 30 = .ok (.invokevirtual 94, 3) := by decide +kernel
theorem dJ8_hugeLength_7cf53_33 : decode cJ8_hugeLength_7cf53 33 = .ok (.iload_n 1, 1) := by decide +kernel
theorem dJ8_hugeLength_7cf53_34 : decode cJ8_hugeLength_7cf53 34 = .ok (.invokevirtual 98, 3) := by decide +kernel
theorem dJ8_hugeLength_7cf53_37 : decode cJ8_hugeLength_7cf53 37 = .ok (.ldc 210, 2) := by decide +kernel
theorem dJ8_hugeLength_7cf53_39 : decode cJ8_hugeLength_7cf53 39 = .ok (.invokevirtual 94, 3) := by decide +kernel
theorem dJ8_hugeLength_7cf53_42 : decode cJ8_hugeLength_7cf53 42 = .ok (.invokevirtual 101, 3) := by decide +kernel
theorem dJ8_hugeLength_7cf53_45 : decode cJ8_hugeLength_7cf53 45 = .ok (.invokespecial 212, 3) := by decide +kernel
theorem dJ8_hugeLength_7cf53_48 : decode cJ8_hugeLength_7cf53 48 = .ok (.athrow, 1) := by decide +kernel
theorem dJ8_hugeLength_7cf53_49 : decode cJ8_hugeLength_7cf53 49 = .ok (.iload_n 2, 1) := by decide +kernel
theorem dJ8_hugeLength_7cf53_50 : decode cJ8_hugeLength_7cf53 50 = .ok (.ldc 200, 2) := by decide +kernel
theorem dJ8_hugeLength_7cf53_52 : decode cJ8_hugeLength_7cf53 52 = .ok (.if_icmp .gt 6, 3) := by decide +kernel
theorem dJ8_hugeLength_7cf53_55 : decode cJ8_hugeLength_7cf53 55 = .ok (.ldc 200, 2) := by decide +kernel
theorem dJ8_hugeLength_7cf53_57 : decode cJ8_hugeLength_7cf53 57 = .ok (.ireturn, 1) := by decide +kernel
theorem dJ8_hugeLength_7cf53_58 : decode cJ8_hugeLength_7cf53 58 = .ok (.iload_n 2, 1) := by decide +kernel
theorem dJ8_hugeLength_7cf53_59 : decode cJ8_hugeLength_7cf53 59 = .ok (.ireturn, 1) := by decide +kernel
theorem dJ3_checkIndex_8e157_0 : decode cJ3_checkIndex_8e157 0 = .ok (.iload_n 0, 1) := by decide +kernel
theorem dJ3_checkIndex_8e157_1 : decode cJ3_checkIndex_8e157 1 = .ok (.ifCond .lt 8, 3) := by decide +kernel
theorem dJ3_checkIndex_8e157_4 : decode cJ3_checkIndex_8e157 4 = .ok (.iload_n 0, 1) := by decide +kernel
theorem dJ3_checkIndex_8e157_5 : decode cJ3_checkIndex_8e157 5 = .ok (.iload_n 1, 1) := by decide +kernel
theorem dJ3_checkIndex_8e157_6 : decode cJ3_checkIndex_8e157 6 = .ok (.if_icmp .lt 10, 3) := by decide +kernel
theorem dJ3_checkIndex_8e157_9 : decode cJ3_checkIndex_8e157 9 = .ok (.aload_n 2, 1) := by decide +kernel
theorem dJ3_checkIndex_8e157_10 : decode cJ3_checkIndex_8e157 10 = .ok (.iload_n 0, 1) := by decide +kernel
theorem dJ3_checkIndex_8e157_11 : decode cJ3_checkIndex_8e157 11 = .ok (.iload_n 1, 1) := by decide +kernel
theorem dJ3_checkIndex_8e157_12 : decode cJ3_checkIndex_8e157 12 = .ok (.invokestatic 95, 3) := by decide +kernel
theorem dJ3_checkIndex_8e157_15 : decode cJ3_checkIndex_8e157 15 = .ok (.athrow, 1) := by decide +kernel
theorem dJ3_checkIndex_8e157_16 : decode cJ3_checkIndex_8e157 16 = .ok (.iload_n 0, 1) := by decide +kernel
theorem dJ3_checkIndex_8e157_17 : decode cJ3_checkIndex_8e157 17 = .ok (.ireturn, 1) := by decide +kernel
set_option maxRecDepth 20000 in
theorem ggL_add_X2_add : GoodIn wsL_add wsX2_add := goodIn_ca (goodIn_ca (goodIn_r _ [7, 8, 9, 10, 11, 12, 13, 14, 15, 16, 17, 6, 18, 19, 20, 21, 22, 23, 24, 25, 26, 27, 28, 29, 30, 31, 32, 33, 34, 35, 36, 37, 38, 39, 40, 41, 42, 43, 44, 45] (by decide +kernel) (by decide +kernel)) (goodIn_sub (fun _ h => List.mem_cons_of_mem _ (List.mem_append_left _ (List.mem_append_right _ h))) (by decide +kernel))) (goodIn_sub (fun _ h => List.mem_cons_of_mem _ (List.mem_append_right _ h)) (by decide +kernel))
set_option maxRecDepth 20000 in
theorem gL_add_X2_add : GoodIn wsL_add (wsV RL 7 RX2 yX2_add wsX2_add) := goodIn_app (goodIn_of _ (by decide +kernel)) ggL_add_X2_add
end
section
theorem dL_add_0 : decode cL_add 0 = .ok (.aload_n 3, 1) := by decide +kernel
theorem dL_add_1 : decode cL_add 1 = .ok (.iconst 0, 1) := by decide +kernel
theorem dL_add_2 : decode cL_add 2 = .ok (.aload_n 0, 1) := by decide +kernel
theorem dL_add_3 : decode cL_add 3 = .ok (.iload_n 1, 1) := by decide +kernel
theorem dL_add_4 : decode cL_add 4 = .ok (.iload_n 2, 1) := by decide +kernel
theorem dL_add_5 : decode cL_add 5 = .ok (.invokevirtual 7, 3) := by decide +kernel
theorem dL_add_8 : decode cL_add 8 = .ok (.i2l, 1) := by decide +kernel
theorem dL_add_9 : decode cL_add 9 = .ok (.lastore, 1) := by decide +kernel
theorem dL_add_10 : decode cL_add 10 = .ok (.goto 11, 3) := by decide +kernel
theorem dL_add_13 : decode cL_add 13 = .ok (.astore 4, 2) := by decide +kernel
theorem dL_add_15 : decode cL_add 15 = .ok (.iconst 1, 1) := by decide +kernel
theorem dL_add_16 : decode cL_add 16 = .ok (.ireturn, 1) := by decide +kernel
theorem dL_add_17 : decode cL_add 17 = .ok (.astore 4, 2) := by decide +kernel
theorem dL_add_19 : decode cL_add 19 = .ok (.iconst 2, 1) := by decide +kernel
theorem dL_add_20 : decode cL_add 20 = .ok (.ireturn, 1) := by decide +kernel
theorem dL_add_21 : decode cL_add 21 = .ok (.iconst 0, 1) := by decide +kernel
theorem dL_add_22 : decode cL_add 22 = .ok (.ireturn, 1) := by decide +kernel
set_option maxRecDepth 20000 in
theorem ggL_need_X2_need : GoodIn wsL_need wsX2_need := goodIn_ca (goodIn_ca (goodIn_r _ [7, 8, 9, 10, 11, 12, 13, 6, 14, 15, 16, 17, 18, 19, 20, 21, 22, 23, 24, 25, 26, 27, 28, 29, 30, 31, 32, 33, 34, 35, 36, 37, 38, 39, 40, 41, 42, 43, 44, 45, 46, 47, 48, 49, 50, 51, 52, 53, 54, 55, 56, 57, 58] (by decide +kernel) (by decide +kernel)) (goodIn_sub (fun _ h => List.mem_cons_of_mem _ (List.mem_append_left _ (List.mem_append_right _ h))) (by decide +kernel))) (goodIn_sub (fun _ h => List.mem_cons_of_mem _ (List.mem_append_right _ h)) (by decide +kernel))
set_option maxRecDepth 20000 in
theorem gL_need_X2_need : GoodIn wsL_need (wsV RL 17 RX2 yX2_need wsX2_need) := goodIn_app (goodIn_of _ (by decide +kernel)) ggL_need_X2_need
theorem dL_need_0 : decode cL_need 0 = .ok (.aload_n 3, 1) := by decide +kernel
theorem dL_need_1 : decode cL_need 1 = .ok (.iconst 0, 1) := by decide +kernel
theorem dL_need_2 : decode cL_need 2 = .ok (.aload_n 0, 1) := by decide +kernel
theorem dL_need_3 : decode cL_need 3 = .ok (.iload_n 1, 1) := by decide +kernel
theorem dL_need_4 : decode cL_need 4 = .ok (.iload_n 2, 1) := by decide +kernel
theorem dL_need_5 : decode cL_need 5 = .ok (.invokevirtual 17, 3) := by decide +kernel
theorem dL_need_8 : decode cL_need 8 = .ok (.ifCond .eq 7, 3) := by decide +kernel
theorem dL_need_11 : decode cL_need 11 = .ok (.lconst 1, 1) := by decide +kernel
theorem dL_need_12 : decode cL_need 12 = .ok (.goto 4, 3) := by decide +kernel
theorem dL_need_15 : decode cL_need 15 = .ok (.lconst 0, 1) := by decide +kernel
theorem dL_need_16 : decode cL_need 16 = .ok (.lastore, 1) := by decide +kernel
theorem dL_need_17 : decode cL_need 17 = .ok (.goto 11, 3) := by decide +kernel
theorem dL_need_20 : decode cL_need 20 = .ok (.astore 4, 2) := by decide +kernel
theorem dL_need_22 : decode cL_need 22 = .ok (.iconst 1, 1) := by decide +kernel
theorem dL_need_23 : decode cL_need 23 = .ok (.ireturn, 1) := by decide +kernel
theorem dL_need_24 : decode cL_need 24 = .ok (.astore 4, 2) := by decide +kernel
theorem dL_need_26 : decode cL_need 26 = .ok (.iconst 2, 1) := by decide +kernel
theorem dL_need_27 : decode cL_need 27 = .ok (.ireturn, 1) := by decide +kernel
theorem dL_need_28 : decode cL_need 28 = .ok (.iconst 0, 1) := by decide +kernel
theorem dL_need_29 : decode cL_need 29 = .ok (.ireturn, 1) := by decide +kernel
set_option maxRecDepth 20000 in
theorem ggL_wish_X2_wish : GoodIn wsL_wish wsX2_wish := goodIn_ca (goodIn_ca (goodIn_ca (goodIn_r _ [8, 9, 10, 11, 12, 13, 14, 15, 16, 17, 7, 18, 19, 20, 21, 22, 23, 24, 25, 26, 27, 28, 29, 30, 31, 32, 33, 34, 35, 36, 37, 38, 39, 40, 41, 42, 43, 44, 45, 46, 47, 48, 49, 50, 51, 52, 53, 54, 55, 56, 57, 58, 59, 60, 61, 62, 63, 64, 65, 66, 67, 68, 69, 70, 71, 72, 73, 74, 75, 76, 77, 78, 79, 80, 81, 82, 83, 84, 85, 86, 87, 88, 89, 90, 91, 92, 93, 94, 95, 96, 97, 98, 99, 100, 101, 102, 103, 104, 105, 106, 107, 108, 109, 110, 111, 112, 113, 114, 115, 116, 117, 118, 119, 120, 121, 122, 123, 124, 125, 126, 127, 128, 129, 130, 131, 132, 133, 134, 135, 136, 137, 138, 139, 140, 141, 142, 143, 144, 145, 146, 147, 148, 149, 150, 151, 152, 153, 154, 155, 156, 157, 158, 159, 160, 161, 162, 163] (by decide +kernel) (by decide +kernel)) (goodIn_sub (fun _ h => List.mem_cons_of_mem _ (List.mem_append_left _ (List.mem_append_left _ (List.mem_append_right _ h)))) (by decide +kernel))) (goodIn_sub (fun _ h => List.mem_cons_of_mem _ (List.mem_append_left _ (List.mem_append_right _ h))) (by decide +kernel))) (goodIn_sub (fun _ h => List.mem_cons_of_mem _ (List.mem_append_right _ h)) (by decide +kernel))
set_option maxRecDepth 20000 in
theorem gL_wish_X2_wish : GoodIn wsL_wish (wsV RL 23 RX2 yX2_wish wsX2_wish) := goodIn_app (goodIn_of _ (by decide +kernel)) ggL_wish_X2_wish
theorem dL_wish_0 : decode cL_wish 0 = .ok (.aload 4, 2) := by decide +kernel
theorem dL_wish_2 : decode cL_wish 2 = .ok (.iconst 0, 1) := by decide +kernel
theorem dL_wish_3 : decode cL_wish 3 = .ok (.aload_n 0, 1) := by decide +kernel
theorem dL_wish_4 : decode cL_wish 4 = .ok (.iload_n 1, 1) := by decide +kernel
theorem dL_wish_5 : decode cL_wish 5 = .ok (.iload_n 2, 1) := by decide +kernel
theorem dL_wish_6 : decode cL_wish 6 = .ok (.iload_n 3, 1) := by decide +kernel
theorem dL_wish_7 : decode cL_wish 7 = .ok (.invokevirtual 23, 3) := by decide +kernel
theorem dL_wish_10 : decode cL_wish 10 = .ok (.i2l, 1) := by decide +kernel
theorem dL_wish_11 : decode cL_wish 11 = .ok (.lastore, 1) := by decide +kernel
theorem dL_wish_12 : decode cL_wish 12 = .ok (.goto 15, 3) := by decide +kernel
theorem dL_wish_15 : decode cL_wish 15 = .ok (.astore 5, 2) := by decide +kernel
theorem dL_wish_17 : decode cL_wish 17 = .ok (.iconst 1, 1) := by decide +kernel
theorem dL_wish_18 : decode cL_wish 18 = .ok (.ireturn, 1) := by decide +kernel
theorem dL_wish_19 : decode cL_wish 19 = .ok (.astore 5, 2) := by decide +kernel
theorem dL_wish_21 : decode cL_wish 21 = .ok (.iconst 2, 1) := by decide +kernel
theorem dL_wish_22 : decode cL_wish 22 = .ok (.ireturn, 1) := by decide +kernel
theorem dL_wish_23 : decode cL_wish 23 = .ok (.astore 5, 2) := by decide +kernel
theorem dL_wish_25 : decode cL_wish 25 = .ok (.iconst 3, 1) := by decide +kernel
theorem dL_wish_26 : decode cL_wish 26 = .ok (.ireturn, 1) := by decide +kernel
theorem dL_wish_27 : decode cL_wish 27 = .ok (.iconst 0, 1) := by decide +kernel
theorem dL_wish_28 : decode cL_wish 28 = .ok (.ireturn, 1) := by decide +kernel
set_option maxRecDepth 20000 in
theorem ggL_standIn_X2_standIn : GoodIn wsL_standIn wsX2_standIn := goodIn_ca (goodIn_ca (goodIn_ca (goodIn_r _ [8, 9, 10, 11, 12, 13, 7, 14, 15, 16, 17, 18, 19, 20, 21, 22, 23, 24, 25, 26, 27, 28, 29, 30, 31, 32, 33, 34, 35, 36, 37, 38, 39, 40, 41, 42, 43, 44, 45, 46, 47, 48, 49, 50, 51] (by decide +kernel) (by decide +kernel)) (goodIn_sub (fun _ h => List.mem_cons_of_mem _ (List.mem_append_left _ (List.mem_append_left _ (List.mem_append_right _ h)))) (by decide +kernel))) (goodIn_sub (fun _ h => List.mem_cons_of_mem _ (List.mem_append_left _ (List.mem_append_right _ h))) (by decide +kernel))) (goodIn_sub (fun _ h => List.mem_cons_of_mem _ (List.mem_append_right _ h)) (by decide +kernel))
set_option maxRecDepth 20000 in
theorem gL_standIn_X2_standIn : GoodIn wsL_standIn (wsV RL 27 RX2 yX2_standIn wsX2_standIn) := goodIn_app (goodIn_of _ (by decide +kernel)) ggL_standIn_X2_standIn
theorem dL_standIn_0 : decode cL_standIn 0 = .ok (.aload_n 3, 1) := by decide +kernel
theorem dL_standIn_1 : decode cL_standIn 1 = .ok (.iconst 0, 1) := by decide +kernel
theorem dL_standIn_2 : decode cL_standIn 2 = .ok (.aload_n 0, 1) := by decide +kernel
theorem dL_standIn_3 : decode cL_standIn 3 = .ok (.iload_n 1, 1) := by decide +kernel
theorem dL_standIn_4 : decode cL_standIn 4 = .ok (.iload_n 2, 1) := by decide +kernel
theorem dL_standIn_5 : decode cL_standIn 5 = .ok (.invokevirtual 27, 3) := by decide +kernel
theorem dL_standIn_8 : decode cL_standIn 8 = .ok (.i2l, 1) := by decide +kernel
theorem dL_standIn_9 : decode cL_standIn 9 = .ok (.lastore, 1) := by decide +kernel
theorem dL_standIn_10 : decode cL_standIn 10 = .ok (.goto 15, 3) := by decide +kernel
theorem dL_standIn_13 : decode cL_standIn 13 = .ok (.astore 4, 2) := by decide +kernel
theorem dL_standIn_15 : decode cL_standIn 15 = .ok (.iconst 1, 1) := by decide +kernel
theorem dL_standIn_16 : decode cL_standIn 16 = .ok (.ireturn, 1) := by decide +kernel
theorem dL_standIn_17 : decode cL_standIn 17 = .ok (.astore 4, 2) := by decide +kernel
theorem dL_standIn_19 : decode cL_standIn 19 = .ok (.iconst 2, 1) := by decide +kernel
theorem dL_standIn_20 : decode cL_standIn 20 = .ok (.ireturn, 1) := by decide +kernel
theorem dL_standIn_21 : decode cL_standIn 21 = .ok (.astore 4, 2) := by decide +kernel
theorem dL_standIn_23 : decode cL_standIn 23 = .ok (.iconst 3, 1) := by decide +kernel
theorem dL_standIn_24 : decode cL_standIn 24 = .ok (.ireturn, 1) := by decide +kernel
theorem dL_standIn_25 : decode cL_standIn 25 = .ok (.iconst 0, 1) := by decide +kernel
theorem dL_standIn_26 : decode cL_standIn 26 = .ok (.ireturn, 1) := by decide +kernel
set_option maxRecDepth 20000 in
theorem ggL_hold_X2_hold : GoodIn wsL_hold wsX2_hold := goodIn_ca (goodIn_ca (goodIn_r _ [7, 8, 9, 10, 11, 6, 12, 13, 14, 15, 16, 17, 18, 19, 20, 21, 22, 23, 24, 25, 26, 27, 28, 29, 30, 31, 32, 33, 34, 35, 36, 37, 38, 39, 40, 41, 42, 43] (by decide +kernel) (by decide +kernel)) (goodIn_sub (fun _ h => List.mem_cons_of_mem _ (List.mem_append_left _ (List.mem_append_right _ h))) (by decide +kernel))) (goodIn_sub (fun _ h => List.mem_cons_of_mem _ (List.mem_append_right _ h)) (by decide +kernel))
set_option maxRecDepth 20000 in
theorem gL_hold_X2_hold : GoodIn wsL_hold (wsV RL 30 RX2 yX2_hold wsX2_hold) := goodIn_app (goodIn_of _ (by decide +kernel)) ggL_hold_X2_hold
theorem dL_hold_0 : decode cL_hold 0 = .ok (.aload_n 3, 1) := by decide +kernel
theorem dL_hold_1 : decode cL_hold 1 = .ok (.iconst 0, 1) := by decide +kernel
theorem dL_hold_2 : decode cL_hold 2 = .ok (.aload_n 0, 1) := by decide +kernel
theorem dL_hold_3 : decode cL_hold 3 = .ok (.iload_n 1, 1) := by decide +kernel
theorem dL_hold_4 : decode cL_hold 4 = .ok (.iload_n 2, 1) := by decide +kernel
theorem dL_hold_5 : decode cL_hold 5 = .ok (.invokevirtual 30, 3) := by decide +kernel
theorem dL_hold_8 : decode cL_hold 8 = .ok (.ifCond .eq 7, 3) := by decide +kernel
theorem dL_hold_11 : decode cL_hold 11 = .ok (.lconst 1, 1) := by decide +kernel
theorem dL_hold_12 : decode cL_hold 12 = .ok (.goto 4, 3) := by decide +kernel
theorem dL_hold_15 : decode cL_hold 15 = .ok (.lconst 0, 1) := by decide +kernel
theorem dL_hold_16 : decode cL_hold 16 = .ok (.lastore, 1) := by decide +kernel
theorem dL_hold_17 : decode cL_hold 17 = .ok (.goto 11, 3) := by decide +kernel
theorem dL_hold_20 : decode cL_hold 20 = .ok (.astore 4, 2) := by decide +kernel
theorem dL_hold_22 : decode cL_hold 22 = .ok (.iconst 1, 1) := by decide +kernel
theorem dL_hold_23 : decode cL_hold 23 = .ok (.ireturn, 1) := by decide +kernel
theorem dL_hold_24 : decode cL_hold 24 = .ok (.astore 4, 2) := by decide +kernel
theorem dL_hold_26 : decode cL_hold 26 = .ok (.iconst 2, 1) := by decide +kernel
theorem dL_hold_27 : decode cL_hold 27 = .ok (.ireturn, 1) := by decide +kernel
theorem dL_hold_28 : decode cL_hold 28 = .ok (.iconst 0, 1) := by decide +kernel
theorem dL_hold_29 : decode cL_hold 29 = .ok (.ireturn, 1) := by decide +kernel
set_option maxRecDepth 20000 in
theorem ggL_setFaults_X2_setFaults : GoodIn wsL_setFaults wsX2_setFaults := goodIn_ca (goodIn_ca (goodIn_r _ [7, 8, 9, 10, 11, 6, 12, 13, 14, 15, 16, 17, 18, 19, 20, 21, 22, 23, 24, 25, 26, 27, 28, 29, 30, 31, 32, 33, 34, 35, 36, 37, 38, 39, 40, 41, 42] (by decide +kernel) (by decide +kernel)) (goodIn_sub (fun _ h => List.mem_cons_of_mem _ (List.mem_append_left _ (List.mem_append_right _ h))) (by decide +kernel))) (goodIn_sub (fun _ h => List.mem_cons_of_mem _ (List.mem_append_right _ h)) (by decide +kernel))
set_option maxRecDepth 20000 in
theorem gL_setFaults_X2_setFaults : GoodIn wsL_setFaults (wsV RL 34 RX2 yX2_setFaults wsX2_setFaults) := goodIn_app (goodIn_of _ (by decide +kernel)) ggL_setFaults_X2_setFaults
theorem dL_setFaults_0 : decode cL_setFaults 0 = .ok (.aload_n 3, 1) := by decide +kernel
theorem dL_setFaults_1 : decode cL_setFaults 1 = .ok (.iconst 0, 1) := by decide +kernel
theorem dL_setFaults_2 : decode cL_setFaults 2 = .ok (.aload_n 0, 1) := by decide +kernel
theorem dL_setFaults_3 : decode cL_setFaults 3 = .ok (.iload_n 1, 1) := by decide +kernel
theorem dL_setFaults_4 : decode cL_setFaults 4 = .ok (.iload_n 2, 1) := by decide +kernel
theorem dL_setFaults_5 : decode cL_setFaults 5 = .ok (.invokevirtual 34, 3) := by decide +kernel
theorem dL_setFaults_8 : decode cL_setFaults 8 = .ok (.i2l, 1) := by decide +kernel
theorem dL_setFaults_9 : decode cL_setFaults 9 = .ok (.lastore, 1) := by decide +kernel
theorem dL_setFaults_10 : decode cL_setFaults 10 = .ok (.goto 11, 3) := by decide +kernel
theorem dL_setFaults_13 : decode cL_setFaults 13 = .ok (.astore 4, 2) := by decide +kernel
theorem dL_setFaults_15 : decode cL_setFaults 15 = .ok (.iconst 1, 1) := by decide +kernel
theorem dL_setFaults_16 : decode cL_setFaults 16 = .ok (.ireturn, 1) := by decide +kernel
theorem dL_setFaults_17 : decode cL_setFaults 17 = .ok (.astore 4, 2) := by decide +kernel
theorem dL_setFaults_19 : decode cL_setFaults 19 = .ok (.iconst 2, 1) := by decide +kernel
theorem dL_setFaults_20 : decode cL_setFaults 20 = .ok (.ireturn, 1) := by decide +kernel
theorem dL_setFaults_21 : decode cL_setFaults 21 = .ok (.iconst 0, 1) := by decide +kernel
theorem dL_setFaults_22 : decode cL_setFaults 22 = .ok (.ireturn, 1) := by decide +kernel
set_option maxRecDepth 20000 in
theorem ggL_setTime_X2_setTime : GoodIn wsL_setTime wsX2_setTime := goodIn_ca (goodIn_ca (goodIn_r _ [7, 8, 9, 10, 11, 6, 12, 13, 14, 15, 16, 17, 18, 19, 20, 21, 22, 23, 24, 25, 26, 27, 28, 29, 30, 31, 32, 33, 34, 35, 36, 37, 38, 39, 40, 41, 42] (by decide +kernel) (by decide +kernel)) (goodIn_sub (fun _ h => List.mem_cons_of_mem _ (List.mem_append_left _ (List.mem_append_right _ h))) (by decide +kernel))) (goodIn_sub (fun _ h => List.mem_cons_of_mem _ (List.mem_append_right _ h)) (by decide +kernel))
set_option maxRecDepth 20000 in
theorem gL_setTime_X2_setTime : GoodIn wsL_setTime (wsV RL 37 RX2 yX2_setTime wsX2_setTime) := goodIn_app (goodIn_of _ (by decide +kernel)) ggL_setTime_X2_setTime
theorem dL_setTime_0 : decode cL_setTime 0 = .ok (.aload_n 3, 1) := by decide +kernel
theorem dL_setTime_1 : decode cL_setTime 1 = .ok (.iconst 0, 1) := by decide +kernel
theorem dL_setTime_2 : decode cL_setTime 2 = .ok (.aload_n 0, 1) := by decide +kernel
theorem dL_setTime_3 : decode cL_setTime 3 = .ok (.iload_n 1, 1) := by decide +kernel
theorem dL_setTime_4 : decode cL_setTime 4 = .ok (.iload_n 2, 1) := by decide +kernel
theorem dL_setTime_5 : decode cL_setTime 5 = .ok (.invokevirtual 37, 3) := by decide +kernel
theorem dL_setTime_8 : decode cL_setTime 8 = .ok (.i2l, 1) := by decide +kernel
theorem dL_setTime_9 : decode cL_setTime 9 = .ok (.lastore, 1) := by decide +kernel
theorem dL_setTime_10 : decode cL_setTime 10 = .ok (.goto 11, 3) := by decide +kernel
theorem dL_setTime_13 : decode cL_setTime 13 = .ok (.astore 4, 2) := by decide +kernel
theorem dL_setTime_15 : decode cL_setTime 15 = .ok (.iconst 1, 1) := by decide +kernel
theorem dL_setTime_16 : decode cL_setTime 16 = .ok (.ireturn, 1) := by decide +kernel
theorem dL_setTime_17 : decode cL_setTime 17 = .ok (.astore 4, 2) := by decide +kernel
theorem dL_setTime_19 : decode cL_setTime 19 = .ok (.iconst 2, 1) := by decide +kernel
theorem dL_setTime_20 : decode cL_setTime 20 = .ok (.ireturn, 1) := by decide +kernel
theorem dL_setTime_21 : decode cL_setTime 21 = .ok (.iconst 0, 1) := by decide +kernel
theorem dL_setTime_22 : decode cL_setTime 22 = .ok (.ireturn, 1) := by decide +kernel
set_option maxRecDepth 20000 in
theorem ggL_learned_X2_learned : GoodIn wsL_learned wsX2_learned := goodIn_ca (goodIn_r _ [6, 7, 8, 9, 10, 5, 11, 12, 13, 14, 15, 16, 17, 18, 19, 20, 21, 22, 23, 24, 25, 26, 27, 28, 29, 30, 31, 32, 33, 34, 35] (by decide +kernel) (by decide +kernel)) (goodIn_sub (fun _ h => List.mem_cons_of_mem _ (List.mem_append_right _ h)) (by decide +kernel))
set_option maxRecDepth 20000 in
theorem gL_learned_X2_learned : GoodIn wsL_learned (wsV RL 40 RX2 yX2_learned wsX2_learned) := goodIn_app (goodIn_of _ (by decide +kernel)) ggL_learned_X2_learned
theorem dL_learned_0 : decode cL_learned 0 = .ok (.aload_n 2, 1) := by decide +kernel
theorem dL_learned_1 : decode cL_learned 1 = .ok (.iconst 0, 1) := by decide +kernel
theorem dL_learned_2 : decode cL_learned 2 = .ok (.aload_n 0, 1) := by decide +kernel
theorem dL_learned_3 : decode cL_learned 3 = .ok (.iload_n 1, 1) := by decide +kernel
theorem dL_learned_4 : decode cL_learned 4 = .ok (.invokevirtual 40, 3) := by decide +kernel
theorem dL_learned_7 : decode cL_learned 7 = .ok (.i2l, 1) := by decide +kernel
theorem dL_learned_8 : decode cL_learned 8 = .ok (.lastore, 1) := by decide +kernel
theorem dL_learned_9 : decode cL_learned 9 = .ok (.goto 6, 3) := by decide +kernel
theorem dL_learned_12 : decode cL_learned 12 = .ok (.astore_n 3, 1) := by decide +kernel
theorem dL_learned_13 : decode cL_learned 13 = .ok (.iconst 1, 1) := by decide +kernel
theorem dL_learned_14 : decode cL_learned 14 = .ok (.ireturn, 1) := by decide +kernel
theorem dL_learned_15 : decode cL_learned 15 = .ok (.iconst 0, 1) := by decide +kernel
theorem dL_learned_16 : decode cL_learned 16 = .ok (.ireturn, 1) := by decide +kernel
set_option maxRecDepth 20000 in
theorem ggL_faults_X2_faults : GoodIn wsL_faults wsX2_faults := goodIn_ca (goodIn_r _ [6, 7, 8, 9, 10, 5, 11, 12, 13, 14, 15, 16, 17, 18, 19, 20, 21, 22, 23, 24, 25, 26, 27, 28, 29, 30, 31, 32, 33, 34, 35] (by decide +kernel) (by decide +kernel)) (goodIn_sub (fun _ h => List.mem_cons_of_mem _ (List.mem_append_right _ h)) (by decide +kernel))
set_option maxRecDepth 20000 in
theorem gL_faults_X2_faults : GoodIn wsL_faults (wsV RL 44 RX2 yX2_faults wsX2_faults) := goodIn_app (goodIn_of _ (by decide +kernel)) ggL_faults_X2_faults
theorem dL_faults_0 : decode cL_faults 0 = .ok (.aload_n 2, 1) := by decide +kernel
theorem dL_faults_1 : decode cL_faults 1 = .ok (.iconst 0, 1) := by decide +kernel
theorem dL_faults_2 : decode cL_faults 2 = .ok (.aload_n 0, 1) := by decide +kernel
theorem dL_faults_3 : decode cL_faults 3 = .ok (.iload_n 1, 1) := by decide +kernel
theorem dL_faults_4 : decode cL_faults 4 = .ok (.invokevirtual 44, 3) := by decide +kernel
theorem dL_faults_7 : decode cL_faults 7 = .ok (.i2l, 1) := by decide +kernel
theorem dL_faults_8 : decode cL_faults 8 = .ok (.lastore, 1) := by decide +kernel
theorem dL_faults_9 : decode cL_faults 9 = .ok (.goto 6, 3) := by decide +kernel
theorem dL_faults_12 : decode cL_faults 12 = .ok (.astore_n 3, 1) := by decide +kernel
theorem dL_faults_13 : decode cL_faults 13 = .ok (.iconst 1, 1) := by decide +kernel
theorem dL_faults_14 : decode cL_faults 14 = .ok (.ireturn, 1) := by decide +kernel
theorem dL_faults_15 : decode cL_faults 15 = .ok (.iconst 0, 1) := by decide +kernel
theorem dL_faults_16 : decode cL_faults 16 = .ok (.ireturn, 1) := by decide +kernel
set_option maxRecDepth 20000 in
theorem ggL_begin_X2_begin : GoodIn wsL_begin wsX2_begin := goodIn_ca (goodIn_ca (goodIn_r _ [7, 8, 9, 10, 11, 12, 13, 14, 15, 16, 6, 17, 18, 19, 20, 21, 22, 23, 24, 25, 26, 27, 28, 29, 30, 31, 32, 33, 34, 35, 36, 37, 38, 39, 40, 41, 42, 43, 44, 45, 46, 47, 48, 49, 50, 51, 52, 53, 54, 55, 56, 57, 58, 59, 60, 61, 62, 63, 64, 65, 66, 67, 68, 69, 70, 71, 72, 73, 74, 75, 76, 77, 78, 79, 80, 81, 82, 83, 84, 85, 86, 87, 88, 89, 90, 91, 92, 93, 94, 95, 96, 97, 98, 99, 100, 101, 102, 103, 104, 105, 106, 107, 108, 109, 110, 111, 112, 113, 114, 115, 116, 117, 118, 119, 120, 121, 122, 123, 124, 125, 126, 127, 128, 129, 130, 131, 132] (by decide +kernel) (by decide +kernel)) (goodIn_sub (fun _ h => List.mem_cons_of_mem _ (List.mem_append_left _ (List.mem_append_right _ h))) (by decide +kernel))) (goodIn_sub (fun _ h => List.mem_cons_of_mem _ (List.mem_append_right _ h)) (by decide +kernel))
set_option maxRecDepth 20000 in
theorem gL_begin_X2_begin : GoodIn wsL_begin (wsV RL 47 RX2 yX2_begin wsX2_begin) := goodIn_app (goodIn_of _ (by decide +kernel)) ggL_begin_X2_begin
theorem dL_begin_0 : decode cL_begin 0 = .ok (.aload_n 2, 1) := by decide +kernel
theorem dL_begin_1 : decode cL_begin 1 = .ok (.iconst 0, 1) := by decide +kernel
theorem dL_begin_2 : decode cL_begin 2 = .ok (.aload_n 0, 1) := by decide +kernel
theorem dL_begin_3 : decode cL_begin 3 = .ok (.iload_n 1, 1) := by decide +kernel
theorem dL_begin_4 : decode cL_begin 4 = .ok (.invokevirtual 47, 3) := by decide +kernel
theorem dL_begin_7 : decode cL_begin 7 = .ok (.i2l, 1) := by decide +kernel
theorem dL_begin_8 : decode cL_begin 8 = .ok (.lastore, 1) := by decide +kernel
theorem dL_begin_9 : decode cL_begin 9 = .ok (.goto 9, 3) := by decide +kernel
theorem dL_begin_12 : decode cL_begin 12 = .ok (.astore_n 3, 1) := by decide +kernel
theorem dL_begin_13 : decode cL_begin 13 = .ok (.iconst 1, 1) := by decide +kernel
theorem dL_begin_14 : decode cL_begin 14 = .ok (.ireturn, 1) := by decide +kernel
theorem dL_begin_15 : decode cL_begin 15 = .ok (.astore_n 3, 1) := by decide +kernel
theorem dL_begin_16 : decode cL_begin 16 = .ok (.iconst 2, 1) := by decide +kernel
theorem dL_begin_17 : decode cL_begin 17 = .ok (.ireturn, 1) := by decide +kernel
theorem dL_begin_18 : decode cL_begin 18 = .ok (.iconst 0, 1) := by decide +kernel
theorem dL_begin_19 : decode cL_begin 19 = .ok (.ireturn, 1) := by decide +kernel
set_option maxRecDepth 20000 in
theorem ggL_tick_X2_tick : GoodIn wsL_tick wsX2_tick := goodIn_ca (goodIn_ca (goodIn_r _ [7, 8, 9, 10, 11, 12, 13, 6, 14, 15, 16, 17, 18, 19, 20, 21, 22, 23, 24, 25, 26, 27, 28, 29, 30, 31, 32, 33, 34, 35, 36, 37, 38, 39, 40, 41, 42, 43, 44, 45, 46, 47, 48, 49, 50, 51, 52, 53, 54, 55, 56, 57, 58, 59, 60, 61, 62, 63, 64, 65, 66, 67, 68, 69, 70, 71, 72, 73, 74, 75, 76, 77, 78, 79, 80, 81, 82, 83, 84, 85, 86, 87, 88, 89, 90, 91, 92, 93, 94, 95, 96, 97, 98, 99, 100, 101, 102, 103, 104, 105, 106, 107, 108, 109, 110, 111, 112, 113, 114, 115, 116, 117, 118, 119, 120, 121, 122, 123, 124, 125, 126, 127, 128, 129, 130, 131, 132, 133] (by decide +kernel) (by decide +kernel)) (goodIn_sub (fun _ h => List.mem_cons_of_mem _ (List.mem_append_left _ (List.mem_append_right _ h))) (by decide +kernel))) (goodIn_sub (fun _ h => List.mem_cons_of_mem _ (List.mem_append_right _ h)) (by decide +kernel))
set_option maxRecDepth 20000 in
theorem gL_tick_X2_tick : GoodIn wsL_tick (wsV RL 50 RX2 yX2_tick wsX2_tick) := goodIn_app (goodIn_of _ (by decide +kernel)) ggL_tick_X2_tick
theorem dL_tick_0 : decode cL_tick 0 = .ok (.aload_n 2, 1) := by decide +kernel
theorem dL_tick_1 : decode cL_tick 1 = .ok (.iconst 0, 1) := by decide +kernel
theorem dL_tick_2 : decode cL_tick 2 = .ok (.aload_n 0, 1) := by decide +kernel
theorem dL_tick_3 : decode cL_tick 3 = .ok (.iload_n 1, 1) := by decide +kernel
theorem dL_tick_4 : decode cL_tick 4 = .ok (.invokevirtual 50, 3) := by decide +kernel
theorem dL_tick_7 : decode cL_tick 7 = .ok (.i2l, 1) := by decide +kernel
theorem dL_tick_8 : decode cL_tick 8 = .ok (.lastore, 1) := by decide +kernel
theorem dL_tick_9 : decode cL_tick 9 = .ok (.goto 9, 3) := by decide +kernel
theorem dL_tick_12 : decode cL_tick 12 = .ok (.astore_n 3, 1) := by decide +kernel
theorem dL_tick_13 : decode cL_tick 13 = .ok (.iconst 1, 1) := by decide +kernel
theorem dL_tick_14 : decode cL_tick 14 = .ok (.ireturn, 1) := by decide +kernel
theorem dL_tick_15 : decode cL_tick 15 = .ok (.astore_n 3, 1) := by decide +kernel
theorem dL_tick_16 : decode cL_tick 16 = .ok (.iconst 2, 1) := by decide +kernel
theorem dL_tick_17 : decode cL_tick 17 = .ok (.ireturn, 1) := by decide +kernel
theorem dL_tick_18 : decode cL_tick 18 = .ok (.iconst 0, 1) := by decide +kernel
theorem dL_tick_19 : decode cL_tick 19 = .ok (.ireturn, 1) := by decide +kernel
set_option maxRecDepth 20000 in
theorem ggL_state_X2_state : GoodIn wsL_state wsX2_state := goodIn_ca (goodIn_r _ [6, 7, 8, 9, 10, 5, 11, 12, 13, 14, 15, 16, 17, 18, 19, 20, 21, 22, 23, 24, 25, 26, 27, 28, 29, 30, 31, 32, 33, 34, 35] (by decide +kernel) (by decide +kernel)) (goodIn_sub (fun _ h => List.mem_cons_of_mem _ (List.mem_append_right _ h)) (by decide +kernel))
set_option maxRecDepth 20000 in
theorem gL_state_X2_state : GoodIn wsL_state (wsV RL 53 RX2 yX2_state wsX2_state) := goodIn_app (goodIn_of _ (by decide +kernel)) ggL_state_X2_state
theorem dL_state_0 : decode cL_state 0 = .ok (.aload_n 2, 1) := by decide +kernel
theorem dL_state_1 : decode cL_state 1 = .ok (.iconst 0, 1) := by decide +kernel
theorem dL_state_2 : decode cL_state 2 = .ok (.aload_n 0, 1) := by decide +kernel
theorem dL_state_3 : decode cL_state 3 = .ok (.iload_n 1, 1) := by decide +kernel
theorem dL_state_4 : decode cL_state 4 = .ok (.invokevirtual 53, 3) := by decide +kernel
theorem dL_state_7 : decode cL_state 7 = .ok (.i2l, 1) := by decide +kernel
theorem dL_state_8 : decode cL_state 8 = .ok (.lastore, 1) := by decide +kernel
theorem dL_state_9 : decode cL_state 9 = .ok (.goto 6, 3) := by decide +kernel
theorem dL_state_12 : decode cL_state 12 = .ok (.astore_n 3, 1) := by decide +kernel
theorem dL_state_13 : decode cL_state 13 = .ok (.iconst 1, 1) := by decide +kernel
theorem dL_state_14 : decode cL_state 14 = .ok (.ireturn, 1) := by decide +kernel
theorem dL_state_15 : decode cL_state 15 = .ok (.iconst 0, 1) := by decide +kernel
theorem dL_state_16 : decode cL_state 16 = .ok (.ireturn, 1) := by decide +kernel
set_option maxRecDepth 20000 in
theorem ggL_waitsFor_X2_waitsFor : GoodIn wsL_waitsFor wsX2_waitsFor := goodIn_ca (goodIn_r _ [6, 7, 8, 9, 10, 11, 12, 5, 13, 14, 15, 16, 17, 18, 19, 20, 21, 22, 23, 24, 25, 26, 27, 28, 29, 30, 31, 32, 33, 34, 35, 36, 37, 38, 39, 40, 41, 42, 43, 44, 45, 46, 47, 48, 49, 50, 51, 52, 53, 54, 55, 56, 57, 58, 59, 60, 61, 62, 63, 64, 65, 66, 67, 68, 69] (by decide +kernel) (by decide +kernel)) (goodIn_sub (fun _ h => List.mem_cons_of_mem _ (List.mem_append_right _ h)) (by decide +kernel))
set_option maxRecDepth 20000 in
theorem gL_waitsFor_X2_waitsFor : GoodIn wsL_waitsFor (wsV RL 56 RX2 yX2_waitsFor wsX2_waitsFor) := goodIn_app (goodIn_of _ (by decide +kernel)) ggL_waitsFor_X2_waitsFor
theorem dL_waitsFor_0 : decode cL_waitsFor 0 = .ok (.aload_n 2, 1) := by decide +kernel
theorem dL_waitsFor_1 : decode cL_waitsFor 1 = .ok (.iconst 0, 1) := by decide +kernel
theorem dL_waitsFor_2 : decode cL_waitsFor 2 = .ok (.aload_n 0, 1) := by decide +kernel
theorem dL_waitsFor_3 : decode cL_waitsFor 3 = .ok (.iload_n 1, 1) := by decide +kernel
theorem dL_waitsFor_4 : decode cL_waitsFor 4 = .ok (.invokevirtual 56, 3) := by decide +kernel
theorem dL_waitsFor_7 : decode cL_waitsFor 7 = .ok (.i2l, 1) := by decide +kernel
theorem dL_waitsFor_8 : decode cL_waitsFor 8 = .ok (.lastore, 1) := by decide +kernel
theorem dL_waitsFor_9 : decode cL_waitsFor 9 = .ok (.goto 6, 3) := by decide +kernel
theorem dL_waitsFor_12 : decode cL_waitsFor 12 = .ok (.astore_n 3, 1) := by decide +kernel
theorem dL_waitsFor_13 : decode cL_waitsFor 13 = .ok (.iconst 1, 1) := by decide +kernel
theorem dL_waitsFor_14 : decode cL_waitsFor 14 = .ok (.ireturn, 1) := by decide +kernel
theorem dL_waitsFor_15 : decode cL_waitsFor 15 = .ok (.iconst 0, 1) := by decide +kernel
theorem dL_waitsFor_16 : decode cL_waitsFor 16 = .ok (.ireturn, 1) := by decide +kernel
set_option maxRecDepth 20000 in
theorem ggL_law_X2_init : GoodIn wsL_law wsX2_init := goodIn_r _ [9, 10, 11, 12, 13, 14, 15, 16, 17, 18, 19, 20, 21, 22, 23, 24, 25, 26, 27, 28, 29, 30, 31, 32, 33, 34, 35, 36, 37, 38, 39, 40, 41, 42, 43, 44, 45, 46, 47, 48, 49, 50, 51, 52, 53, 54, 55, 56, 57, 571, 572, 573, 574, 575, 576, 577, 601, 602, 603, 604, 605, 606, 607, 608, 609, 610, 611, 612, 613, 614, 615, 616] (by decide +kernel) (by decide +kernel)
set_option maxRecDepth 20000 in
theorem gL_law_X2_init : GoodIn wsL_law (wsX2_init) := ggL_law_X2_init
set_option maxRecDepth 20000 in
theorem ggL_law_X3_init : GoodIn wsL_law wsX3_init := goodIn_r _ [60, 61, 11, 12, 62, 63, 64, 65, 66, 67, 68, 69, 70, 71, 72, 73, 74, 75, 76, 77, 78, 578, 579, 580, 581, 582, 583, 584, 585, 586, 587, 588, 589, 590, 591, 592, 593, 594, 595, 596, 597, 598, 599, 600] (by decide +kernel) (by decide +kernel)
set_option maxRecDepth 20000 in
theorem gL_law_X3_init : GoodIn wsL_law (wsX3_init) := ggL_law_X3_init
set_option maxRecDepth 20000 in
theorem ggL_law_L_add : GoodIn wsL_law wsL_add := goodIn_ca (goodIn_ca (goodIn_r _ [82, 83, 84, 85, 86, 87, 2, 88, 89, 90, 15, 14, 91, 92, 93, 94, 95, 96, 97, 98, 99, 100, 101, 102, 103, 20, 571, 572, 573, 574, 575, 576, 577, 604, 605, 606, 607, 608, 609, 610, 611, 612, 613, 614, 615, 616] (by decide +kernel) (by decide +kernel)) (goodIn_sub (fun _ h => List.mem_append_left _ (List.mem_append_left _ (List.mem_append_right _ h))) (by decide +kernel))) (goodIn_sub (fun _ h => List.mem_append_left _ (List.mem_append_right _ h)) (by decide +kernel))
set_option maxRecDepth 20000 in
theorem gL_law_L_add : GoodIn wsL_law (va_wsS RL 63 yL_add wsL_add) := goodIn_app (goodIn_of _ (by decide +kernel)) ggL_law_L_add
set_option maxRecDepth 20000 in
theorem ggL_law_X3_add : GoodIn wsL_law wsX3_add := goodIn_r _ [107, 108, 109, 63, 65, 64, 67, 74, 110, 111, 5, 112, 113, 114, 115, 116, 117, 578, 579, 580, 581, 582, 583, 584, 585, 586, 587, 588, 589, 590, 591, 592, 593, 594, 595, 596, 597, 598, 599, 600] (by decide +kernel) (by decide +kernel)
set_option maxRecDepth 20000 in
theorem gL_law_X3_add : GoodIn wsL_law (wsV RL 68 RX3 yX3_add wsX3_add) := goodIn_app (goodIn_of _ (by decide +kernel)) ggL_law_X3_add
set_option maxRecDepth 20000 in
theorem ggL_law_X3_thrown : GoodIn wsL_law wsX3_thrown := goodIn_r _ [121, 117, 578, 579, 580, 581, 582, 583, 584, 585, 586, 587, 588, 589, 590, 591, 592, 593, 594, 595, 596, 597, 598, 599, 600] (by decide +kernel) (by decide +kernel)
set_option maxRecDepth 20000 in
theorem gL_law_X3_thrown : GoodIn wsL_law (wsV RL 69 RX3 yX3_thrown wsX3_thrown) := goodIn_app (goodIn_of _ (by decide +kernel)) ggL_law_X3_thrown
set_option maxRecDepth 20000 in
theorem ggL_law_L_need : GoodIn wsL_law wsL_need := goodIn_ca (goodIn_ca (goodIn_r _ [124, 125, 84, 126, 127, 128, 2, 129, 89, 90, 130, 131, 132, 133, 134, 135, 136, 15, 14, 137, 138, 139, 140, 141, 142, 143, 144, 25, 145, 57, 146, 147, 148, 149, 100, 101, 102, 103, 20, 604, 605, 606, 607, 608, 609, 610, 611, 612, 613, 614, 615, 616, 571, 572, 573, 574, 575, 576, 577] (by decide +kernel) (by decide +kernel)) (goodIn_sub (fun _ h => List.mem_append_left _ (List.mem_append_left _ (List.mem_append_right _ h))) (by decide +kernel))) (goodIn_sub (fun _ h => List.mem_append_right _ h) (by decide +kernel))
set_option maxRecDepth 20000 in
theorem gL_law_L_need : GoodIn wsL_law (va_wsS RL 73 yL_need wsL_need) := goodIn_app (goodIn_of _ (by decide +kernel)) ggL_law_L_need
set_option maxRecDepth 20000 in
theorem ggL_law_X3_need : GoodIn wsL_law wsX3_need := goodIn_r _ [153, 109, 70, 154, 155, 156, 5, 157, 108, 110, 111, 112, 113, 114, 115, 116, 117, 158, 159, 160, 161, 78, 71, 73, 162, 163, 164, 578, 579, 580, 581, 582, 583, 584, 585, 586, 587, 588, 589, 590, 591, 592, 593, 594, 595, 596, 597, 598, 599, 600] (by decide +kernel) (by decide +kernel)
set_option maxRecDepth 20000 in
theorem gL_law_X3_need : GoodIn wsL_law (wsV RL 75 RX3 yX3_need wsX3_need) := goodIn_app (goodIn_of _ (by decide +kernel)) ggL_law_X3_need
set_option maxRecDepth 20000 in
theorem ggL_law_L_wish : GoodIn wsL_law wsL_wish := goodIn_ca (goodIn_ca (goodIn_ca (goodIn_r _ [167, 125, 83, 84, 168, 169, 170, 2, 171, 19, 172, 173, 174, 141, 175, 131, 132, 133, 134, 135, 136, 15, 14, 94, 95, 96, 97, 98, 99, 176, 177, 178, 179, 100, 101, 102, 103, 89, 90, 20, 180, 181, 182, 183, 184, 185, 186, 187, 188, 189, 18, 190, 191, 192, 193, 194, 195, 196, 197, 198, 199, 200, 201, 202, 203, 204, 205, 206, 207, 30, 208, 209, 210, 211, 11, 12, 212, 213, 214, 215, 216, 217, 218, 219, 220, 221, 222, 223, 224, 225, 226, 227, 228, 229, 230, 231, 232, 29, 233, 234, 235, 236, 237, 238, 239, 240, 241, 242, 243, 244, 245, 246, 247, 248, 249, 250, 251, 252, 253, 254, 255, 256, 257, 258, 259, 260, 261, 262, 263, 264, 265, 266, 142, 143, 144, 25, 145, 57, 571, 572, 573, 574, 575, 576, 577, 617, 618, 619, 604, 605, 606, 607, 608, 609, 610, 611, 612, 613, 614, 615, 616, 601, 602, 603] (by decide +kernel) (by decide +kernel)) (goodIn_sub (fun _ h => List.mem_append_right _ h) (by decide +kernel))) (goodIn_sub (fun _ h => List.mem_append_left _ (List.mem_append_right _ h)) (by decide +kernel))) (goodIn_sub (fun _ h => List.mem_append_left _ (List.mem_append_left _ (List.mem_append_right _ h))) (by decide +kernel))
set_option maxRecDepth 20000 in
theorem gL_law_L_wish : GoodIn wsL_law (va_wsS RL 76 yL_wish wsL_wish) := goodIn_app (goodIn_of _ (by decide +kernel)) ggL_law_L_wish
set_option maxRecDepth 20000 in
theorem ggL_law_X3_wish : GoodIn wsL_law wsX3_wish := goodIn_r _ [270, 109, 71, 72, 271, 154, 155, 156, 5, 157, 108, 110, 111, 112, 113, 114, 115, 116, 117, 162, 163, 164, 578, 579, 580, 581, 582, 583, 584, 585, 586, 587, 588, 589, 590, 591, 592, 593, 594, 595, 596, 597, 598, 599, 600] (by decide +kernel) (by decide +kernel)
set_option maxRecDepth 20000 in
theorem gL_law_X3_wish : GoodIn wsL_law (wsV RL 79 RX3 yX3_wish wsX3_wish) := goodIn_app (goodIn_of _ (by decide +kernel)) ggL_law_X3_wish
set_option maxRecDepth 20000 in
theorem ggL_law_L_standIn : GoodIn wsL_law wsL_standIn := goodIn_ca (goodIn_ca (goodIn_ca (goodIn_r _ [274, 125, 83, 84, 275, 276, 277, 2, 278, 279, 93, 131, 132, 133, 134, 135, 136, 15, 14, 176, 177, 178, 179, 98, 99, 100, 101, 102, 103, 89, 90, 20, 604, 605, 606, 607, 608, 609, 610, 611, 612, 613, 614, 615, 616, 571, 572, 573, 574, 575, 576, 577] (by decide +kernel) (by decide +kernel)) (goodIn_sub (fun _ h => List.mem_append_right _ h) (by decide +kernel))) (goodIn_sub (fun _ h => List.mem_append_left _ (List.mem_append_right _ h)) (by decide +kernel))) (goodIn_sub (fun _ h => List.mem_append_left _ (List.mem_append_left _ (List.mem_append_right _ h))) (by decide +kernel))
set_option maxRecDepth 20000 in
theorem gL_law_L_standIn : GoodIn wsL_law (va_wsS RL 80 yL_standIn wsL_standIn) := goodIn_app (goodIn_of _ (by decide +kernel)) ggL_law_L_standIn
set_option maxRecDepth 20000 in
theorem ggL_law_X3_standIn : GoodIn wsL_law wsX3_standIn := goodIn_r _ [283, 109, 67, 154, 155, 156, 5, 157, 108, 110, 111, 112, 113, 114, 115, 116, 117, 578, 579, 580, 581, 582, 583, 584, 585, 586, 587, 588, 589, 590, 591, 592, 593, 594, 595, 596, 597, 598, 599, 600] (by decide +kernel) (by decide +kernel)
set_option maxRecDepth 20000 in
theorem gL_law_X3_standIn : GoodIn wsL_law (wsV RL 82 RX3 yX3_standIn wsX3_standIn) := goodIn_app (goodIn_of _ (by decide +kernel)) ggL_law_X3_standIn
set_option maxRecDepth 20000 in
theorem ggL_law_L_hold : GoodIn wsL_law wsL_hold := goodIn_ca (goodIn_ca (goodIn_r _ [286, 125, 84, 287, 288, 289, 2, 290, 291, 131, 132, 133, 134, 135, 136, 15, 14, 100, 101, 102, 103, 89, 90, 20, 604, 605, 606, 607, 608, 609, 610, 611, 612, 613, 614, 615, 616, 571, 572, 573, 574, 575, 576, 577] (by decide +kernel) (by decide +kernel)) (goodIn_sub (fun _ h => List.mem_append_right _ h) (by decide +kernel))) (goodIn_sub (fun _ h => List.mem_append_left _ (List.mem_append_left _ (List.mem_append_right _ h))) (by decide +kernel))
set_option maxRecDepth 20000 in
theorem gL_law_L_hold : GoodIn wsL_law (va_wsS RL 83 yL_hold wsL_hold) := goodIn_app (goodIn_of _ (by decide +kernel)) ggL_law_L_hold
set_option maxRecDepth 20000 in
theorem ggL_law_X3_hold : GoodIn wsL_law wsX3_hold := goodIn_r _ [295, 109, 69, 154, 155, 156, 5, 157, 108, 110, 111, 112, 113, 114, 115, 116, 117, 578, 579, 580, 581, 582, 583, 584, 585, 586, 587, 588, 589, 590, 591, 592, 593, 594, 595, 596, 597, 598, 599, 600] (by decide +kernel) (by decide +kernel)
set_option maxRecDepth 20000 in
theorem gL_law_X3_hold : GoodIn wsL_law (wsV RL 86 RX3 yX3_hold wsX3_hold) := goodIn_app (goodIn_of _ (by decide +kernel)) ggL_law_X3_hold
set_option maxRecDepth 20000 in
theorem ggL_law_L_setFaults : GoodIn wsL_law wsL_setFaults := goodIn_ca (goodIn_ca (goodIn_r _ [298, 125, 83, 299, 300, 301, 2, 302, 303, 131, 132, 133, 134, 135, 136, 15, 14, 94, 95, 96, 97, 98, 99, 604, 605, 606, 607, 608, 609, 610, 611, 612, 613, 614, 615, 616, 571, 572, 573, 574, 575, 576, 577] (by decide +kernel) (by decide +kernel)) (goodIn_sub (fun _ h => List.mem_append_right _ h) (by decide +kernel))) (goodIn_sub (fun _ h => List.mem_append_left _ (List.mem_append_right _ h)) (by decide +kernel))
set_option maxRecDepth 20000 in
theorem gL_law_L_setFaults : GoodIn wsL_law (va_wsS RL 87 yL_setFaults wsL_setFaults) := goodIn_app (goodIn_of _ (by decide +kernel)) ggL_law_L_setFaults
set_option maxRecDepth 20000 in
theorem ggL_law_X3_setFaults : GoodIn wsL_law wsX3_setFaults := goodIn_r _ [307, 66, 154, 155, 156, 5, 157, 108, 110, 111, 112, 113, 114, 115, 116, 117, 578, 579, 580, 581, 582, 583, 584, 585, 586, 587, 588, 589, 590, 591, 592, 593, 594, 595, 596, 597, 598, 599, 600] (by decide +kernel) (by decide +kernel)
set_option maxRecDepth 20000 in
theorem gL_law_X3_setFaults : GoodIn wsL_law (wsV RL 89 RX3 yX3_setFaults wsX3_setFaults) := goodIn_app (goodIn_of _ (by decide +kernel)) ggL_law_X3_setFaults
set_option maxRecDepth 20000 in
theorem ggL_law_L_setTime : GoodIn wsL_law wsL_setTime := goodIn_ca (goodIn_ca (goodIn_r _ [310, 125, 83, 311, 312, 313, 2, 314, 91, 131, 132, 133, 134, 135, 136, 15, 14, 94, 95, 96, 97, 98, 99, 604, 605, 606, 607, 608, 609, 610, 611, 612, 613, 614, 615, 616, 571, 572, 573, 574, 575, 576, 577] (by decide +kernel) (by decide +kernel)) (goodIn_sub (fun _ h => List.mem_append_right _ h) (by decide +kernel))) (goodIn_sub (fun _ h => List.mem_append_left _ (List.mem_append_right _ h)) (by decide +kernel))
set_option maxRecDepth 20000 in
theorem gL_law_L_setTime : GoodIn wsL_law (va_wsS RL 90 yL_setTime wsL_setTime) := goodIn_app (goodIn_of _ (by decide +kernel)) ggL_law_L_setTime
set_option maxRecDepth 20000 in
theorem ggL_law_X3_setTime : GoodIn wsL_law wsX3_setTime := goodIn_r _ [318, 63, 154, 155, 156, 5, 157, 108, 110, 111, 112, 113, 114, 115, 116, 117, 578, 579, 580, 581, 582, 583, 584, 585, 586, 587, 588, 589, 590, 591, 592, 593, 594, 595, 596, 597, 598, 599, 600] (by decide +kernel) (by decide +kernel)
set_option maxRecDepth 20000 in
theorem gL_law_X3_setTime : GoodIn wsL_law (wsV RL 92 RX3 yX3_setTime wsX3_setTime) := goodIn_app (goodIn_of _ (by decide +kernel)) ggL_law_X3_setTime
set_option maxRecDepth 20000 in
theorem ggL_law_X2_units : GoodIn wsL_law wsX2_units := goodIn_r _ [322, 15, 571, 572, 573, 574, 575, 576, 577] (by decide +kernel) (by decide +kernel)
set_option maxRecDepth 20000 in
theorem gL_law_X2_units : GoodIn wsL_law (wsV RL 93 RX2 yX2_units wsX2_units) := goodIn_app (goodIn_of _ (by decide +kernel)) ggL_law_X2_units
set_option maxRecDepth 20000 in
theorem ggL_law_X3_units : GoodIn wsL_law wsX3_units := goodIn_r _ [326, 117, 108, 578, 579, 580, 581, 582, 583, 584, 585, 586, 587, 588, 589, 590, 591, 592, 593, 594, 595, 596, 597, 598, 599, 600] (by decide +kernel) (by decide +kernel)
set_option maxRecDepth 20000 in
theorem gL_law_X3_units : GoodIn wsL_law (wsV RL 96 RX3 yX3_units wsX3_units) := goodIn_app (goodIn_of _ (by decide +kernel)) ggL_law_X3_units
set_option maxRecDepth 20000 in
theorem ggL_law_L_learned : GoodIn wsL_law wsL_learned := goodIn_ca (goodIn_r _ [329, 125, 330, 331, 332, 2, 333, 334, 131, 132, 133, 134, 135, 136, 15, 14, 604, 605, 606, 607, 608, 609, 610, 611, 612, 613, 614, 615, 616, 571, 572, 573, 574, 575, 576, 577] (by decide +kernel) (by decide +kernel)) (goodIn_sub (fun _ h => List.mem_append_right _ h) (by decide +kernel))
set_option maxRecDepth 20000 in
theorem gL_law_L_learned : GoodIn wsL_law (va_wsS RL 97 yL_learned wsL_learned) := goodIn_app (goodIn_of _ (by decide +kernel)) ggL_law_L_learned
set_option maxRecDepth 20000 in
theorem ggL_law_X3_learned : GoodIn wsL_law wsX3_learned := goodIn_r _ [338, 64, 339, 340, 341, 5, 342, 154, 155, 156, 157, 108, 110, 111, 112, 113, 114, 115, 116, 117, 578, 579, 580, 581, 582, 583, 584, 585, 586, 587, 588, 589, 590, 591, 592, 593, 594, 595, 596, 597, 598, 599, 600] (by decide +kernel) (by decide +kernel)
set_option maxRecDepth 20000 in
theorem gL_law_X3_learned : GoodIn wsL_law (wsV RL 100 RX3 yX3_learned wsX3_learned) := goodIn_app (goodIn_of _ (by decide +kernel)) ggL_law_X3_learned
set_option maxRecDepth 20000 in
theorem ggL_law_L_faults : GoodIn wsL_law wsL_faults := goodIn_ca (goodIn_r _ [345, 125, 346, 347, 348, 2, 349, 303, 131, 132, 133, 134, 135, 136, 15, 14, 604, 605, 606, 607, 608, 609, 610, 611, 612, 613, 614, 615, 616, 571, 572, 573, 574, 575, 576, 577] (by decide +kernel) (by decide +kernel)) (goodIn_sub (fun _ h => List.mem_append_right _ h) (by decide +kernel))
set_option maxRecDepth 20000 in
theorem gL_law_L_faults : GoodIn wsL_law (va_wsS RL 101 yL_faults wsL_faults) := goodIn_app (goodIn_of _ (by decide +kernel)) ggL_law_L_faults
set_option maxRecDepth 20000 in
theorem ggL_law_X3_faults : GoodIn wsL_law wsX3_faults := goodIn_r _ [353, 66, 339, 340, 341, 5, 342, 154, 155, 156, 157, 108, 110, 111, 112, 113, 114, 115, 116, 117, 578, 579, 580, 581, 582, 583, 584, 585, 586, 587, 588, 589, 590, 591, 592, 593, 594, 595, 596, 597, 598, 599, 600] (by decide +kernel) (by decide +kernel)
set_option maxRecDepth 20000 in
theorem gL_law_X3_faults : GoodIn wsL_law (wsV RL 103 RX3 yX3_faults wsX3_faults) := goodIn_app (goodIn_of _ (by decide +kernel)) ggL_law_X3_faults
set_option maxRecDepth 20000 in
theorem ggL_law_L_begin : GoodIn wsL_law wsL_begin := goodIn_ca (goodIn_ca (goodIn_r _ [356, 83, 84, 357, 358, 359, 2, 360, 21, 22, 15, 14, 20, 23, 94, 95, 96, 97, 98, 99, 100, 101, 102, 103, 89, 90, 361, 362, 363, 364, 19, 184, 175, 186, 185, 141, 365, 366, 367, 368, 187, 188, 189, 18, 190, 191, 192, 193, 194, 195, 196, 197, 198, 199, 200, 201, 202, 203, 204, 205, 206, 207, 30, 142, 143, 144, 25, 145, 57, 137, 138, 139, 140, 130, 146, 147, 148, 149, 369, 370, 371, 372, 49, 53, 55, 47, 56, 373, 374, 375, 376, 377, 234, 235, 236, 378, 379, 380, 381, 382, 383, 384, 385, 54, 386, 261, 262, 571, 572, 573, 574, 575, 576, 577, 617, 618, 619, 604, 605, 606, 607, 608, 609, 610, 611, 612, 613, 614, 615, 616, 601, 602, 603] (by decide +kernel) (by decide +kernel)) (goodIn_sub (fun _ h => List.mem_append_left _ (List.mem_append_right _ h)) (by decide +kernel))) (goodIn_sub (fun _ h => List.mem_append_left _ (List.mem_append_left _ (List.mem_append_right _ h))) (by decide +kernel))
set_option maxRecDepth 20000 in
theorem gL_law_L_begin : GoodIn wsL_law (va_wsS RL 104 yL_begin wsL_begin) := goodIn_app (goodIn_of _ (by decide +kernel)) ggL_law_L_begin
set_option maxRecDepth 20000 in
theorem ggL_law_X3_begin : GoodIn wsL_law wsX3_begin := goodIn_r _ [390, 109, 73, 391, 392, 393, 108, 74, 69, 75, 76, 77, 64, 394, 110, 111, 5, 112, 113, 114, 115, 116, 117, 395, 396, 397, 398, 71, 72, 162, 163, 164, 158, 159, 160, 161, 78, 70, 399, 400, 401, 402, 578, 579, 580, 581, 582, 583, 584, 585, 586, 587, 588, 589, 590, 591, 592, 593, 594, 595, 596, 597, 598, 599, 600] (by decide +kernel) (by decide +kernel)
set_option maxRecDepth 20000 in
theorem gL_law_X3_begin : GoodIn wsL_law (wsV RL 106 RX3 yX3_begin wsX3_begin) := goodIn_app (goodIn_of _ (by decide +kernel)) ggL_law_X3_begin
set_option maxRecDepth 20000 in
theorem ggL_law_L_tick : GoodIn wsL_law wsL_tick := goodIn_ca (goodIn_ca (goodIn_r _ [405, 83, 84, 406, 407, 408, 2, 409, 89, 90, 20, 94, 95, 96, 97, 98, 99, 410, 411, 412, 413, 414, 415, 416, 417, 15, 14, 418, 419, 91, 420, 421, 422, 25, 423, 48, 53, 47, 45, 424, 234, 235, 236, 55, 46, 425, 426, 427, 428, 130, 429, 430, 431, 432, 433, 434, 435, 436, 50, 437, 438, 439, 440, 142, 143, 144, 145, 57, 441, 442, 443, 444, 21, 141, 445, 446, 447, 448, 449, 450, 451, 452, 453, 454, 455, 456, 457, 458, 459, 460, 461, 462, 463, 464, 373, 374, 375, 376, 22, 23, 377, 378, 379, 380, 381, 382, 383, 384, 385, 56, 54, 386, 261, 262, 571, 572, 573, 574, 575, 576, 577, 604, 605, 606, 607, 608, 609, 610, 611, 612, 613, 614, 615, 616] (by decide +kernel) (by decide +kernel)) (goodIn_sub (fun _ h => List.mem_append_left _ (List.mem_append_left _ (List.mem_append_right _ h))) (by decide +kernel))) (goodIn_sub (fun _ h => List.mem_append_left _ (List.mem_append_right _ h)) (by decide +kernel))
set_option maxRecDepth 20000 in
theorem gL_law_L_tick : GoodIn wsL_law (va_wsS RL 107 yL_tick wsL_tick) := goodIn_app (goodIn_of _ (by decide +kernel)) ggL_law_L_tick
set_option maxRecDepth 20000 in
theorem ggL_law_X3_tick : GoodIn wsL_law wsX3_tick := goodIn_r _ [468, 109, 110, 111, 5, 112, 113, 114, 115, 116, 117, 469, 470, 471, 472, 108, 75, 74, 63, 392, 394, 473, 474, 475, 476, 66, 64, 76, 65, 477, 478, 479, 480, 70, 162, 163, 164, 481, 482, 483, 484, 67, 485, 486, 487, 488, 489, 490, 491, 492, 71, 73, 493, 494, 495, 496, 497, 498, 499, 500, 399, 400, 401, 402, 77, 393, 578, 579, 580, 581, 582, 583, 584, 585, 586, 587, 588, 589, 590, 591, 592, 593, 594, 595, 596, 597, 598, 599, 600] (by decide +kernel) (by decide +kernel)
set_option maxRecDepth 20000 in
theorem gL_law_X3_tick : GoodIn wsL_law (wsV RL 109 RX3 yX3_tick wsX3_tick) := goodIn_app (goodIn_of _ (by decide +kernel)) ggL_law_X3_tick
set_option maxRecDepth 20000 in
theorem ggL_law_X2_goesOn : GoodIn wsL_law wsX2_goesOn := goodIn_r _ [504, 20, 571, 572, 573, 574, 575, 576, 577] (by decide +kernel) (by decide +kernel)
set_option maxRecDepth 20000 in
theorem gL_law_X2_goesOn : GoodIn wsL_law (wsV RL 110 RX2 yX2_goesOn wsX2_goesOn) := goodIn_app (goodIn_of _ (by decide +kernel)) ggL_law_X2_goesOn
set_option maxRecDepth 20000 in
theorem ggL_law_X3_goesOn : GoodIn wsL_law wsX3_goesOn := goodIn_r _ [508, 117, 109, 578, 579, 580, 581, 582, 583, 584, 585, 586, 587, 588, 589, 590, 591, 592, 593, 594, 595, 596, 597, 598, 599, 600] (by decide +kernel) (by decide +kernel)
set_option maxRecDepth 20000 in
theorem gL_law_X3_goesOn : GoodIn wsL_law (wsV RL 114 RX3 yX3_goesOn wsX3_goesOn) := goodIn_app (goodIn_of _ (by decide +kernel)) ggL_law_X3_goesOn
set_option maxRecDepth 20000 in
theorem ggL_law_L_state : GoodIn wsL_law wsL_state := goodIn_ca (goodIn_r _ [511, 125, 512, 513, 514, 2, 515, 418, 131, 132, 133, 134, 135, 136, 15, 14, 604, 605, 606, 607, 608, 609, 610, 611, 612, 613, 614, 615, 616, 571, 572, 573, 574, 575, 576, 577] (by decide +kernel) (by decide +kernel)) (goodIn_sub (fun _ h => List.mem_append_right _ h) (by decide +kernel))
set_option maxRecDepth 20000 in
theorem gL_law_L_state : GoodIn wsL_law (va_wsS RL 115 yL_state wsL_state) := goodIn_app (goodIn_of _ (by decide +kernel)) ggL_law_L_state
set_option maxRecDepth 20000 in
theorem ggL_law_X3_state : GoodIn wsL_law wsX3_state := goodIn_r _ [519, 74, 339, 340, 341, 5, 342, 154, 155, 156, 157, 108, 110, 111, 112, 113, 114, 115, 116, 117, 578, 579, 580, 581, 582, 583, 584, 585, 586, 587, 588, 589, 590, 591, 592, 593, 594, 595, 596, 597, 598, 599, 600] (by decide +kernel) (by decide +kernel)
set_option maxRecDepth 20000 in
theorem gL_law_X3_state : GoodIn wsL_law (wsV RL 117 RX3 yX3_state wsX3_state) := goodIn_app (goodIn_of _ (by decide +kernel)) ggL_law_X3_state
set_option maxRecDepth 20000 in
theorem ggL_law_L_waitsFor : GoodIn wsL_law wsL_waitsFor := goodIn_ca (goodIn_r _ [522, 125, 523, 524, 525, 2, 526, 418, 15, 14, 131, 132, 133, 134, 135, 136, 527, 528, 529, 530, 130, 141, 146, 147, 148, 149, 142, 143, 144, 25, 145, 57, 449, 450, 451, 452, 53, 50, 437, 438, 439, 440, 433, 434, 435, 436, 457, 458, 459, 460, 604, 605, 606, 607, 608, 609, 610, 611, 612, 613, 614, 615, 616, 571, 572, 573, 574, 575, 576, 577] (by decide +kernel) (by decide +kernel)) (goodIn_sub (fun _ h => List.mem_append_right _ h) (by decide +kernel))
set_option maxRecDepth 20000 in
theorem gL_law_L_waitsFor : GoodIn wsL_law (va_wsS RL 118 yL_waitsFor wsL_waitsFor) := goodIn_app (goodIn_of _ (by decide +kernel)) ggL_law_L_waitsFor
set_option maxRecDepth 20000 in
theorem ggL_law_X3_waitsFor : GoodIn wsL_law wsX3_waitsFor := goodIn_r _ [534, 108, 74, 339, 340, 341, 5, 342, 154, 155, 156, 157, 110, 111, 112, 113, 114, 115, 116, 117, 489, 490, 491, 492, 71, 73, 70, 162, 163, 164, 485, 486, 487, 488, 493, 494, 495, 496, 67, 481, 482, 483, 484, 578, 579, 580, 581, 582, 583, 584, 585, 586, 587, 588, 589, 590, 591, 592, 593, 594, 595, 596, 597, 598, 599, 600] (by decide +kernel) (by decide +kernel)
set_option maxRecDepth 20000 in
theorem gL_law_X3_waitsFor : GoodIn wsL_law (wsV RL 120 RX3 yX3_waitsFor wsX3_waitsFor) := goodIn_app (goodIn_of _ (by decide +kernel)) ggL_law_X3_waitsFor
set_option maxRecDepth 20000 in
theorem ggL_law_X2_bar : GoodIn wsL_law wsX2_bar := goodIn_r _ [538, 23, 571, 572, 573, 574, 575, 576, 577] (by decide +kernel) (by decide +kernel)
set_option maxRecDepth 20000 in
theorem gL_law_X2_bar : GoodIn wsL_law (wsV RL 121 RX2 yX2_bar wsX2_bar) := goodIn_app (goodIn_of _ (by decide +kernel)) ggL_law_X2_bar
set_option maxRecDepth 20000 in
theorem ggL_law_X3_bar : GoodIn wsL_law wsX3_bar := goodIn_r _ [542, 117, 391, 394, 578, 579, 580, 581, 582, 583, 584, 585, 586, 587, 588, 589, 590, 591, 592, 593, 594, 595, 596, 597, 598, 599, 600] (by decide +kernel) (by decide +kernel)
set_option maxRecDepth 20000 in
theorem gL_law_X3_bar : GoodIn wsL_law (wsV RL 124 RX3 yX3_bar wsX3_bar) := goodIn_app (goodIn_of _ (by decide +kernel)) ggL_law_X3_bar
set_option maxRecDepth 20000 in
theorem ggL_law_X2_ready : GoodIn wsL_law wsX2_ready := goodIn_r _ [546, 15, 14, 418, 142, 143, 144, 25, 145, 57, 571, 572, 573, 574, 575, 576, 577, 604, 605, 606, 607, 608, 609, 610, 611, 612, 613, 614, 615, 616] (by decide +kernel) (by decide +kernel)
set_option maxRecDepth 20000 in
theorem gL_law_X2_ready : GoodIn wsL_law (wsV RL 125 RX2 yX2_ready wsX2_ready) := goodIn_app (goodIn_of _ (by decide +kernel)) ggL_law_X2_ready
set_option maxRecDepth 20000 in
theorem ggL_law_X3_ready : GoodIn wsL_law wsX3_ready := goodIn_r _ [550, 117, 108, 74, 578, 579, 580, 581, 582, 583, 584, 585, 586, 587, 588, 589, 590, 591, 592, 593, 594, 595, 596, 597, 598, 599, 600] (by decide +kernel) (by decide +kernel)
set_option maxRecDepth 20000 in
theorem gL_law_X3_ready : GoodIn wsL_law (wsV RL 128 RX3 yX3_ready wsX3_ready) := goodIn_app (goodIn_of _ (by decide +kernel)) ggL_law_X3_ready
set_option maxRecDepth 20000 in
theorem ggL_law_X2_canRun : GoodIn wsL_law wsX2_canRun := goodIn_r _ [554, 15, 555, 556, 557, 2, 558, 14, 291, 303, 92, 142, 143, 144, 25, 145, 57, 559, 560, 561, 562, 279, 130, 146, 147, 148, 149, 571, 572, 573, 574, 575, 576, 577, 604, 605, 606, 607, 608, 609, 610, 611, 612, 613, 614, 615, 616] (by decide +kernel) (by decide +kernel)
set_option maxRecDepth 20000 in
theorem gL_law_X2_canRun : GoodIn wsL_law (wsV RL 129 RX2 yX2_canRun wsX2_canRun) := goodIn_app (goodIn_of _ (by decide +kernel)) ggL_law_X2_canRun
set_option maxRecDepth 20000 in
theorem ggL_law_X3_canRun : GoodIn wsL_law wsX3_canRun := goodIn_r _ [566, 117, 108, 567, 568, 569, 5, 570, 69, 66, 65, 67, 70, 162, 163, 164, 578, 579, 580, 581, 582, 583, 584, 585, 586, 587, 588, 589, 590, 591, 592, 593, 594, 595, 596, 597, 598, 599, 600] (by decide +kernel) (by decide +kernel)
set_option maxRecDepth 20000 in
theorem gL_law_X3_canRun : GoodIn wsL_law (wsV RL 132 RX3 yX3_canRun wsX3_canRun) := goodIn_app (goodIn_of _ (by decide +kernel)) ggL_law_X3_canRun
theorem dL_law_0 : decode cL_law 0 = .ok (.new 8, 3) := by decide +kernel
theorem dL_law_3 : decode cL_law 3 = .ok (.dup, 1) := by decide +kernel
theorem dL_law_4 : decode cL_law 4 = .ok (.invokespecial 59, 3) := by decide +kernel
theorem dL_law_7 : decode cL_law 7 = .ok (.astore_n 1, 1) := by decide +kernel
theorem dL_law_8 : decode cL_law 8 = .ok (.new 60, 3) := by decide +kernel
theorem dL_law_11 : decode cL_law 11 = .ok (.dup, 1) := by decide +kernel
theorem dL_law_12 : decode cL_law 12 = .ok (.invokespecial 62, 3) := by decide +kernel
theorem dL_law_15 : decode cL_law 15 = .ok (.astore_n 2, 1) := by decide +kernel
theorem dL_law_16 : decode cL_law 16 = .ok (.iconst 1, 1) := by decide +kernel
theorem dL_law_17 : decode cL_law 17 = .ok (.newarray .long, 2) := by decide +kernel
theorem dL_law_19 : decode cL_law 19 = .ok (.astore_n 3, 1) := by decide +kernel
theorem dL_law_20 : decode cL_law 20 = .ok (.iconst 0, 1) := by decide +kernel
theorem dL_law_21 : decode cL_law 21 = .ok (.istore 4, 2) := by decide +kernel
theorem dL_law_23 : decode cL_law 23 = .ok (.iload 4, 2) := by decide +kernel
theorem dL_law_25 : decode cL_law 25 = .ok (.aload_n 0, 1) := by decide +kernel
theorem dL_law_26 : decode cL_law 26 = .ok (.arraylength, 1) := by decide +kernel
theorem dL_law_27 : decode cL_law 27 = .ok (.iconst 4, 1) := by decide +kernel
theorem dL_law_28 : decode cL_law 28 = .ok (.isub, 1) := by decide +kernel
theorem dL_law_29 : decode cL_law 29 = .ok (.if_icmp .gt 1020, 3) := by decide +kernel
theorem dL_law_32 : decode cL_law 32 = .ok (.aload_n 0, 1) := by decide +kernel
theorem dL_law_33 : decode cL_law 33 = .ok (.iload 4, 2) := by decide +kernel
theorem dL_law_35 : decode cL_law 35 = .ok (.iaload, 1) := by decide +kernel
theorem dL_law_36 : decode cL_law 36 = .ok (.bipush 31, 2) := by decide +kernel
theorem dL_law_38 : decode cL_law 38 = .ok (.iand, 1) := by decide +kernel
theorem dL_law_39 : decode cL_law 39 = .ok (.tableswitch 1004 0 17 #[85, 153, 228, 308, 376, 467, 535, 603, 616, 672, 728, 784, 840, 853, 909, 965, 978, 991], 85) := by decide +kernel
theorem dL_law_124 : decode cL_law 124 = .ok (.aload_n 1, 1) := by decide +kernel
theorem dL_law_125 : decode cL_law 125 = .ok (.aload_n 0, 1) := by decide +kernel
theorem dL_law_126 : decode cL_law 126 = .ok (.iload 4, 2) := by decide +kernel
theorem dL_law_128 : decode cL_law 128 = .ok (.iconst 1, 1) := by decide +kernel
theorem dL_law_129 : decode cL_law 129 = .ok (.iadd, 1) := by decide +kernel
theorem dL_law_130 : decode cL_law 130 = .ok (.iaload, 1) := by decide +kernel
theorem dL_law_131 : decode cL_law 131 = .ok (.aload_n 0, 1) := by decide +kernel
theorem dL_law_132 : decode cL_law 132 = .ok (.iload 4, 2) := by decide +kernel
theorem dL_law_134 : decode cL_law 134 = .ok (.iconst 2, 1) := by decide +kernel
theorem dL_law_135 : decode cL_law 135 = .ok (.iadd, 1) := by decide +kernel
theorem dL_law_136 : decode cL_law 136 = .ok (.iaload, 1) := by decide +kernel
theorem dL_law_137 : decode cL_law 137 = .ok (.aload_n 3, 1) := by decide +kernel
theorem dL_law_138 : decode cL_law 138 = .ok (.invokestatic 63, 3) := by decide +kernel
theorem dL_law_141 : decode cL_law 141 = .ok (.istore 5, 2) := by decide +kernel
theorem dL_law_143 : decode cL_law 143 = .ok (.aload_n 2, 1) := by decide +kernel
theorem dL_law_144 : decode cL_law 144 = .ok (.aload_n 0, 1) := by decide +kernel
theorem dL_law_145 : decode cL_law 145 = .ok (.iload 4, 2) := by decide +kernel
theorem dL_law_147 : decode cL_law 147 = .ok (.iconst 1, 1) := by decide +kernel
theorem dL_law_148 : decode cL_law 148 = .ok (.iadd, 1) := by decide +kernel
theorem dL_law_149 : decode cL_law 149 = .ok (.iaload, 1) := by decide +kernel
theorem dL_law_150 : decode cL_law 150 = .ok (.aload_n 0, 1) := by decide +kernel
theorem dL_law_151 : decode cL_law 151 = .ok (.iload 4, 2) := by decide +kernel
theorem dL_law_153 : decode cL_law 153 = .ok (.iconst 2, 1) := by decide +kernel
theorem dL_law_154 : decode cL_law 154 = .ok (.iadd, 1) := by decide +kernel
theorem dL_law_155 : decode cL_law 155 = .ok (.iaload, 1) := by decide +kernel
theorem dL_law_156 : decode cL_law 156 = .ok (.invokevirtual 68, 3) := by decide +kernel
theorem dL_law_159 : decode cL_law 159 = .ok (.istore 6, 2) := by decide +kernel
theorem dL_law_161 : decode cL_law 161 = .ok (.aload_n 2, 1) := by decide +kernel
theorem dL_law_162 : decode cL_law 162 = .ok (.invokevirtual 69, 3) := by decide +kernel
theorem dL_law_165 : decode cL_law 165 = .ok (.iload 5, 2) := by decide +kernel
theorem dL_law_167 : decode cL_law 167 = .ok (.if_icmp .eq 5, 3) := by decide +kernel
theorem dL_law_170 : decode cL_law 170 = .ok (.iconst 0, 1) := by decide +kernel
theorem dL_law_171 : decode cL_law 171 = .ok (.ireturn, 1) := by decide +kernel
theorem dL_law_172 : decode cL_law 172 = .ok (.iload 5, 2) := by decide +kernel
theorem dL_law_174 : decode cL_law 174 = .ok (.ifCond .ne 15, 3) := by decide +kernel
theorem dL_law_177 : decode cL_law 177 = .ok (.aload_n 3, 1) := by decide +kernel
theorem dL_law_178 : decode cL_law 178 = .ok (.iconst 0, 1) := by decide +kernel
theorem dL_law_179 : decode cL_law 179 = .ok (.laload, 1) := by decide +kernel
theorem dL_law_180 : decode cL_law 180 = .ok (.iload 6, 2) := by decide +kernel
theorem dL_law_182 : decode cL_law 182 = .ok (.i2l, 1) := by decide +kernel
theorem dL_law_183 : decode cL_law 183 = .ok (.lcmp, 1) := by decide +kernel
theorem dL_law_184 : decode cL_law 184 = .ok (.ifCond .eq 5, 3) := by decide +kernel
theorem dL_law_187 : decode cL_law 187 = .ok (.iconst 0, 1) := by decide +kernel
theorem dL_law_188 : decode cL_law 188 = .ok (.ireturn, 1) := by decide +kernel
theorem dL_law_189 : decode cL_law 189 = .ok (.goto 854, 3) := by decide +kernel
theorem dL_law_192 : decode cL_law 192 = .ok (.aload_n 1, 1) := by decide +kernel
theorem dL_law_193 : decode cL_law 193 = .ok (.aload_n 0, 1) := by decide +kernel
theorem dL_law_194 : decode cL_law 194 = .ok (.iload 4, 2) := by decide +kernel
theorem dL_law_196 : decode cL_law 196 = .ok (.iconst 1, 1) := by decide +kernel
theorem dL_law_197 : decode cL_law 197 = .ok (.iadd, 1) := by decide +kernel
theorem dL_law_198 : decode cL_law 198 = .ok (.iaload, 1) := by decide +kernel
theorem dL_law_199 : decode cL_law 199 = .ok (.aload_n 0, 1) := by decide +kernel
theorem dL_law_200 : decode cL_law 200 = .ok (.iload 4, 2) := by decide +kernel
theorem dL_law_202 : decode cL_law 202 = .ok (.iconst 2, 1) := by decide +kernel
theorem dL_law_203 : decode cL_law 203 = .ok (.iadd, 1) := by decide +kernel
theorem dL_law_204 : decode cL_law 204 = .ok (.iaload, 1) := by decide +kernel
theorem dL_law_205 : decode cL_law 205 = .ok (.aload_n 3, 1) := by decide +kernel
theorem dL_law_206 : decode cL_law 206 = .ok (.invokestatic 73, 3) := by decide +kernel
theorem dL_law_209 : decode cL_law 209 = .ok (.istore 5, 2) := by decide +kernel
theorem dL_law_211 : decode cL_law 211 = .ok (.aload_n 2, 1) := by decide +kernel
theorem dL_law_212 : decode cL_law 212 = .ok (.aload_n 0, 1) := by decide +kernel
theorem dL_law_213 : decode cL_law 213 = .ok (.iload 4, 2) := by decide +kernel
theorem dL_law_215 : decode cL_law 215 = .ok (.iconst 1, 1) := by decide +kernel
theorem dL_law_216 : decode cL_law 216 = .ok (.iadd, 1) := by decide +kernel
theorem dL_law_217 : decode cL_law 217 = .ok (.iaload, 1) := by decide +kernel
theorem dL_law_218 : decode cL_law 218 = .ok (.aload_n 0, 1) := by decide +kernel
theorem dL_law_219 : decode cL_law 219 = .ok (.iload 4, 2) := by decide +kernel
theorem dL_law_221 : decode cL_law 221 = .ok (.iconst 2, 1) := by decide +kernel
theorem dL_law_222 : decode cL_law 222 = .ok (.iadd, 1) := by decide +kernel
theorem dL_law_223 : decode cL_law 223 = .ok (.iaload, 1) := by decide +kernel
theorem dL_law_224 : decode cL_law 224 = .ok (.invokevirtual 75, 3) := by decide +kernel
theorem dL_law_227 : decode cL_law 227 = .ok (.istore 6, 2) := by decide +kernel
theorem dL_law_229 : decode cL_law 229 = .ok (.aload_n 2, 1) := by decide +kernel
theorem dL_law_230 : decode cL_law 230 = .ok (.invokevirtual 69, 3) := by decide +kernel
theorem dL_law_233 : decode cL_law 233 = .ok (.iload 5, 2) := by decide +kernel
theorem dL_law_235 : decode cL_law 235 = .ok (.if_icmp .eq 5, 3) := by decide +kernel
theorem dL_law_238 : decode cL_law 238 = .ok (.iconst 0, 1) := by decide +kernel
theorem dL_law_239 : decode cL_law 239 = .ok (.ireturn, 1) := by decide +kernel
theorem dL_law_240 : decode cL_law 240 = .ok (.iload 5, 2) := by decide +kernel
theorem dL_law_242 : decode cL_law 242 = .ok (.ifCond .ne 22, 3) := by decide +kernel
theorem dL_law_245 : decode cL_law 245 = .ok (.aload_n 3, 1) := by decide +kernel
theorem dL_law_246 : decode cL_law 246 = .ok (.iconst 0, 1) := by decide +kernel
theorem dL_law_247 : decode cL_law 247 = .ok (.laload, 1) := by decide +kernel
theorem dL_law_248 : decode cL_law 248 = .ok (.iload 6, 2) := by decide +kernel
theorem dL_law_250 : decode cL_law 250 = .ok (.ifCond .eq 7, 3) := by decide +kernel
theorem dL_law_253 : decode cL_law 253 = .ok (.lconst 1, 1) := by decide +kernel
theorem dL_law_254 : decode cL_law 254 = .ok (.goto 4, 3) := by decide +kernel
theorem dL_law_257 : decode cL_law 257 = .ok (.lconst 0, 1) := by decide +kernel
theorem dL_law_258 : decode cL_law 258 = .ok (.lcmp, 1) := by decide +kernel
theorem dL_law_259 : decode cL_law 259 = .ok (.ifCond .eq 5, 3) := by decide +kernel
theorem dL_law_262 : decode cL_law 262 = .ok (.iconst 0, 1) := by decide +kernel
theorem dL_law_263 : decode cL_law 263 = .ok (.ireturn, 1) := by decide +kernel
theorem dL_law_264 : decode cL_law 264 = .ok (.goto 779, 3) := by decide +kernel
theorem dL_law_267 : decode cL_law 267 = .ok (.aload_n 1, 1) := by decide +kernel
theorem dL_law_268 : decode cL_law 268 = .ok (.aload_n 0, 1) := by decide +kernel
theorem dL_law_269 : decode cL_law 269 = .ok (.iload 4, 2) := by decide +kernel
theorem dL_law_271 : decode cL_law 271 = .ok (.iconst 1, 1) := by decide +kernel
theorem dL_law_272 : decode cL_law 272 = .ok (.iadd, 1) := by decide +kernel
theorem dL_law_273 : decode cL_law 273 = .ok (.iaload, 1) := by decide +kernel
theorem dL_law_274 : decode cL_law 274 = .ok (.aload_n 0, 1) := by decide +kernel
theorem dL_law_275 : decode cL_law 275 = .ok (.iload 4, 2) := by decide +kernel
theorem dL_law_277 : decode cL_law 277 = .ok (.iconst 2, 1) := by decide +kernel
theorem dL_law_278 : decode cL_law 278 = .ok (.iadd, 1) := by decide +kernel
theorem dL_law_279 : decode cL_law 279 = .ok (.iaload, 1) := by decide +kernel
theorem dL_law_280 : decode cL_law 280 = .ok (.aload_n 0, 1) := by decide +kernel
theorem dL_law_281 : decode cL_law 281 = .ok (.iload 4, 2) := by decide +kernel
theorem dL_law_283 : decode cL_law 283 = .ok (.iconst 3, 1) := by decide +kernel
theorem dL_law_284 : decode cL_law 284 = .ok (.iadd, 1) := by decide +kernel
theorem dL_law_285 : decode cL_law 285 = .ok (.iaload, 1) := by decide +kernel
theorem dL_law_286 : decode cL_law 286 = .ok (.aload_n 3, 1) := by decide +kernel
theorem dL_law_287 : decode cL_law 287 = .ok (.invokestatic 76, 3) := by decide +kernel
theorem dL_law_290 : decode cL_law 290 = .ok (.istore 5, 2) := by decide +kernel
theorem dL_law_292 : decode cL_law 292 = .ok (.aload_n 2, 1) := by decide +kernel
theorem dL_law_293 : decode cL_law 293 = .ok (.aload_n 0, 1) := by decide +kernel
theorem dL_law_294 : decode cL_law 294 = .ok (.iload 4, 2) := by decide +kernel
theorem dL_law_296 : decode cL_law 296 = .ok (.iconst 1, 1) := by decide +kernel
theorem dL_law_297 : decode cL_law 297 = .ok (.iadd, 1) := by decide +kernel
theorem dL_law_298 : decode cL_law 298 = .ok (.iaload, 1) := by decide +kernel
theorem dL_law_299 : decode cL_law 299 = .ok (.aload_n 0, 1) := by decide +kernel
theorem dL_law_300 : decode cL_law 300 = .ok (.iload 4, 2) := by decide +kernel
theorem dL_law_302 : decode cL_law 302 = .ok (.iconst 2, 1) := by decide +kernel
theorem dL_law_303 : decode cL_law 303 = .ok (.iadd, 1) := by decide +kernel
theorem dL_law_304 : decode cL_law 304 = .ok (.iaload, 1) := by decide +kernel
theorem dL_law_305 : decode cL_law 305 = .ok (.aload_n 0, 1) := by decide +kernel
theorem dL_law_306 : decode cL_law 306 = .ok (.iload 4, 2) := by decide +kernel
theorem dL_law_308 : decode cL_law 308 = .ok (.iconst 3, 1) := by decide +kernel
theorem dL_law_309 : decode cL_law 309 = .ok (.iadd, 1) := by decide +kernel
theorem dL_law_310 : decode cL_law 310 = .ok (.iaload, 1) := by decide +kernel
theorem dL_law_311 : decode cL_law 311 = .ok (.invokevirtual 79, 3) := by decide +kernel
theorem dL_law_314 : decode cL_law 314 = .ok (.istore 6, 2) := by decide +kernel
theorem dL_law_316 : decode cL_law 316 = .ok (.aload_n 2, 1) := by decide +kernel
theorem dL_law_317 : decode cL_law 317 = .ok (.invokevirtual 69, 3) := by decide +kernel
theorem dL_law_320 : decode cL_law 320 = .ok (.iload 5, 2) := by decide +kernel
theorem dL_law_322 : decode cL_law 322 = .ok (.if_icmp .eq 5, 3) := by decide +kernel
theorem dL_law_325 : decode cL_law 325 = .ok (.iconst 0, 1) := by decide +kernel
theorem dL_law_326 : decode cL_law 326 = .ok (.ireturn, 1) := by decide +kernel
theorem dL_law_327 : decode cL_law 327 = .ok (.iload 5, 2) := by decide +kernel
theorem dL_law_329 : decode cL_law 329 = .ok (.ifCond .ne 15, 3) := by decide +kernel
theorem dL_law_332 : decode cL_law 332 = .ok (.aload_n 3, 1) := by decide +kernel
theorem dL_law_333 : decode cL_law 333 = .ok (.iconst 0, 1) := by decide +kernel
theorem dL_law_334 : decode cL_law 334 = .ok (.laload, 1) := by decide +kernel
theorem dL_law_335 : decode cL_law 335 = .ok (.iload 6, 2) := by decide +kernel
theorem dL_law_337 : decode cL_law 337 = .ok (.i2l, 1) := by decide +kernel
theorem dL_law_338 : decode cL_law 338 = .ok (.lcmp, 1) := by decide +kernel
theorem dL_law_339 : decode cL_law 339 = .ok (.ifCond .eq 5, 3) := by decide +kernel
theorem dL_law_342 : decode cL_law 342 = .ok (.iconst 0, 1) := by decide +kernel
theorem dL_law_343 : decode cL_law 343 = .ok (.ireturn, 1) := by decide +kernel
theorem dL_law_344 : decode cL_law 344 = .ok (.goto 699, 3) := by decide +kernel
theorem dL_law_347 : decode cL_law 347 = .ok (.aload_n 1, 1) := by decide +kernel
theorem dL_law_348 : decode cL_law 348 = .ok (.aload_n 0, 1) := by decide +kernel
theorem dL_law_349 : decode cL_law 349 = .ok (.iload 4, 2) := by decide +kernel
theorem dL_law_351 : decode cL_law 351 = .ok (.iconst 1, 1) := by decide +kernel
theorem dL_law_352 : decode cL_law 352 = .ok (.iadd, 1) := by decide +kernel
theorem dL_law_353 : decode cL_law 353 = .ok (.iaload, 1) := by decide +kernel
theorem dL_law_354 : decode cL_law 354 = .ok (.aload_n 0, 1) := by decide +kernel
theorem dL_law_355 : decode cL_law 355 = .ok (.iload 4, 2) := by decide +kernel
theorem dL_law_357 : decode cL_law 357 = .ok (.iconst 2, 1) := by decide +kernel
theorem dL_law_358 : decode cL_law 358 = .ok (.iadd, 1) := by decide +kernel
theorem dL_law_359 : decode cL_law 359 = .ok (.iaload, 1) := by decide +kernel
theorem dL_law_360 : decode cL_law 360 = .ok (.aload_n 3, 1) := by decide +kernel
theorem dL_law_361 : decode cL_law 361 = .ok (.invokestatic 80, 3) := by decide +kernel
theorem dL_law_364 : decode cL_law 364 = .ok (.istore 5, 2) := by decide +kernel
theorem dL_law_366 : decode cL_law 366 = .ok (.aload_n 2, 1) := by decide +kernel
theorem dL_law_367 : decode cL_law 367 = .ok (.aload_n 0, 1) := by decide +kernel
theorem dL_law_368 : decode cL_law 368 = .ok (.iload 4, 2) := by decide +kernel
theorem dL_law_370 : decode cL_law 370 = .ok (.iconst 1, 1) := by decide +kernel
theorem dL_law_371 : decode cL_law 371 = .ok (.iadd, 1) := by decide +kernel
theorem dL_law_372 : decode cL_law 372 = .ok (.iaload, 1) := by decide +kernel
theorem dL_law_373 : decode cL_law 373 = .ok (.aload_n 0, 1) := by decide +kernel
theorem dL_law_374 : decode cL_law 374 = .ok (.iload 4, 2) := by decide +kernel
theorem dL_law_376 : decode cL_law 376 = .ok (.iconst 2, 1) := by decide +kernel
theorem dL_law_377 : decode cL_law 377 = .ok (.iadd, 1) := by decide +kernel
theorem dL_law_378 : decode cL_law 378 = .ok (.iaload, 1) := by decide +kernel
theorem dL_law_379 : decode cL_law 379 = .ok (.invokevirtual 82, 3) := by decide +kernel
theorem dL_law_382 : decode cL_law 382 = .ok (.istore 6, 2) := by decide +kernel
theorem dL_law_384 : decode cL_law 384 = .ok (.aload_n 2, 1) := by decide +kernel
theorem dL_law_385 : decode cL_law 385 = .ok (.invokevirtual 69, 3) := by decide +kernel
theorem dL_law_388 : decode cL_law 388 = .ok (.iload 5, 2) := by decide +kernel
theorem dL_law_390 : decode cL_law 390 = .ok (.if_icmp .eq 5, 3) := by decide +kernel
theorem dL_law_393 : decode cL_law 393 = .ok (.iconst 0, 1) := by decide +kernel
theorem dL_law_394 : decode cL_law 394 = .ok (.ireturn, 1) := by decide +kernel
theorem dL_law_395 : decode cL_law 395 = .ok (.iload 5, 2) := by decide +kernel
theorem dL_law_397 : decode cL_law 397 = .ok (.ifCond .ne 15, 3) := by decide +kernel
theorem dL_law_400 : decode cL_law 400 = .ok (.aload_n 3, 1) := by decide +kernel
theorem dL_law_401 : decode cL_law 401 = .ok (.iconst 0, 1) := by decide +kernel
theorem dL_law_402 : decode cL_law 402 = .ok (.laload, 1) := by decide +kernel
theorem dL_law_403 : decode cL_law 403 = .ok (.iload 6, 2) := by decide +kernel
theorem dL_law_405 : decode cL_law 405 = .ok (.i2l, 1) := by decide +kernel
theorem dL_law_406 : decode cL_law 406 = .ok (.lcmp, 1) := by decide +kernel
theorem dL_law_407 : decode cL_law 407 = .ok (.ifCond .eq 5, 3) := by decide +kernel
theorem dL_law_410 : decode cL_law 410 = .ok (.iconst 0, 1) := by decide +kernel
theorem dL_law_411 : decode cL_law 411 = .ok (.ireturn, 1) := by decide +kernel
theorem dL_law_412 : decode cL_law 412 = .ok (.goto 631, 3) := by decide +kernel
theorem dL_law_415 : decode cL_law 415 = .ok (.aload_n 1, 1) := by decide +kernel
theorem dL_law_416 : decode cL_law 416 = .ok (.aload_n 0, 1) := by decide +kernel
theorem dL_law_417 : decode cL_law 417 = .ok (.iload 4, 2) := by decide +kernel
theorem dL_law_419 : decode cL_law 419 = .ok (.iconst 1, 1) := by decide +kernel
theorem dL_law_420 : decode cL_law 420 = .ok (.iadd, 1) := by decide +kernel
theorem dL_law_421 : decode cL_law 421 = .ok (.iaload, 1) := by decide +kernel
theorem dL_law_422 : decode cL_law 422 = .ok (.aload_n 0, 1) := by decide +kernel
theorem dL_law_423 : decode cL_law 423 = .ok (.iload 4, 2) := by decide +kernel
theorem dL_law_425 : decode cL_law 425 = .ok (.iconst 2, 1) := by decide +kernel
theorem dL_law_426 : decode cL_law 426 = .ok (.iadd, 1) := by decide +kernel
theorem dL_law_427 : decode cL_law 427 = .ok (.iaload, 1) := by decide +kernel
theorem dL_law_428 : decode cL_law 428 = .ok (.ifCond .eq 7, 3) := by decide +kernel
theorem dL_law_431 : decode cL_law 431 = .ok (.iconst 1, 1) := by decide +kernel
theorem dL_law_432 : decode cL_law 432 = .ok (.goto 4, 3) := by decide +kernel
theorem dL_law_435 : decode cL_law 435 = .ok (.iconst 0, 1) := by decide +kernel
theorem dL_law_436 : decode cL_law 436 = .ok (.aload_n 3, 1) := by decide +kernel
theorem dL_law_437 : decode cL_law 437 = .ok (.invokestatic 83, 3) := by decide +kernel
theorem dL_law_440 : decode cL_law 440 = .ok (.istore 5, 2) := by decide +kernel
theorem dL_law_442 : decode cL_law 442 = .ok (.aload_n 2, 1) := by decide +kernel
theorem dL_law_443 : decode cL_law 443 = .ok (.aload_n 0, 1) := by decide +kernel
theorem dL_law_444 : decode cL_law 444 = .ok (.iload 4, 2) := by decide +kernel
theorem dL_law_446 : decode cL_law 446 = .ok (.iconst 1, 1) := by decide +kernel
theorem dL_law_447 : decode cL_law 447 = .ok (.iadd, 1) := by decide +kernel
theorem dL_law_448 : decode cL_law 448 = .ok (.iaload, 1) := by decide +kernel
theorem dL_law_449 : decode cL_law 449 = .ok (.aload_n 0, 1) := by decide +kernel
theorem dL_law_450 : decode cL_law 450 = .ok (.iload 4, 2) := by decide +kernel
theorem dL_law_452 : decode cL_law 452 = .ok (.iconst 2, 1) := by decide +kernel
theorem dL_law_453 : decode cL_law 453 = .ok (.iadd, 1) := by decide +kernel
theorem dL_law_454 : decode cL_law 454 = .ok (.iaload, 1) := by decide +kernel
theorem dL_law_455 : decode cL_law 455 = .ok (.ifCond .eq 7, 3) := by decide +kernel
theorem dL_law_458 : decode cL_law 458 = .ok (.iconst 1, 1) := by decide +kernel
theorem dL_law_459 : decode cL_law 459 = .ok (.goto 4, 3) := by decide +kernel
theorem dL_law_462 : decode cL_law 462 = .ok (.iconst 0, 1) := by decide +kernel
theorem dL_law_463 : decode cL_law 463 = .ok (.invokevirtual 86, 3) := by decide +kernel
theorem dL_law_466 : decode cL_law 466 = .ok (.istore 6, 2) := by decide +kernel
theorem dL_law_468 : decode cL_law 468 = .ok (.aload_n 2, 1) := by decide +kernel
theorem dL_law_469 : decode cL_law 469 = .ok (.invokevirtual 69, 3) := by decide +kernel
theorem dL_law_472 : decode cL_law 472 = .ok (.iload 5, 2) := by decide +kernel
theorem dL_law_474 : decode cL_law 474 = .ok (.if_icmp .eq 5, 3) := by decide +kernel
theorem dL_law_477 : decode cL_law 477 = .ok (.iconst 0, 1) := by decide +kernel
theorem dL_law_478 : decode cL_law 478 = .ok (.ireturn, 1) := by decide +kernel
theorem dL_law_479 : decode cL_law 479 = .ok (.iload 5, 2) := by decide +kernel
theorem dL_law_481 : decode cL_law 481 = .ok (.ifCond .ne 22, 3) := by decide +kernel
theorem dL_law_484 : decode cL_law 484 = .ok (.aload_n 3, 1) := by decide +kernel
theorem dL_law_485 : decode cL_law 485 = .ok (.iconst 0, 1) := by decide +kernel
theorem dL_law_486 : decode cL_law 486 = .ok (.laload, 1) := by decide +kernel
theorem dL_law_487 : decode cL_law 487 = .ok (.iload 6, 2) := by decide +kernel
theorem dL_law_489 : decode cL_law 489 = .ok (.ifCond .eq 7, 3) := by decide +kernel
theorem dL_law_492 : decode cL_law 492 = .ok (.lconst 1, 1) := by decide +kernel
theorem dL_law_493 : decode cL_law 493 = .ok (.goto 4, 3) := by decide +kernel
theorem dL_law_496 : decode cL_law 496 = .ok (.lconst 0, 1) := by decide +kernel
theorem dL_law_497 : decode cL_law 497 = .ok (.lcmp, 1) := by decide +kernel
theorem dL_law_498 : decode cL_law 498 = .ok (.ifCond .eq 5, 3) := by decide +kernel
theorem dL_law_501 : decode cL_law 501 = .ok (.iconst 0, 1) := by decide +kernel
theorem dL_law_502 : decode cL_law 502 = .ok (.ireturn, 1) := by decide +kernel
theorem dL_law_503 : decode cL_law 503 = .ok (.goto 540, 3) := by decide +kernel
theorem dL_law_506 : decode cL_law 506 = .ok (.aload_n 1, 1) := by decide +kernel
theorem dL_law_507 : decode cL_law 507 = .ok (.aload_n 0, 1) := by decide +kernel
theorem dL_law_508 : decode cL_law 508 = .ok (.iload 4, 2) := by decide +kernel
theorem dL_law_510 : decode cL_law 510 = .ok (.iconst 1, 1) := by decide +kernel
theorem dL_law_511 : decode cL_law 511 = .ok (.iadd, 1) := by decide +kernel
theorem dL_law_512 : decode cL_law 512 = .ok (.iaload, 1) := by decide +kernel
theorem dL_law_513 : decode cL_law 513 = .ok (.aload_n 0, 1) := by decide +kernel
theorem dL_law_514 : decode cL_law 514 = .ok (.iload 4, 2) := by decide +kernel
theorem dL_law_516 : decode cL_law 516 = .ok (.iconst 2, 1) := by decide +kernel
theorem dL_law_517 : decode cL_law 517 = .ok (.iadd, 1) := by decide +kernel
theorem dL_law_518 : decode cL_law 518 = .ok (.iaload, 1) := by decide +kernel
theorem dL_law_519 : decode cL_law 519 = .ok (.aload_n 3, 1) := by decide +kernel
theorem dL_law_520 : decode cL_law 520 = .ok (.invokestatic 87, 3) := by decide +kernel
theorem dL_law_523 : decode cL_law 523 = .ok (.istore 5, 2) := by decide +kernel
theorem dL_law_525 : decode cL_law 525 = .ok (.aload_n 2, 1) := by decide +kernel
theorem dL_law_526 : decode cL_law 526 = .ok (.aload_n 0, 1) := by decide +kernel
theorem dL_law_527 : decode cL_law 527 = .ok (.iload 4, 2) := by decide +kernel
theorem dL_law_529 : decode cL_law 529 = .ok (.iconst 1, 1) := by decide +kernel
theorem dL_law_530 : decode cL_law 530 = .ok (.iadd, 1) := by decide +kernel
theorem dL_law_531 : decode cL_law 531 = .ok (.iaload, 1) := by decide +kernel
theorem dL_law_532 : decode cL_law 532 = .ok (.aload_n 0, 1) := by decide +kernel
theorem dL_law_533 : decode cL_law 533 = .ok (.iload 4, 2) := by decide +kernel
theorem dL_law_535 : decode cL_law 535 = .ok (.iconst 2, 1) := by decide +kernel
theorem dL_law_536 : decode cL_law 536 = .ok (.iadd, 1) := by decide +kernel
theorem dL_law_537 : decode cL_law 537 = .ok (.iaload, 1) := by decide +kernel
theorem dL_law_538 : decode cL_law 538 = .ok (.invokevirtual 89, 3) := by decide +kernel
theorem dL_law_541 : decode cL_law 541 = .ok (.istore 6, 2) := by decide +kernel
theorem dL_law_543 : decode cL_law 543 = .ok (.aload_n 2, 1) := by decide +kernel
theorem dL_law_544 : decode cL_law 544 = .ok (.invokevirtual 69, 3) := by decide +kernel
theorem dL_law_547 : decode cL_law 547 = .ok (.iload 5, 2) := by decide +kernel
theorem dL_law_549 : decode cL_law 549 = .ok (.if_icmp .eq 5, 3) := by decide +kernel
theorem dL_law_552 : decode cL_law 552 = .ok (.iconst 0, 1) := by decide +kernel
theorem dL_law_553 : decode cL_law 553 = .ok (.ireturn, 1) := by decide +kernel
theorem dL_law_554 : decode cL_law 554 = .ok (.iload 5, 2) := by decide +kernel
theorem dL_law_556 : decode cL_law 556 = .ok (.ifCond .ne 15, 3) := by decide +kernel
theorem dL_law_559 : decode cL_law 559 = .ok (.aload_n 3, 1) := by decide +kernel
theorem dL_law_560 : decode cL_law 560 = .ok (.iconst 0, 1) := by decide +kernel
theorem dL_law_561 : decode cL_law 561 = .ok (.laload, 1) := by decide +kernel
theorem dL_law_562 : decode cL_law 562 = .ok (.iload 6, 2) := by decide +kernel
theorem dL_law_564 : decode cL_law 564 = .ok (.i2l, 1) := by decide +kernel
theorem dL_law_565 : decode cL_law 565 = .ok (.lcmp, 1) := by decide +kernel
theorem dL_law_566 : decode cL_law 566 = .ok (.ifCond .eq 5, 3) := by decide +kernel
theorem dL_law_569 : decode cL_law 569 = .ok (.iconst 0, 1) := by decide +kernel
theorem dL_law_570 : decode cL_law 570 = .ok (.ireturn, 1) := by decide +kernel
theorem dL_law_571 : decode cL_law 571 = .ok (.goto 472, 3) := by decide +kernel
theorem dL_law_574 : decode cL_law 574 = .ok (.aload_n 1, 1) := by decide +kernel
theorem dL_law_575 : decode cL_law 575 = .ok (.aload_n 0, 1) := by decide +kernel
theorem dL_law_576 : decode cL_law 576 = .ok (.iload 4, 2) := by decide +kernel
theorem dL_law_578 : decode cL_law 578 = .ok (.iconst 1, 1) := by decide +kernel
theorem dL_law_579 : decode cL_law 579 = .ok (.iadd, 1) := by decide +kernel
theorem dL_law_580 : decode cL_law 580 = .ok (.iaload, 1) := by decide +kernel
theorem dL_law_581 : decode cL_law 581 = .ok (.aload_n 0, 1) := by decide +kernel
theorem dL_law_582 : decode cL_law 582 = .ok (.iload 4, 2) := by decide +kernel
theorem dL_law_584 : decode cL_law 584 = .ok (.iconst 2, 1) := by decide +kernel
theorem dL_law_585 : decode cL_law 585 = .ok (.iadd, 1) := by decide +kernel
theorem dL_law_586 : decode cL_law 586 = .ok (.iaload, 1) := by decide +kernel
theorem dL_law_587 : decode cL_law 587 = .ok (.aload_n 3, 1) := by decide +kernel
theorem dL_law_588 : decode cL_law 588 = .ok (.invokestatic 90, 3) := by decide +kernel
theorem dL_law_591 : decode cL_law 591 = .ok (.istore 5, 2) := by decide +kernel
theorem dL_law_593 : decode cL_law 593 = .ok (.aload_n 2, 1) := by decide +kernel
theorem dL_law_594 : decode cL_law 594 = .ok (.aload_n 0, 1) := by decide +kernel
theorem dL_law_595 : decode cL_law 595 = .ok (.iload 4, 2) := by decide +kernel
theorem dL_law_597 : decode cL_law 597 = .ok (.iconst 1, 1) := by decide +kernel
theorem dL_law_598 : decode cL_law 598 = .ok (.iadd, 1) := by decide +kernel
theorem dL_law_599 : decode cL_law 599 = .ok (.iaload, 1) := by decide +kernel
theorem dL_law_600 : decode cL_law 600 = .ok (.aload_n 0, 1) := by decide +kernel
theorem dL_law_601 : decode cL_law 601 = .ok (.iload 4, 2) := by decide +kernel
theorem dL_law_603 : decode cL_law 603 = .ok (.iconst 2, 1) := by decide +kernel
theorem dL_law_604 : decode cL_law 604 = .ok (.iadd, 1) := by decide +kernel
theorem dL_law_605 : decode cL_law 605 = .ok (.iaload, 1) := by decide +kernel
theorem dL_law_606 : decode cL_law 606 = .ok (.invokevirtual 92, 3) := by decide +kernel
theorem dL_law_609 : decode cL_law 609 = .ok (.istore 6, 2) := by decide +kernel
theorem dL_law_611 : decode cL_law 611 = .ok (.aload_n 2, 1) := by decide +kernel
theorem dL_law_612 : decode cL_law 612 = .ok (.invokevirtual 69, 3) := by decide +kernel
theorem dL_law_615 : decode cL_law 615 = .ok (.iload 5, 2) := by decide +kernel
theorem dL_law_617 : decode cL_law 617 = .ok (.if_icmp .eq 5, 3) := by decide +kernel
theorem dL_law_620 : decode cL_law 620 = .ok (.iconst 0, 1) := by decide +kernel
theorem dL_law_621 : decode cL_law 621 = .ok (.ireturn, 1) := by decide +kernel
theorem dL_law_622 : decode cL_law 622 = .ok (.iload 5, 2) := by decide +kernel
theorem dL_law_624 : decode cL_law 624 = .ok (.ifCond .ne 15, 3) := by decide +kernel
theorem dL_law_627 : decode cL_law 627 = .ok (.aload_n 3, 1) := by decide +kernel
theorem dL_law_628 : decode cL_law 628 = .ok (.iconst 0, 1) := by decide +kernel
theorem dL_law_629 : decode cL_law 629 = .ok (.laload, 1) := by decide +kernel
theorem dL_law_630 : decode cL_law 630 = .ok (.iload 6, 2) := by decide +kernel
theorem dL_law_632 : decode cL_law 632 = .ok (.i2l, 1) := by decide +kernel
theorem dL_law_633 : decode cL_law 633 = .ok (.lcmp, 1) := by decide +kernel
theorem dL_law_634 : decode cL_law 634 = .ok (.ifCond .eq 5, 3) := by decide +kernel
theorem dL_law_637 : decode cL_law 637 = .ok (.iconst 0, 1) := by decide +kernel
theorem dL_law_638 : decode cL_law 638 = .ok (.ireturn, 1) := by decide +kernel
theorem dL_law_639 : decode cL_law 639 = .ok (.goto 404, 3) := by decide +kernel
theorem dL_law_642 : decode cL_law 642 = .ok (.aload_n 1, 1) := by decide +kernel
theorem dL_law_643 : decode cL_law 643 = .ok (.invokevirtual 93, 3) := by decide +kernel
theorem dL_law_646 : decode cL_law 646 = .ok (.aload_n 2, 1) := by decide +kernel
theorem dL_law_647 : decode cL_law 647 = .ok (.invokevirtual 96, 3) := by decide +kernel
theorem dL_law_650 : decode cL_law 650 = .ok (.if_icmp .eq 393, 3) := by decide +kernel
theorem dL_law_653 : decode cL_law 653 = .ok (.iconst 0, 1) := by decide +kernel
theorem dL_law_654 : decode cL_law 654 = .ok (.ireturn, 1) := by decide +kernel
theorem dL_law_655 : decode cL_law 655 = .ok (.aload_n 1, 1) := by decide +kernel
theorem dL_law_656 : decode cL_law 656 = .ok (.aload_n 0, 1) := by decide +kernel
theorem dL_law_657 : decode cL_law 657 = .ok (.iload 4, 2) := by decide +kernel
theorem dL_law_659 : decode cL_law 659 = .ok (.iconst 1, 1) := by decide +kernel
theorem dL_law_660 : decode cL_law 660 = .ok (.iadd, 1) := by decide +kernel
theorem dL_law_661 : decode cL_law 661 = .ok (.iaload, 1) := by decide +kernel
theorem dL_law_662 : decode cL_law 662 = .ok (.aload_n 3, 1) := by decide +kernel
theorem dL_law_663 : decode cL_law 663 = .ok (.invokestatic 97, 3) := by decide +kernel
theorem dL_law_666 : decode cL_law 666 = .ok (.istore 5, 2) := by decide +kernel
theorem dL_law_668 : decode cL_law 668 = .ok (.aload_n 2, 1) := by decide +kernel
theorem dL_law_669 : decode cL_law 669 = .ok (.aload_n 0, 1) := by decide +kernel
theorem dL_law_670 : decode cL_law 670 = .ok (.iload 4, 2) := by decide +kernel
theorem dL_law_672 : decode cL_law 672 = .ok (.iconst 1, 1) := by decide +kernel
theorem dL_law_673 : decode cL_law 673 = .ok (.iadd, 1) := by decide +kernel
theorem dL_law_674 : decode cL_law 674 = .ok (.iaload, 1) := by decide +kernel
theorem dL_law_675 : decode cL_law 675 = .ok (.invokevirtual 100, 3) := by decide +kernel
theorem dL_law_678 : decode cL_law 678 = .ok (.istore 6, 2) := by decide +kernel
theorem dL_law_680 : decode cL_law 680 = .ok (.aload_n 2, 1) := by decide +kernel
theorem dL_law_681 : decode cL_law 681 = .ok (.invokevirtual 69, 3) := by decide +kernel
theorem dL_law_684 : decode cL_law 684 = .ok (.iload 5, 2) := by decide +kernel
theorem dL_law_686 : decode cL_law 686 = .ok (.if_icmp .eq 5, 3) := by decide +kernel
theorem dL_law_689 : decode cL_law 689 = .ok (.iconst 0, 1) := by decide +kernel
theorem dL_law_690 : decode cL_law 690 = .ok (.ireturn, 1) := by decide +kernel
theorem dL_law_691 : decode cL_law 691 = .ok (.iload 5, 2) := by decide +kernel
theorem dL_law_693 : decode cL_law 693 = .ok (.ifCond .ne 15, 3) := by decide +kernel
theorem dL_law_696 : decode cL_law 696 = .ok (.aload_n 3, 1) := by decide +kernel
theorem dL_law_697 : decode cL_law 697 = .ok (.iconst 0, 1) := by decide +kernel
theorem dL_law_698 : decode cL_law 698 = .ok (.laload, 1) := by decide +kernel
theorem dL_law_699 : decode cL_law 699 = .ok (.iload 6, 2) := by decide +kernel
theorem dL_law_701 : decode cL_law 701 = .ok (.i2l, 1) := by decide +kernel
theorem dL_law_702 : decode cL_law 702 = .ok (.lcmp, 1) := by decide +kernel
theorem dL_law_703 : decode cL_law 703 = .ok (.ifCond .eq 5, 3) := by decide +kernel
theorem dL_law_706 : decode cL_law 706 = .ok (.iconst 0, 1) := by decide +kernel
theorem dL_law_707 : decode cL_law 707 = .ok (.ireturn, 1) := by decide +kernel
theorem dL_law_708 : decode cL_law 708 = .ok (.goto 335, 3) := by decide +kernel
theorem dL_law_711 : decode cL_law 711 = .ok (.aload_n 1, 1) := by decide +kernel
theorem dL_law_712 : decode cL_law 712 = .ok (.aload_n 0, 1) := by decide +kernel
theorem dL_law_713 : decode cL_law 713 = .ok (.iload 4, 2) := by decide +kernel
theorem dL_law_715 : decode cL_law 715 = .ok (.iconst 1, 1) := by decide +kernel
theorem dL_law_716 : decode cL_law 716 = .ok (.iadd, 1) := by decide +kernel
theorem dL_law_717 : decode cL_law 717 = .ok (.iaload, 1) := by decide +kernel
theorem dL_law_718 : decode cL_law 718 = .ok (.aload_n 3, 1) := by decide +kernel
theorem dL_law_719 : decode cL_law 719 = .ok (.invokestatic 101, 3) := by decide +kernel
theorem dL_law_722 : decode cL_law 722 = .ok (.istore 5, 2) := by decide +kernel
theorem dL_law_724 : decode cL_law 724 = .ok (.aload_n 2, 1) := by decide +kernel
theorem dL_law_725 : decode cL_law 725 = .ok (.aload_n 0, 1) := by decide +kernel
theorem dL_law_726 : decode cL_law 726 = .ok (.iload 4, 2) := by decide +kernel
theorem dL_law_728 : decode cL_law 728 = .ok (.iconst 1, 1) := by decide +kernel
theorem dL_law_729 : decode cL_law 729 = .ok (.iadd, 1) := by decide +kernel
theorem dL_law_730 : decode cL_law 730 = .ok (.iaload, 1) := by decide +kernel
theorem dL_law_731 : decode cL_law 731 = .ok (.invokevirtual 103, 3) := by decide +kernel
theorem dL_law_734 : decode cL_law 734 = .ok (.istore 6, 2) := by decide +kernel
theorem dL_law_736 : decode cL_law 736 = .ok (.aload_n 2, 1) := by decide +kernel
theorem dL_law_737 : decode cL_law 737 = .ok (.invokevirtual 69, 3) := by decide +kernel
theorem dL_law_740 : decode cL_law 740 = .ok (.iload 5, 2) := by decide +kernel
theorem dL_law_742 : decode cL_law 742 = .ok (.if_icmp .eq 5, 3) := by decide +kernel
theorem dL_law_745 : decode cL_law 745 = .ok (.iconst 0, 1) := by decide +kernel
theorem dL_law_746 : decode cL_law 746 = .ok (.ireturn, 1) := by decide +kernel
theorem dL_law_747 : decode cL_law 747 = .ok (.iload 5, 2) := by decide +kernel
theorem dL_law_749 : decode cL_law 749 = .ok (.ifCond .ne 15, 3) := by decide +kernel
theorem dL_law_752 : decode cL_law 752 = .ok (.aload_n 3, 1) := by decide +kernel
theorem dL_law_753 : decode cL_law 753 = .ok (.iconst 0, 1) := by decide +kernel
theorem dL_law_754 : decode cL_law 754 = .ok (.laload, 1) := by decide +kernel
theorem dL_law_755 : decode cL_law 755 = .ok (.iload 6, 2) := by decide +kernel
theorem dL_law_757 : decode cL_law 757 = .ok (.i2l, 1) := by decide +kernel
theorem dL_law_758 : decode cL_law 758 = .ok (.lcmp, 1) := by decide +kernel
theorem dL_law_759 : decode cL_law 759 = .ok (.ifCond .eq 5, 3) := by decide +kernel
theorem dL_law_762 : decode cL_law 762 = .ok (.iconst 0, 1) := by decide +kernel
theorem dL_law_763 : decode cL_law 763 = .ok (.ireturn, 1) := by decide +kernel
theorem dL_law_764 : decode cL_law 764 = .ok (.goto 279, 3) := by decide +kernel
theorem dL_law_767 : decode cL_law 767 = .ok (.aload_n 1, 1) := by decide +kernel
theorem dL_law_768 : decode cL_law 768 = .ok (.aload_n 0, 1) := by decide +kernel
theorem dL_law_769 : decode cL_law 769 = .ok (.iload 4, 2) := by decide +kernel
theorem dL_law_771 : decode cL_law 771 = .ok (.iconst 1, 1) := by decide +kernel
theorem dL_law_772 : decode cL_law 772 = .ok (.iadd, 1) := by decide +kernel
theorem dL_law_773 : decode cL_law 773 = .ok (.iaload, 1) := by decide +kernel
theorem dL_law_774 : decode cL_law 774 = .ok (.aload_n 3, 1) := by decide +kernel
theorem dL_law_775 : decode cL_law 775 = .ok (.invokestatic 104, 3) := by decide +kernel
theorem dL_law_778 : decode cL_law 778 = .ok (.istore 5, 2) := by decide +kernel
theorem dL_law_780 : decode cL_law 780 = .ok (.aload_n 2, 1) := by decide +kernel
theorem dL_law_781 : decode cL_law 781 = .ok (.aload_n 0, 1) := by decide +kernel
theorem dL_law_782 : decode cL_law 782 = .ok (.iload 4, 2) := by decide +kernel
theorem dL_law_784 : decode cL_law 784 = .ok (.iconst 1, 1) := by decide +kernel
theorem dL_law_785 : decode cL_law 785 = .ok (.iadd, 1) := by decide +kernel
theorem dL_law_786 : decode cL_law 786 = .ok (.iaload, 1) := by decide +kernel
theorem dL_law_787 : decode cL_law 787 = .ok (.invokevirtual 106, 3) := by decide +kernel
theorem dL_law_790 : decode cL_law 790 = .ok (.istore 6, 2) := by decide +kernel
theorem dL_law_792 : decode cL_law 792 = .ok (.aload_n 2, 1) := by decide +kernel
theorem dL_law_793 : decode cL_law 793 = .ok (.invokevirtual 69, 3) := by decide +kernel
theorem dL_law_796 : decode cL_law 796 = .ok (.iload 5, 2) := by decide +kernel
theorem dL_law_798 : decode cL_law 798 = .ok (.if_icmp .eq 5, 3) := by decide +kernel
theorem dL_law_801 : decode cL_law 801 = .ok (.iconst 0, 1) := by decide +kernel
theorem dL_law_802 : decode cL_law 802 = .ok (.ireturn, 1) := by decide +kernel
theorem dL_law_803 : decode cL_law 803 = .ok (.iload 5, 2) := by decide +kernel
theorem dL_law_805 : decode cL_law 805 = .ok (.ifCond .ne 15, 3) := by decide +kernel
theorem dL_law_808 : decode cL_law 808 = .ok (.aload_n 3, 1) := by decide +kernel
theorem dL_law_809 : decode cL_law 809 = .ok (.iconst 0, 1) := by decide +kernel
theorem dL_law_810 : decode cL_law 810 = .ok (.laload, 1) := by decide +kernel
theorem dL_law_811 : decode cL_law 811 = .ok (.iload 6, 2) := by decide +kernel
theorem dL_law_813 : decode cL_law 813 = .ok (.i2l, 1) := by decide +kernel
theorem dL_law_814 : decode cL_law 814 = .ok (.lcmp, 1) := by decide +kernel
theorem dL_law_815 : decode cL_law 815 = .ok (.ifCond .eq 5, 3) := by decide +kernel
theorem dL_law_818 : decode cL_law 818 = .ok (.iconst 0, 1) := by decide +kernel
theorem dL_law_819 : decode cL_law 819 = .ok (.ireturn, 1) := by decide +kernel
theorem dL_law_820 : decode cL_law 820 = .ok (.goto 223, 3) := by decide +kernel
theorem dL_law_823 : decode cL_law 823 = .ok (.aload_n 1, 1) := by decide +kernel
theorem dL_law_824 : decode cL_law 824 = .ok (.aload_n 0, 1) := by decide +kernel
theorem dL_law_825 : decode cL_law 825 = .ok (.iload 4, 2) := by decide +kernel
theorem dL_law_827 : decode cL_law 827 = .ok (.iconst 1, 1) := by decide +kernel
theorem dL_law_828 : decode cL_law 828 = .ok (.iadd, 1) := by decide +kernel
theorem dL_law_829 : decode cL_law 829 = .ok (.iaload, 1) := by decide +kernel
theorem dL_law_830 : decode cL_law 830 = .ok (.aload_n 3, 1) := by decide +kernel
theorem dL_law_831 : decode cL_law 831 = .ok (.invokestatic 107, 3) := by decide +kernel
theorem dL_law_834 : decode cL_law 834 = .ok (.istore 5, 2) := by decide +kernel
theorem dL_law_836 : decode cL_law 836 = .ok (.aload_n 2, 1) := by decide +kernel
theorem dL_law_837 : decode cL_law 837 = .ok (.aload_n 0, 1) := by decide +kernel
theorem dL_law_838 : decode cL_law 838 = .ok (.iload 4, 2) := by decide +kernel
theorem dL_law_840 : decode cL_law 840 = .ok (.iconst 1, 1) := by decide +kernel
theorem dL_law_841 : decode cL_law 841 = .ok (.iadd, 1) := by decide +kernel
theorem dL_law_842 : decode cL_law 842 = .ok (.iaload, 1) := by decide +kernel
theorem dL_law_843 : decode cL_law 843 = .ok (.invokevirtual 109, 3) := by decide +kernel
theorem dL_law_846 : decode cL_law 846 = .ok (.istore 6, 2) := by decide +kernel
theorem dL_law_848 : decode cL_law 848 = .ok (.aload_n 2, 1) := by decide +kernel
theorem dL_law_849 : decode cL_law 849 = .ok (.invokevirtual 69, 3) := by decide +kernel
theorem dL_law_852 : decode cL_law 852 = .ok (.iload 5, 2) := by decide +kernel
theorem dL_law_854 : decode cL_law 854 = .ok (.if_icmp .eq 5, 3) := by decide +kernel
theorem dL_law_857 : decode cL_law 857 = .ok (.iconst 0, 1) := by decide +kernel
theorem dL_law_858 : decode cL_law 858 = .ok (.ireturn, 1) := by decide +kernel
theorem dL_law_859 : decode cL_law 859 = .ok (.iload 5, 2) := by decide +kernel
theorem dL_law_861 : decode cL_law 861 = .ok (.ifCond .ne 15, 3) := by decide +kernel
theorem dL_law_864 : decode cL_law 864 = .ok (.aload_n 3, 1) := by decide +kernel
theorem dL_law_865 : decode cL_law 865 = .ok (.iconst 0, 1) := by decide +kernel
theorem dL_law_866 : decode cL_law 866 = .ok (.laload, 1) := by decide +kernel
theorem dL_law_867 : decode cL_law 867 = .ok (.iload 6, 2) := by decide +kernel
theorem dL_law_869 : decode cL_law 869 = .ok (.i2l, 1) := by decide +kernel
theorem dL_law_870 : decode cL_law 870 = .ok (.lcmp, 1) := by decide +kernel
theorem dL_law_871 : decode cL_law 871 = .ok (.ifCond .eq 5, 3) := by decide +kernel
theorem dL_law_874 : decode cL_law 874 = .ok (.iconst 0, 1) := by decide +kernel
theorem dL_law_875 : decode cL_law 875 = .ok (.ireturn, 1) := by decide +kernel
theorem dL_law_876 : decode cL_law 876 = .ok (.goto 167, 3) := by decide +kernel
theorem dL_law_879 : decode cL_law 879 = .ok (.aload_n 1, 1) := by decide +kernel
theorem dL_law_880 : decode cL_law 880 = .ok (.invokevirtual 110, 3) := by decide +kernel
theorem dL_law_883 : decode cL_law 883 = .ok (.aload_n 2, 1) := by decide +kernel
theorem dL_law_884 : decode cL_law 884 = .ok (.invokevirtual 114, 3) := by decide +kernel
theorem dL_law_887 : decode cL_law 887 = .ok (.if_icmp .eq 156, 3) := by decide +kernel
theorem dL_law_890 : decode cL_law 890 = .ok (.iconst 0, 1) := by decide +kernel
theorem dL_law_891 : decode cL_law 891 = .ok (.ireturn, 1) := by decide +kernel
theorem dL_law_892 : decode cL_law 892 = .ok (.aload_n 1, 1) := by decide +kernel
theorem dL_law_893 : decode cL_law 893 = .ok (.aload_n 0, 1) := by decide +kernel
theorem dL_law_894 : decode cL_law 894 = .ok (.iload 4, 2) := by decide +kernel
theorem dL_law_896 : decode cL_law 896 = .ok (.iconst 1, 1) := by decide +kernel
theorem dL_law_897 : decode cL_law 897 = .ok (.iadd, 1) := by decide +kernel
theorem dL_law_898 : decode cL_law 898 = .ok (.iaload, 1) := by decide +kernel
theorem dL_law_899 : decode cL_law 899 = .ok (.aload_n 3, 1) := by decide +kernel
theorem dL_law_900 : decode cL_law 900 = .ok (.invokestatic 115, 3) := by decide +kernel
theorem dL_law_903 : decode cL_law 903 = .ok (.istore 5, 2) := by decide +kernel
theorem dL_law_905 : decode cL_law 905 = .ok (.aload_n 2, 1) := by decide +kernel
theorem dL_law_906 : decode cL_law 906 = .ok (.aload_n 0, 1) := by decide +kernel
theorem dL_law_907 : decode cL_law 907 = .ok (.iload 4, 2) := by decide +kernel
theorem dL_law_909 : decode cL_law 909 = .ok (.iconst 1, 1) := by decide +kernel
theorem dL_law_910 : decode cL_law 910 = .ok (.iadd, 1) := by decide +kernel
theorem dL_law_911 : decode cL_law 911 = .ok (.iaload, 1) := by decide +kernel
theorem dL_law_912 : decode cL_law 912 = .ok (.invokevirtual 117, 3) := by decide +kernel
theorem dL_law_915 : decode cL_law 915 = .ok (.istore 6, 2) := by decide +kernel
theorem dL_law_917 : decode cL_law 917 = .ok (.aload_n 2, 1) := by decide +kernel
theorem dL_law_918 : decode cL_law 918 = .ok (.invokevirtual 69, 3) := by decide +kernel
theorem dL_law_921 : decode cL_law 921 = .ok (.iload 5, 2) := by decide +kernel
theorem dL_law_923 : decode cL_law 923 = .ok (.if_icmp .eq 5, 3) := by decide +kernel
theorem dL_law_926 : decode cL_law 926 = .ok (.iconst 0, 1) := by decide +kernel
theorem dL_law_927 : decode cL_law 927 = .ok (.ireturn, 1) := by decide +kernel
theorem dL_law_928 : decode cL_law 928 = .ok (.iload 5, 2) := by decide +kernel
theorem dL_law_930 : decode cL_law 930 = .ok (.ifCond .ne 15, 3) := by decide +kernel
theorem dL_law_933 : decode cL_law 933 = .ok (.aload_n 3, 1) := by decide +kernel
theorem dL_law_934 : decode cL_law 934 = .ok (.iconst 0, 1) := by decide +kernel
theorem dL_law_935 : decode cL_law 935 = .ok (.laload, 1) := by decide +kernel
theorem dL_law_936 : decode cL_law 936 = .ok (.iload 6, 2) := by decide +kernel
theorem dL_law_938 : decode cL_law 938 = .ok (.i2l, 1) := by decide +kernel
theorem dL_law_939 : decode cL_law 939 = .ok (.lcmp, 1) := by decide +kernel
theorem dL_law_940 : decode cL_law 940 = .ok (.ifCond .eq 5, 3) := by decide +kernel
theorem dL_law_943 : decode cL_law 943 = .ok (.iconst 0, 1) := by decide +kernel
theorem dL_law_944 : decode cL_law 944 = .ok (.ireturn, 1) := by decide +kernel
theorem dL_law_945 : decode cL_law 945 = .ok (.goto 98, 3) := by decide +kernel
theorem dL_law_948 : decode cL_law 948 = .ok (.aload_n 1, 1) := by decide +kernel
theorem dL_law_949 : decode cL_law 949 = .ok (.aload_n 0, 1) := by decide +kernel
theorem dL_law_950 : decode cL_law 950 = .ok (.iload 4, 2) := by decide +kernel
theorem dL_law_952 : decode cL_law 952 = .ok (.iconst 1, 1) := by decide +kernel
theorem dL_law_953 : decode cL_law 953 = .ok (.iadd, 1) := by decide +kernel
theorem dL_law_954 : decode cL_law 954 = .ok (.iaload, 1) := by decide +kernel
theorem dL_law_955 : decode cL_law 955 = .ok (.aload_n 3, 1) := by decide +kernel
theorem dL_law_956 : decode cL_law 956 = .ok (.invokestatic 118, 3) := by decide +kernel
theorem dL_law_959 : decode cL_law 959 = .ok (.istore 5, 2) := by decide +kernel
theorem dL_law_961 : decode cL_law 961 = .ok (.aload_n 2, 1) := by decide +kernel
theorem dL_law_962 : decode cL_law 962 = .ok (.aload_n 0, 1) := by decide +kernel
theorem dL_law_963 : decode cL_law 963 = .ok (.iload 4, 2) := by decide +kernel
theorem dL_law_965 : decode cL_law 965 = .ok (.iconst 1, 1) := by decide +kernel
theorem dL_law_966 : decode cL_law 966 = .ok (.iadd, 1) := by decide +kernel
theorem dL_law_967 : decode cL_law 967 = .ok (.iaload, 1) := by decide +kernel
theorem dL_law_968 : decode cL_law 968 = .ok (.invokevirtual 120, 3) := by decide +kernel
theorem dL_law_971 : decode cL_law 971 = .ok (.istore 6, 2) := by decide +kernel
theorem dL_law_973 : decode cL_law 973 = .ok (.aload_n 2, 1) := by decide +kernel
theorem dL_law_974 : decode cL_law 974 = .ok (.invokevirtual 69, 3) := by decide +kernel
theorem dL_law_977 : decode cL_law 977 = .ok (.iload 5, 2) := by decide +kernel
theorem dL_law_979 : decode cL_law 979 = .ok (.if_icmp .eq 5, 3) := by decide +kernel
theorem dL_law_982 : decode cL_law 982 = .ok (.iconst 0, 1) := by decide +kernel
theorem dL_law_983 : decode cL_law 983 = .ok (.ireturn, 1) := by decide +kernel
theorem dL_law_984 : decode cL_law 984 = .ok (.iload 5, 2) := by decide +kernel
theorem dL_law_986 : decode cL_law 986 = .ok (.ifCond .ne 15, 3) := by decide +kernel
theorem dL_law_989 : decode cL_law 989 = .ok (.aload_n 3, 1) := by decide +kernel
theorem dL_law_990 : decode cL_law 990 = .ok (.iconst 0, 1) := by decide +kernel
theorem dL_law_991 : decode cL_law 991 = .ok (.laload, 1) := by decide +kernel
theorem dL_law_992 : decode cL_law 992 = .ok (.iload 6, 2) := by decide +kernel
theorem dL_law_994 : decode cL_law 994 = .ok (.i2l, 1) := by decide +kernel
theorem dL_law_995 : decode cL_law 995 = .ok (.lcmp, 1) := by decide +kernel
theorem dL_law_996 : decode cL_law 996 = .ok (.ifCond .eq 5, 3) := by decide +kernel
theorem dL_law_999 : decode cL_law 999 = .ok (.iconst 0, 1) := by decide +kernel
theorem dL_law_1000 : decode cL_law 1000 = .ok (.ireturn, 1) := by decide +kernel
theorem dL_law_1001 : decode cL_law 1001 = .ok (.goto 42, 3) := by decide +kernel
theorem dL_law_1004 : decode cL_law 1004 = .ok (.aload_n 1, 1) := by decide +kernel
theorem dL_law_1005 : decode cL_law 1005 = .ok (.invokevirtual 121, 3) := by decide +kernel
theorem dL_law_1008 : decode cL_law 1008 = .ok (.aload_n 2, 1) := by decide +kernel
theorem dL_law_1009 : decode cL_law 1009 = .ok (.invokevirtual 124, 3) := by decide +kernel
theorem dL_law_1012 : decode cL_law 1012 = .ok (.if_icmp .eq 31, 3) := by decide +kernel
theorem dL_law_1015 : decode cL_law 1015 = .ok (.iconst 0, 1) := by decide +kernel
theorem dL_law_1016 : decode cL_law 1016 = .ok (.ireturn, 1) := by decide +kernel
theorem dL_law_1017 : decode cL_law 1017 = .ok (.aload_n 1, 1) := by decide +kernel
theorem dL_law_1018 : decode cL_law 1018 = .ok (.invokevirtual 125, 3) := by decide +kernel
theorem dL_law_1021 : decode cL_law 1021 = .ok (.aload_n 2, 1) := by decide +kernel
theorem dL_law_1022 : decode cL_law 1022 = .ok (.invokevirtual 128, 3) := by decide +kernel
theorem dL_law_1025 : decode cL_law 1025 = .ok (.if_icmp .eq 18, 3) := by decide +kernel
theorem dL_law_1028 : decode cL_law 1028 = .ok (.iconst 0, 1) := by decide +kernel
theorem dL_law_1029 : decode cL_law 1029 = .ok (.ireturn, 1) := by decide +kernel
theorem dL_law_1030 : decode cL_law 1030 = .ok (.aload_n 1, 1) := by decide +kernel
theorem dL_law_1031 : decode cL_law 1031 = .ok (.invokevirtual 129, 3) := by decide +kernel
theorem dL_law_1034 : decode cL_law 1034 = .ok (.aload_n 2, 1) := by decide +kernel
theorem dL_law_1035 : decode cL_law 1035 = .ok (.invokevirtual 132, 3) := by decide +kernel
theorem dL_law_1038 : decode cL_law 1038 = .ok (.if_icmp .eq 5, 3) := by decide +kernel
theorem dL_law_1041 : decode cL_law 1041 = .ok (.iconst 0, 1) := by decide +kernel
theorem dL_law_1042 : decode cL_law 1042 = .ok (.ireturn, 1) := by decide +kernel
theorem dL_law_1043 : decode cL_law 1043 = .ok (.iinc 4 4, 3) := by decide +kernel
theorem dL_law_1046 : decode cL_law 1046 = .ok (.goto (-1023), 3) := by decide +kernel
theorem dL_law_1049 : decode cL_law 1049 = .ok (.iconst 1, 1) := by decide +kernel
theorem dL_law_1050 : decode cL_law 1050 = .ok (.ireturn, 1) := by decide +kernel
end
section
/-! THE STATE. c: the class's columns (c k u: field k of unit u; c 20 k: field k of the BootStage; c 30 0: wishes told; c 31 j, c 32 j, c 33 j, c 34 j: units, weight and address of wish j; c 35 0, c 36 0: the list's array and its length, 0 for the shared empty one; c 37 0: modCount). r: the reference's (r k i: array of field k at i; r 30 k: its field k). o: out[0] + 1. G: addresses. -/
abbrev vwCl : List vw_C := [(RJx4a65c, TJx4a65c, 3), (RX0, TX0, 13), (RX1, TX1, 3), (RX2, TX2, 7), (RX3, TX3, 23)]
def up2 (x : Nat → Nat → Nat) (a i v : Nat) : Nat → Nat → Nat := fun b j => if b = a ∧ j = i then v else x b j
theorem up2_s (x : Nat → Nat → Nat) (a i v : Nat) : up2 x a i v a i = v := by simp [up2]
theorem up2_c {x : Nat → Nat → Nat} {a i v b j : Nat} (h : b ≠ a) : up2 x a i v b j = x b j := by simp [up2, h]
theorem up2_i {x : Nat → Nat → Nat} {a i v b j : Nat} (h : j ≠ i) : up2 x a i v b j = x b j := by simp [up2, h]
def sbV (G : Nat → Nat) (n : Nat) : Value := if n = 0 then .null else .ref (G (19 + n))
theorem sbV_0 (G : Nat → Nat) {n : Nat} (h : n = 0) : sbV G n = .null := by simp [sbV, h]
theorem sbV_s (G : Nat → Nat) {n u : Nat} (h : n = u + 1) : sbV G n = .ref (G (20 + u)) := by
  subst h
  simp only [sbV, Nat.succ_ne_zero, if_false]
  rw [show 19 + (u + 1) = 20 + u by omega]
def siI (n : Nat) : Int32 := nI n - 1
def lE (n : Nat) : Int64 := lN n - 1

abbrev uF (G : Nat → Nat) (c : Nat → Nat → Nat) (u : Nat) : List Value := [.int (nI u), .int (nI (c 1 u)), .int (nI (c 2 u)), .int (nI (c 3 u)), .int (nI (c 4 u)), .int (nI (c 5 u)), sbV G (c 6 u), .int (nI (c 7 u)), .int (nI (c 8 u)), .int (nI (c 9 u)), .int (nI (c 10 u)), .int (nI (c 11 u)), .int (nI (c 12 u))]
abbrev oF (G : Nat → Nat) (c : Nat → Nat → Nat) : List Value := [.ref (G 1), .int (nI (c 20 1)), .ref (G 2), .int (nI (c 20 3)), .int (nI (c 20 4)), .int (nI (c 20 5)), .int (nI (c 20 6))]
abbrev lF (c : Nat → Nat → Nat) : List Value := [.int (nI (c 37 0)), .ref (c 35 0), .int (nI (c 30 0))]
abbrev xF (G : Nat → Nat) (c : Nat → Nat → Nat) : List Value := [sbV G (c 38 2), sbV G (c 38 3), .int (nI (c 38 4))]
abbrev wF (G : Nat → Nat) (c : Nat → Nat → Nat) (j : Nat) : List Value := [.ref (G (20 + c 31 j)), .ref (G (20 + c 32 j)), .int (nI (c 33 j))]
abbrev mF (G : Nat → Nat) (r : Nat → Nat → Nat) : List Value := [.int (nI (r 30 0)), .ref (G 5), .ref (G 6), .ref (G 7), .ref (G 8), .ref (G 9), .ref (G 10), .ref (G 11), .ref (G 12), .ref (G 13), .int (nI (r 30 10)), .ref (G 14), .int (nI (r 30 12)), .int (nI (r 30 13)), .int (nI (r 30 14)), .int (nI (r 30 15)), .int (nI (r 30 16)), .ref (G 15), .ref (G 16), .ref (G 17), .ref (G 18), .ref (G 19), .int (nI (r 30 22))]
def Rc (G : Nat → Nat) (c : Nat → Nat → Nat) (wl : va_W) : Prop :=
  wl[0]? = some (G 0, .inr (3, oF G c)) ∧ wl[1]? = some (G 1, .inl (G 60, 20, .inr (.inr (.inr (.inr (fun i => some (G (20 + i)))))))) ∧ wl[2]? = some (G 2, .inr (0, lF c)) ∧
  (∀ u, u < 20 → wl[20 + u]? = some (G (20 + u), .inr (1, uF G c u))) ∧
  (∀ j, j < c 30 0 → ∃ i, 40 ≤ i ∧ wl[i]? = some (c 34 j, .inr (2, wF G c j))) ∧
  (∀ i j, i < c 30 0 → j < c 30 0 → c 34 i = c 34 j → i = j) ∧
  (c 36 0 = 0 → c 35 0 = G 70 ∧ c 30 0 = 0) ∧
  (0 < c 36 0 → ∃ i, 40 ≤ i ∧ wl[i]? = some (c 35 0, .inl (G 61, c 36 0, .inr (.inr (.inr (.inr (fun j => if j < c 30 0 then some (c 34 j) else none))))))) ∧
  (c 38 0 = 1 → ∃ i, 40 ≤ i ∧ wl[i]? = some (c 38 1, .inr (2, xF G c)) ∧ ∀ j, j < c 30 0 → c 34 j ≠ c 38 1)
def Rr (G : Nat → Nat) (r : Nat → Nat → Nat) (wl : va_W) : Prop :=
  wl[3]? = some (G 3, .inr (4, mF G r)) ∧ wl[5]? = some (G 5, .inl (G 62, 20, .inl (fun i => nI (r 1 i)))) ∧ wl[6]? = some (G 6, .inl (G 62, 20, .inl (fun i => nI (r 2 i)))) ∧ wl[7]? = some (G 7, .inl (G 62, 20, .inl (fun i => nI (r 3 i)))) ∧ wl[8]? = some (G 8, .inl (G 62, 20, .inl (fun i => nI (r 4 i)))) ∧ wl[9]? = some (G 9, .inl (G 62, 20, .inl (fun i => siI (r 5 i)))) ∧ wl[10]? = some (G 10, .inl (G 63, 20, .inl (fun i => nI (r 6 i)))) ∧ wl[11]? = some (G 11, .inl (G 63, 400, .inl (fun i => nI (r 7 i)))) ∧ wl[12]? = some (G 12, .inl (G 62, 400, .inl (fun i => nI (r 8 i)))) ∧ wl[13]? = some (G 13, .inl (G 62, 400, .inl (fun i => nI (r 9 i)))) ∧ wl[14]? = some (G 14, .inl (G 63, 400, .inl (fun i => nI (r 11 i)))) ∧ wl[15]? = some (G 15, .inl (G 62, 20, .inl (fun i => nI (r 17 i)))) ∧ wl[16]? = some (G 16, .inl (G 62, 20, .inl (fun i => nI (r 18 i)))) ∧ wl[17]? = some (G 17, .inl (G 62, 20, .inl (fun i => nI (r 19 i)))) ∧ wl[18]? = some (G 18, .inl (G 62, 20, .inl (fun i => nI (r 20 i)))) ∧ wl[19]? = some (G 19, .inl (G 63, 20, .inl (fun i => nI (r 21 i))))
def Ro (G : Nat → Nat) (o : Nat) (wl : va_W) : Prop := wl[4]? = some (G 4, .inl (G 64, 1, .inr (.inl (fun _ => lE o))))
theorem ws_ne {wl : va_W} {i j : Nat} {e : Nat × va_E} (h : i ≠ j) : (wl.set i e)[j]? = wl[j]? := List.getElem?_set_ne h
theorem ws_eq {wl : va_W} {i : Nat} {e q : Nat × va_E} (h : wl[i]? = some q) : (wl.set i e)[i]? = some e := List.getElem?_set_self (List.getElem?_eq_some_iff.mp h).1
theorem ws_ap {wl l : va_W} {i : Nat} {q : Nat × va_E} (h : wl[i]? = some q) : (wl ++ l)[i]? = some q := by
  rw [List.getElem?_append_left (List.getElem?_eq_some_iff.mp h).1]
  exact h
theorem Rc_fr {G : Nat → Nat} {c : Nat → Nat → Nat} {wl : va_W} {i : Nat} {e : Nat × va_E} (h : Rc G c wl) (h1 : 3 ≤ i) (h2 : i < 20) : Rc G c (wl.set i e) := by
  obtain ⟨a0, a1, a2, a3, a4, a5, a6, a7, a8⟩ := h
  refine ⟨by rw [ws_ne (by omega)]; exact a0, by rw [ws_ne (by omega)]; exact a1, by rw [ws_ne (by omega)]; exact a2, fun u hu => by rw [ws_ne (by omega)]; exact a3 u hu, fun j hj => ?_, a5, a6, fun hc => ?_, fun hc => ?_⟩
  · obtain ⟨k, hk, hq⟩ := a4 j hj
    exact ⟨k, hk, by rw [ws_ne (by omega)]; exact hq⟩
  · obtain ⟨k, hk, hq⟩ := a7 hc
    exact ⟨k, hk, by rw [ws_ne (by omega)]; exact hq⟩
  · obtain ⟨k, hk, hq, hz⟩ := a8 hc
    exact ⟨k, hk, by rw [ws_ne (by omega)]; exact hq, hz⟩
theorem Rc_ap {G : Nat → Nat} {c : Nat → Nat → Nat} {wl l : va_W} (h : Rc G c wl) : Rc G c (wl ++ l) := by
  obtain ⟨a0, a1, a2, a3, a4, a5, a6, a7, a8⟩ := h
  refine ⟨ws_ap a0, ws_ap a1, ws_ap a2, fun u hu => ws_ap (a3 u hu), fun j hj => ?_, a5, a6, fun hc => ?_, fun hc => ?_⟩
  · obtain ⟨k, hk, hq⟩ := a4 j hj
    exact ⟨k, hk, ws_ap hq⟩
  · obtain ⟨k, hk, hq⟩ := a7 hc
    exact ⟨k, hk, ws_ap hq⟩
  · obtain ⟨k, hk, hq, hz⟩ := a8 hc
    exact ⟨k, hk, ws_ap hq, hz⟩
theorem Ro_fr {G : Nat → Nat} {o : Nat} {wl : va_W} {i : Nat} {e : Nat × va_E} (h : Ro G o wl) (hi : i ≠ 4) : Ro G o (wl.set i e) := by
  unfold Ro
  rw [ws_ne hi]
  exact h
theorem Ro_ap {G : Nat → Nat} {o : Nat} {wl l : va_W} (h : Ro G o wl) : Ro G o (wl ++ l) := ws_ap h
theorem Rr_fr {G : Nat → Nat} {r : Nat → Nat → Nat} {wl : va_W} {i : Nat} {e : Nat × va_E} (h : Rr G r wl) (hi : i < 3 ∨ i = 4 ∨ 20 ≤ i) : Rr G r (wl.set i e) := by
  obtain ⟨b3, b5, b6, b7, b8, b9, b10, b11, b12, b13, b14, b15, b16, b17, b18, b19⟩ := h
  exact ⟨by rw [ws_ne (by omega)]; exact b3, by rw [ws_ne (by omega)]; exact b5, by rw [ws_ne (by omega)]; exact b6, by rw [ws_ne (by omega)]; exact b7, by rw [ws_ne (by omega)]; exact b8, by rw [ws_ne (by omega)]; exact b9, by rw [ws_ne (by omega)]; exact b10, by rw [ws_ne (by omega)]; exact b11, by rw [ws_ne (by omega)]; exact b12, by rw [ws_ne (by omega)]; exact b13, by rw [ws_ne (by omega)]; exact b14, by rw [ws_ne (by omega)]; exact b15, by rw [ws_ne (by omega)]; exact b16, by rw [ws_ne (by omega)]; exact b17, by rw [ws_ne (by omega)]; exact b18, by rw [ws_ne (by omega)]; exact b19⟩
theorem Rr_ap {G : Nat → Nat} {r : Nat → Nat → Nat} {wl l : va_W} (h : Rr G r wl) : Rr G r (wl ++ l) := by
  obtain ⟨b3, b5, b6, b7, b8, b9, b10, b11, b12, b13, b14, b15, b16, b17, b18, b19⟩ := h
  exact ⟨ws_ap b3, ws_ap b5, ws_ap b6, ws_ap b7, ws_ap b8, ws_ap b9, ws_ap b10, ws_ap b11, ws_ap b12, ws_ap b13, ws_ap b14, ws_ap b15, ws_ap b16, ws_ap b17, ws_ap b18, ws_ap b19⟩
theorem P_o1 {G : Nat → Nat} {c : Nat → Nat → Nat} {wl : va_W} (v : Nat) (h : Rc G c wl) : Rc G (up2 c 20 1 v) (wl.set 0 (G 0, .inr (3, (oF G c).set 1 (.int (nI v))))) := by
  obtain ⟨a0, a1, a2, a3, a4, a5, a6, a7, a8⟩ := h
  refine ⟨by rw [ws_eq a0]; rfl, by rw [ws_ne (by decide)]; exact a1, by rw [ws_ne (by decide)]; exact a2, fun u hu => by rw [ws_ne (by omega)]; exact a3 u hu, fun j hj => ?_, a5, a6, fun hc => ?_, fun hc => ?_⟩
  · obtain ⟨k, hk, hq⟩ := a4 j hj
    exact ⟨k, hk, by rw [ws_ne (by omega)]; exact hq⟩
  · obtain ⟨k, hk, hq⟩ := a7 hc
    exact ⟨k, hk, by rw [ws_ne (by omega)]; exact hq⟩
  · obtain ⟨k, hk, hq, hz⟩ := a8 hc
    exact ⟨k, hk, by rw [ws_ne (by omega)]; exact hq, hz⟩
theorem P_o3 {G : Nat → Nat} {c : Nat → Nat → Nat} {wl : va_W} (v : Nat) (h : Rc G c wl) : Rc G (up2 c 20 3 v) (wl.set 0 (G 0, .inr (3, (oF G c).set 3 (.int (nI v))))) := by
  obtain ⟨a0, a1, a2, a3, a4, a5, a6, a7, a8⟩ := h
  refine ⟨by rw [ws_eq a0]; rfl, by rw [ws_ne (by decide)]; exact a1, by rw [ws_ne (by decide)]; exact a2, fun u hu => by rw [ws_ne (by omega)]; exact a3 u hu, fun j hj => ?_, a5, a6, fun hc => ?_, fun hc => ?_⟩
  · obtain ⟨k, hk, hq⟩ := a4 j hj
    exact ⟨k, hk, by rw [ws_ne (by omega)]; exact hq⟩
  · obtain ⟨k, hk, hq⟩ := a7 hc
    exact ⟨k, hk, by rw [ws_ne (by omega)]; exact hq⟩
  · obtain ⟨k, hk, hq, hz⟩ := a8 hc
    exact ⟨k, hk, by rw [ws_ne (by omega)]; exact hq, hz⟩
theorem P_o4 {G : Nat → Nat} {c : Nat → Nat → Nat} {wl : va_W} (v : Nat) (h : Rc G c wl) : Rc G (up2 c 20 4 v) (wl.set 0 (G 0, .inr (3, (oF G c).set 4 (.int (nI v))))) := by
  obtain ⟨a0, a1, a2, a3, a4, a5, a6, a7, a8⟩ := h
  refine ⟨by rw [ws_eq a0]; rfl, by rw [ws_ne (by decide)]; exact a1, by rw [ws_ne (by decide)]; exact a2, fun u hu => by rw [ws_ne (by omega)]; exact a3 u hu, fun j hj => ?_, a5, a6, fun hc => ?_, fun hc => ?_⟩
  · obtain ⟨k, hk, hq⟩ := a4 j hj
    exact ⟨k, hk, by rw [ws_ne (by omega)]; exact hq⟩
  · obtain ⟨k, hk, hq⟩ := a7 hc
    exact ⟨k, hk, by rw [ws_ne (by omega)]; exact hq⟩
  · obtain ⟨k, hk, hq, hz⟩ := a8 hc
    exact ⟨k, hk, by rw [ws_ne (by omega)]; exact hq, hz⟩
theorem P_o5 {G : Nat → Nat} {c : Nat → Nat → Nat} {wl : va_W} (v : Nat) (h : Rc G c wl) : Rc G (up2 c 20 5 v) (wl.set 0 (G 0, .inr (3, (oF G c).set 5 (.int (nI v))))) := by
  obtain ⟨a0, a1, a2, a3, a4, a5, a6, a7, a8⟩ := h
  refine ⟨by rw [ws_eq a0]; rfl, by rw [ws_ne (by decide)]; exact a1, by rw [ws_ne (by decide)]; exact a2, fun u hu => by rw [ws_ne (by omega)]; exact a3 u hu, fun j hj => ?_, a5, a6, fun hc => ?_, fun hc => ?_⟩
  · obtain ⟨k, hk, hq⟩ := a4 j hj
    exact ⟨k, hk, by rw [ws_ne (by omega)]; exact hq⟩
  · obtain ⟨k, hk, hq⟩ := a7 hc
    exact ⟨k, hk, by rw [ws_ne (by omega)]; exact hq⟩
  · obtain ⟨k, hk, hq, hz⟩ := a8 hc
    exact ⟨k, hk, by rw [ws_ne (by omega)]; exact hq, hz⟩
theorem P_o6 {G : Nat → Nat} {c : Nat → Nat → Nat} {wl : va_W} (v : Nat) (h : Rc G c wl) : Rc G (up2 c 20 6 v) (wl.set 0 (G 0, .inr (3, (oF G c).set 6 (.int (nI v))))) := by
  obtain ⟨a0, a1, a2, a3, a4, a5, a6, a7, a8⟩ := h
  refine ⟨by rw [ws_eq a0]; rfl, by rw [ws_ne (by decide)]; exact a1, by rw [ws_ne (by decide)]; exact a2, fun u hu => by rw [ws_ne (by omega)]; exact a3 u hu, fun j hj => ?_, a5, a6, fun hc => ?_, fun hc => ?_⟩
  · obtain ⟨k, hk, hq⟩ := a4 j hj
    exact ⟨k, hk, by rw [ws_ne (by omega)]; exact hq⟩
  · obtain ⟨k, hk, hq⟩ := a7 hc
    exact ⟨k, hk, by rw [ws_ne (by omega)]; exact hq⟩
  · obtain ⟨k, hk, hq, hz⟩ := a8 hc
    exact ⟨k, hk, by rw [ws_ne (by omega)]; exact hq, hz⟩
theorem P_u1 {G : Nat → Nat} {c : Nat → Nat → Nat} {wl : va_W} {u : Nat} (v : Nat) (hu : u < 20) (h : Rc G c wl) : Rc G (up2 c 1 u v) (wl.set (20 + u) (G (20 + u), .inr (1, (uF G c u).set 1 (.int (nI v))))) := by
  obtain ⟨a0, a1, a2, a3, a4, a5, a6, a7, a8⟩ := h
  refine ⟨by rw [ws_ne (by omega)]; exact a0, by rw [ws_ne (by omega)]; exact a1, by rw [ws_ne (by omega)]; exact a2, fun w hw => ?_, fun j hj => ?_, a5, a6, fun hc => ?_, fun hc => ?_⟩
  · by_cases hwu : w = u
    · subst hwu
      rw [ws_eq (a3 w hw)]
      show some _ = some (_, Sum.inr (1, uF G (up2 c 1 w v) w))
      simp [uF, up2]
    · rw [ws_ne (by omega), a3 w hw]
      simp only [uF, up2_i hwu]
  · obtain ⟨k, hk, hq⟩ := a4 j hj
    exact ⟨k, hk, by rw [ws_ne (by omega)]; exact hq⟩
  · obtain ⟨k, hk, hq⟩ := a7 hc
    exact ⟨k, hk, by rw [ws_ne (by omega)]; exact hq⟩
  · obtain ⟨k, hk, hq, hz⟩ := a8 hc
    exact ⟨k, hk, by rw [ws_ne (by omega)]; exact hq, hz⟩
theorem P_u2 {G : Nat → Nat} {c : Nat → Nat → Nat} {wl : va_W} {u : Nat} (v : Nat) (hu : u < 20) (h : Rc G c wl) : Rc G (up2 c 2 u v) (wl.set (20 + u) (G (20 + u), .inr (1, (uF G c u).set 2 (.int (nI v))))) := by
  obtain ⟨a0, a1, a2, a3, a4, a5, a6, a7, a8⟩ := h
  refine ⟨by rw [ws_ne (by omega)]; exact a0, by rw [ws_ne (by omega)]; exact a1, by rw [ws_ne (by omega)]; exact a2, fun w hw => ?_, fun j hj => ?_, a5, a6, fun hc => ?_, fun hc => ?_⟩
  · by_cases hwu : w = u
    · subst hwu
      rw [ws_eq (a3 w hw)]
      show some _ = some (_, Sum.inr (1, uF G (up2 c 2 w v) w))
      simp [uF, up2]
    · rw [ws_ne (by omega), a3 w hw]
      simp only [uF, up2_i hwu]
  · obtain ⟨k, hk, hq⟩ := a4 j hj
    exact ⟨k, hk, by rw [ws_ne (by omega)]; exact hq⟩
  · obtain ⟨k, hk, hq⟩ := a7 hc
    exact ⟨k, hk, by rw [ws_ne (by omega)]; exact hq⟩
  · obtain ⟨k, hk, hq, hz⟩ := a8 hc
    exact ⟨k, hk, by rw [ws_ne (by omega)]; exact hq, hz⟩
theorem P_u3 {G : Nat → Nat} {c : Nat → Nat → Nat} {wl : va_W} {u : Nat} (v : Nat) (hu : u < 20) (h : Rc G c wl) : Rc G (up2 c 3 u v) (wl.set (20 + u) (G (20 + u), .inr (1, (uF G c u).set 3 (.int (nI v))))) := by
  obtain ⟨a0, a1, a2, a3, a4, a5, a6, a7, a8⟩ := h
  refine ⟨by rw [ws_ne (by omega)]; exact a0, by rw [ws_ne (by omega)]; exact a1, by rw [ws_ne (by omega)]; exact a2, fun w hw => ?_, fun j hj => ?_, a5, a6, fun hc => ?_, fun hc => ?_⟩
  · by_cases hwu : w = u
    · subst hwu
      rw [ws_eq (a3 w hw)]
      show some _ = some (_, Sum.inr (1, uF G (up2 c 3 w v) w))
      simp [uF, up2]
    · rw [ws_ne (by omega), a3 w hw]
      simp only [uF, up2_i hwu]
  · obtain ⟨k, hk, hq⟩ := a4 j hj
    exact ⟨k, hk, by rw [ws_ne (by omega)]; exact hq⟩
  · obtain ⟨k, hk, hq⟩ := a7 hc
    exact ⟨k, hk, by rw [ws_ne (by omega)]; exact hq⟩
  · obtain ⟨k, hk, hq, hz⟩ := a8 hc
    exact ⟨k, hk, by rw [ws_ne (by omega)]; exact hq, hz⟩
theorem P_u4 {G : Nat → Nat} {c : Nat → Nat → Nat} {wl : va_W} {u : Nat} (v : Nat) (hu : u < 20) (h : Rc G c wl) : Rc G (up2 c 4 u v) (wl.set (20 + u) (G (20 + u), .inr (1, (uF G c u).set 4 (.int (nI v))))) := by
  obtain ⟨a0, a1, a2, a3, a4, a5, a6, a7, a8⟩ := h
  refine ⟨by rw [ws_ne (by omega)]; exact a0, by rw [ws_ne (by omega)]; exact a1, by rw [ws_ne (by omega)]; exact a2, fun w hw => ?_, fun j hj => ?_, a5, a6, fun hc => ?_, fun hc => ?_⟩
  · by_cases hwu : w = u
    · subst hwu
      rw [ws_eq (a3 w hw)]
      show some _ = some (_, Sum.inr (1, uF G (up2 c 4 w v) w))
      simp [uF, up2]
    · rw [ws_ne (by omega), a3 w hw]
      simp only [uF, up2_i hwu]
  · obtain ⟨k, hk, hq⟩ := a4 j hj
    exact ⟨k, hk, by rw [ws_ne (by omega)]; exact hq⟩
  · obtain ⟨k, hk, hq⟩ := a7 hc
    exact ⟨k, hk, by rw [ws_ne (by omega)]; exact hq⟩
  · obtain ⟨k, hk, hq, hz⟩ := a8 hc
    exact ⟨k, hk, by rw [ws_ne (by omega)]; exact hq, hz⟩
theorem P_u5 {G : Nat → Nat} {c : Nat → Nat → Nat} {wl : va_W} {u : Nat} (v : Nat) (hu : u < 20) (h : Rc G c wl) : Rc G (up2 c 5 u v) (wl.set (20 + u) (G (20 + u), .inr (1, (uF G c u).set 5 (.int (nI v))))) := by
  obtain ⟨a0, a1, a2, a3, a4, a5, a6, a7, a8⟩ := h
  refine ⟨by rw [ws_ne (by omega)]; exact a0, by rw [ws_ne (by omega)]; exact a1, by rw [ws_ne (by omega)]; exact a2, fun w hw => ?_, fun j hj => ?_, a5, a6, fun hc => ?_, fun hc => ?_⟩
  · by_cases hwu : w = u
    · subst hwu
      rw [ws_eq (a3 w hw)]
      show some _ = some (_, Sum.inr (1, uF G (up2 c 5 w v) w))
      simp [uF, up2]
    · rw [ws_ne (by omega), a3 w hw]
      simp only [uF, up2_i hwu]
  · obtain ⟨k, hk, hq⟩ := a4 j hj
    exact ⟨k, hk, by rw [ws_ne (by omega)]; exact hq⟩
  · obtain ⟨k, hk, hq⟩ := a7 hc
    exact ⟨k, hk, by rw [ws_ne (by omega)]; exact hq⟩
  · obtain ⟨k, hk, hq, hz⟩ := a8 hc
    exact ⟨k, hk, by rw [ws_ne (by omega)]; exact hq, hz⟩
theorem P_u6 {G : Nat → Nat} {c : Nat → Nat → Nat} {wl : va_W} {u : Nat} (v : Nat) (hu : u < 20) (h : Rc G c wl) : Rc G (up2 c 6 u v) (wl.set (20 + u) (G (20 + u), .inr (1, (uF G c u).set 6 (sbV G v)))) := by
  obtain ⟨a0, a1, a2, a3, a4, a5, a6, a7, a8⟩ := h
  refine ⟨by rw [ws_ne (by omega)]; exact a0, by rw [ws_ne (by omega)]; exact a1, by rw [ws_ne (by omega)]; exact a2, fun w hw => ?_, fun j hj => ?_, a5, a6, fun hc => ?_, fun hc => ?_⟩
  · by_cases hwu : w = u
    · subst hwu
      rw [ws_eq (a3 w hw)]
      show some _ = some (_, Sum.inr (1, uF G (up2 c 6 w v) w))
      simp [uF, up2]
    · rw [ws_ne (by omega), a3 w hw]
      simp only [uF, up2_i hwu]
  · obtain ⟨k, hk, hq⟩ := a4 j hj
    exact ⟨k, hk, by rw [ws_ne (by omega)]; exact hq⟩
  · obtain ⟨k, hk, hq⟩ := a7 hc
    exact ⟨k, hk, by rw [ws_ne (by omega)]; exact hq⟩
  · obtain ⟨k, hk, hq, hz⟩ := a8 hc
    exact ⟨k, hk, by rw [ws_ne (by omega)]; exact hq, hz⟩
theorem P_u7 {G : Nat → Nat} {c : Nat → Nat → Nat} {wl : va_W} {u : Nat} (v : Nat) (hu : u < 20) (h : Rc G c wl) : Rc G (up2 c 7 u v) (wl.set (20 + u) (G (20 + u), .inr (1, (uF G c u).set 7 (.int (nI v))))) := by
  obtain ⟨a0, a1, a2, a3, a4, a5, a6, a7, a8⟩ := h
  refine ⟨by rw [ws_ne (by omega)]; exact a0, by rw [ws_ne (by omega)]; exact a1, by rw [ws_ne (by omega)]; exact a2, fun w hw => ?_, fun j hj => ?_, a5, a6, fun hc => ?_, fun hc => ?_⟩
  · by_cases hwu : w = u
    · subst hwu
      rw [ws_eq (a3 w hw)]
      show some _ = some (_, Sum.inr (1, uF G (up2 c 7 w v) w))
      simp [uF, up2]
    · rw [ws_ne (by omega), a3 w hw]
      simp only [uF, up2_i hwu]
  · obtain ⟨k, hk, hq⟩ := a4 j hj
    exact ⟨k, hk, by rw [ws_ne (by omega)]; exact hq⟩
  · obtain ⟨k, hk, hq⟩ := a7 hc
    exact ⟨k, hk, by rw [ws_ne (by omega)]; exact hq⟩
  · obtain ⟨k, hk, hq, hz⟩ := a8 hc
    exact ⟨k, hk, by rw [ws_ne (by omega)]; exact hq, hz⟩
theorem P_u8 {G : Nat → Nat} {c : Nat → Nat → Nat} {wl : va_W} {u : Nat} (v : Nat) (hu : u < 20) (h : Rc G c wl) : Rc G (up2 c 8 u v) (wl.set (20 + u) (G (20 + u), .inr (1, (uF G c u).set 8 (.int (nI v))))) := by
  obtain ⟨a0, a1, a2, a3, a4, a5, a6, a7, a8⟩ := h
  refine ⟨by rw [ws_ne (by omega)]; exact a0, by rw [ws_ne (by omega)]; exact a1, by rw [ws_ne (by omega)]; exact a2, fun w hw => ?_, fun j hj => ?_, a5, a6, fun hc => ?_, fun hc => ?_⟩
  · by_cases hwu : w = u
    · subst hwu
      rw [ws_eq (a3 w hw)]
      show some _ = some (_, Sum.inr (1, uF G (up2 c 8 w v) w))
      simp [uF, up2]
    · rw [ws_ne (by omega), a3 w hw]
      simp only [uF, up2_i hwu]
  · obtain ⟨k, hk, hq⟩ := a4 j hj
    exact ⟨k, hk, by rw [ws_ne (by omega)]; exact hq⟩
  · obtain ⟨k, hk, hq⟩ := a7 hc
    exact ⟨k, hk, by rw [ws_ne (by omega)]; exact hq⟩
  · obtain ⟨k, hk, hq, hz⟩ := a8 hc
    exact ⟨k, hk, by rw [ws_ne (by omega)]; exact hq, hz⟩
theorem P_u9 {G : Nat → Nat} {c : Nat → Nat → Nat} {wl : va_W} {u : Nat} (v : Nat) (hu : u < 20) (h : Rc G c wl) : Rc G (up2 c 9 u v) (wl.set (20 + u) (G (20 + u), .inr (1, (uF G c u).set 9 (.int (nI v))))) := by
  obtain ⟨a0, a1, a2, a3, a4, a5, a6, a7, a8⟩ := h
  refine ⟨by rw [ws_ne (by omega)]; exact a0, by rw [ws_ne (by omega)]; exact a1, by rw [ws_ne (by omega)]; exact a2, fun w hw => ?_, fun j hj => ?_, a5, a6, fun hc => ?_, fun hc => ?_⟩
  · by_cases hwu : w = u
    · subst hwu
      rw [ws_eq (a3 w hw)]
      show some _ = some (_, Sum.inr (1, uF G (up2 c 9 w v) w))
      simp [uF, up2]
    · rw [ws_ne (by omega), a3 w hw]
      simp only [uF, up2_i hwu]
  · obtain ⟨k, hk, hq⟩ := a4 j hj
    exact ⟨k, hk, by rw [ws_ne (by omega)]; exact hq⟩
  · obtain ⟨k, hk, hq⟩ := a7 hc
    exact ⟨k, hk, by rw [ws_ne (by omega)]; exact hq⟩
  · obtain ⟨k, hk, hq, hz⟩ := a8 hc
    exact ⟨k, hk, by rw [ws_ne (by omega)]; exact hq, hz⟩
theorem P_u10 {G : Nat → Nat} {c : Nat → Nat → Nat} {wl : va_W} {u : Nat} (v : Nat) (hu : u < 20) (h : Rc G c wl) : Rc G (up2 c 10 u v) (wl.set (20 + u) (G (20 + u), .inr (1, (uF G c u).set 10 (.int (nI v))))) := by
  obtain ⟨a0, a1, a2, a3, a4, a5, a6, a7, a8⟩ := h
  refine ⟨by rw [ws_ne (by omega)]; exact a0, by rw [ws_ne (by omega)]; exact a1, by rw [ws_ne (by omega)]; exact a2, fun w hw => ?_, fun j hj => ?_, a5, a6, fun hc => ?_, fun hc => ?_⟩
  · by_cases hwu : w = u
    · subst hwu
      rw [ws_eq (a3 w hw)]
      show some _ = some (_, Sum.inr (1, uF G (up2 c 10 w v) w))
      simp [uF, up2]
    · rw [ws_ne (by omega), a3 w hw]
      simp only [uF, up2_i hwu]
  · obtain ⟨k, hk, hq⟩ := a4 j hj
    exact ⟨k, hk, by rw [ws_ne (by omega)]; exact hq⟩
  · obtain ⟨k, hk, hq⟩ := a7 hc
    exact ⟨k, hk, by rw [ws_ne (by omega)]; exact hq⟩
  · obtain ⟨k, hk, hq, hz⟩ := a8 hc
    exact ⟨k, hk, by rw [ws_ne (by omega)]; exact hq, hz⟩
theorem P_u11 {G : Nat → Nat} {c : Nat → Nat → Nat} {wl : va_W} {u : Nat} (v : Nat) (hu : u < 20) (h : Rc G c wl) : Rc G (up2 c 11 u v) (wl.set (20 + u) (G (20 + u), .inr (1, (uF G c u).set 11 (.int (nI v))))) := by
  obtain ⟨a0, a1, a2, a3, a4, a5, a6, a7, a8⟩ := h
  refine ⟨by rw [ws_ne (by omega)]; exact a0, by rw [ws_ne (by omega)]; exact a1, by rw [ws_ne (by omega)]; exact a2, fun w hw => ?_, fun j hj => ?_, a5, a6, fun hc => ?_, fun hc => ?_⟩
  · by_cases hwu : w = u
    · subst hwu
      rw [ws_eq (a3 w hw)]
      show some _ = some (_, Sum.inr (1, uF G (up2 c 11 w v) w))
      simp [uF, up2]
    · rw [ws_ne (by omega), a3 w hw]
      simp only [uF, up2_i hwu]
  · obtain ⟨k, hk, hq⟩ := a4 j hj
    exact ⟨k, hk, by rw [ws_ne (by omega)]; exact hq⟩
  · obtain ⟨k, hk, hq⟩ := a7 hc
    exact ⟨k, hk, by rw [ws_ne (by omega)]; exact hq⟩
  · obtain ⟨k, hk, hq, hz⟩ := a8 hc
    exact ⟨k, hk, by rw [ws_ne (by omega)]; exact hq, hz⟩
theorem P_u12 {G : Nat → Nat} {c : Nat → Nat → Nat} {wl : va_W} {u : Nat} (v : Nat) (hu : u < 20) (h : Rc G c wl) : Rc G (up2 c 12 u v) (wl.set (20 + u) (G (20 + u), .inr (1, (uF G c u).set 12 (.int (nI v))))) := by
  obtain ⟨a0, a1, a2, a3, a4, a5, a6, a7, a8⟩ := h
  refine ⟨by rw [ws_ne (by omega)]; exact a0, by rw [ws_ne (by omega)]; exact a1, by rw [ws_ne (by omega)]; exact a2, fun w hw => ?_, fun j hj => ?_, a5, a6, fun hc => ?_, fun hc => ?_⟩
  · by_cases hwu : w = u
    · subst hwu
      rw [ws_eq (a3 w hw)]
      show some _ = some (_, Sum.inr (1, uF G (up2 c 12 w v) w))
      simp [uF, up2]
    · rw [ws_ne (by omega), a3 w hw]
      simp only [uF, up2_i hwu]
  · obtain ⟨k, hk, hq⟩ := a4 j hj
    exact ⟨k, hk, by rw [ws_ne (by omega)]; exact hq⟩
  · obtain ⟨k, hk, hq⟩ := a7 hc
    exact ⟨k, hk, by rw [ws_ne (by omega)]; exact hq⟩
  · obtain ⟨k, hk, hq, hz⟩ := a8 hc
    exact ⟨k, hk, by rw [ws_ne (by omega)]; exact hq, hz⟩
theorem P_w {G : Nat → Nat} {c : Nat → Nat → Nat} {wl : va_W} {A : Nat → Prop} {i j : Nat} (v : Nat) (hD : va_D A wl) (hj : j < c 30 0) (hi : 40 ≤ i) (hq : wl[i]? = some (c 34 j, .inr (2, wF G c j))) (h : Rc G c wl) : Rc G (up2 c 33 j v) (wl.set i (c 34 j, .inr (2, (wF G c j).set 2 (.int (nI v))))) := by
  obtain ⟨a0, a1, a2, a3, a4, a5, a6, a7, a8⟩ := h
  refine ⟨by rw [ws_ne (by omega)]; exact a0, by rw [ws_ne (by omega)]; exact a1, by rw [ws_ne (by omega)]; exact a2, fun w hw => by rw [ws_ne (by omega)]; exact a3 w hw, fun k hk => ?_, a5, a6, fun hc => ?_, fun hc => ?_⟩
  · by_cases hkj : k = j
    · subst hkj
      refine ⟨i, hi, ?_⟩
      rw [ws_eq hq]
      simp [wF, up2]
    · obtain ⟨m, hm, e⟩ := a4 k hk
      refine ⟨m, hm, ?_⟩
      have hne : i ≠ m := fun z => by
        subst z
        have e2 := hq.symm.trans e
        have e3 : c 34 j = c 34 k := congrArg Prod.fst (Option.some.inj e2)
        exact hkj (a5 k j hk hj e3.symm)
      rw [ws_ne hne, e]
      simp only [wF, up2_i hkj] <;> rfl
  · obtain ⟨m, hm, e⟩ := a7 hc
    refine ⟨m, hm, ?_⟩
    have hne : i ≠ m := fun z => by
      subst z
      have e2 := hq.symm.trans e
      have e3 := congrArg Prod.snd (Option.some.inj e2)
      cases e3
    rw [ws_ne hne]
    exact e
  · obtain ⟨m, hm, e, hz⟩ := a8 hc
    have hne : i ≠ m := fun z => by
      subst z
      have e2 := hq.symm.trans e
      exact hz j hj (congrArg Prod.fst (Option.some.inj e2))
    exact ⟨m, hm, by rw [ws_ne hne]; exact e, hz⟩
theorem P_m0 {G : Nat → Nat} {r : Nat → Nat → Nat} {wl : va_W} (v : Nat) (h : Rr G r wl) : Rr G (up2 r 30 0 v) (wl.set 3 (G 3, .inr (4, (mF G r).set 0 (.int (nI v))))) := by
  obtain ⟨b3, b5, b6, b7, b8, b9, b10, b11, b12, b13, b14, b15, b16, b17, b18, b19⟩ := h
  exact ⟨by rw [ws_eq b3]; rfl, by rw [ws_ne (by decide)]; exact b5, by rw [ws_ne (by decide)]; exact b6, by rw [ws_ne (by decide)]; exact b7, by rw [ws_ne (by decide)]; exact b8, by rw [ws_ne (by decide)]; exact b9, by rw [ws_ne (by decide)]; exact b10, by rw [ws_ne (by decide)]; exact b11, by rw [ws_ne (by decide)]; exact b12, by rw [ws_ne (by decide)]; exact b13, by rw [ws_ne (by decide)]; exact b14, by rw [ws_ne (by decide)]; exact b15, by rw [ws_ne (by decide)]; exact b16, by rw [ws_ne (by decide)]; exact b17, by rw [ws_ne (by decide)]; exact b18, by rw [ws_ne (by decide)]; exact b19⟩
theorem P_m10 {G : Nat → Nat} {r : Nat → Nat → Nat} {wl : va_W} (v : Nat) (h : Rr G r wl) : Rr G (up2 r 30 10 v) (wl.set 3 (G 3, .inr (4, (mF G r).set 10 (.int (nI v))))) := by
  obtain ⟨b3, b5, b6, b7, b8, b9, b10, b11, b12, b13, b14, b15, b16, b17, b18, b19⟩ := h
  exact ⟨by rw [ws_eq b3]; rfl, by rw [ws_ne (by decide)]; exact b5, by rw [ws_ne (by decide)]; exact b6, by rw [ws_ne (by decide)]; exact b7, by rw [ws_ne (by decide)]; exact b8, by rw [ws_ne (by decide)]; exact b9, by rw [ws_ne (by decide)]; exact b10, by rw [ws_ne (by decide)]; exact b11, by rw [ws_ne (by decide)]; exact b12, by rw [ws_ne (by decide)]; exact b13, by rw [ws_ne (by decide)]; exact b14, by rw [ws_ne (by decide)]; exact b15, by rw [ws_ne (by decide)]; exact b16, by rw [ws_ne (by decide)]; exact b17, by rw [ws_ne (by decide)]; exact b18, by rw [ws_ne (by decide)]; exact b19⟩
theorem P_m12 {G : Nat → Nat} {r : Nat → Nat → Nat} {wl : va_W} (v : Nat) (h : Rr G r wl) : Rr G (up2 r 30 12 v) (wl.set 3 (G 3, .inr (4, (mF G r).set 12 (.int (nI v))))) := by
  obtain ⟨b3, b5, b6, b7, b8, b9, b10, b11, b12, b13, b14, b15, b16, b17, b18, b19⟩ := h
  exact ⟨by rw [ws_eq b3]; rfl, by rw [ws_ne (by decide)]; exact b5, by rw [ws_ne (by decide)]; exact b6, by rw [ws_ne (by decide)]; exact b7, by rw [ws_ne (by decide)]; exact b8, by rw [ws_ne (by decide)]; exact b9, by rw [ws_ne (by decide)]; exact b10, by rw [ws_ne (by decide)]; exact b11, by rw [ws_ne (by decide)]; exact b12, by rw [ws_ne (by decide)]; exact b13, by rw [ws_ne (by decide)]; exact b14, by rw [ws_ne (by decide)]; exact b15, by rw [ws_ne (by decide)]; exact b16, by rw [ws_ne (by decide)]; exact b17, by rw [ws_ne (by decide)]; exact b18, by rw [ws_ne (by decide)]; exact b19⟩
theorem P_m13 {G : Nat → Nat} {r : Nat → Nat → Nat} {wl : va_W} (v : Nat) (h : Rr G r wl) : Rr G (up2 r 30 13 v) (wl.set 3 (G 3, .inr (4, (mF G r).set 13 (.int (nI v))))) := by
  obtain ⟨b3, b5, b6, b7, b8, b9, b10, b11, b12, b13, b14, b15, b16, b17, b18, b19⟩ := h
  exact ⟨by rw [ws_eq b3]; rfl, by rw [ws_ne (by decide)]; exact b5, by rw [ws_ne (by decide)]; exact b6, by rw [ws_ne (by decide)]; exact b7, by rw [ws_ne (by decide)]; exact b8, by rw [ws_ne (by decide)]; exact b9, by rw [ws_ne (by decide)]; exact b10, by rw [ws_ne (by decide)]; exact b11, by rw [ws_ne (by decide)]; exact b12, by rw [ws_ne (by decide)]; exact b13, by rw [ws_ne (by decide)]; exact b14, by rw [ws_ne (by decide)]; exact b15, by rw [ws_ne (by decide)]; exact b16, by rw [ws_ne (by decide)]; exact b17, by rw [ws_ne (by decide)]; exact b18, by rw [ws_ne (by decide)]; exact b19⟩
theorem P_m14 {G : Nat → Nat} {r : Nat → Nat → Nat} {wl : va_W} (v : Nat) (h : Rr G r wl) : Rr G (up2 r 30 14 v) (wl.set 3 (G 3, .inr (4, (mF G r).set 14 (.int (nI v))))) := by
  obtain ⟨b3, b5, b6, b7, b8, b9, b10, b11, b12, b13, b14, b15, b16, b17, b18, b19⟩ := h
  exact ⟨by rw [ws_eq b3]; rfl, by rw [ws_ne (by decide)]; exact b5, by rw [ws_ne (by decide)]; exact b6, by rw [ws_ne (by decide)]; exact b7, by rw [ws_ne (by decide)]; exact b8, by rw [ws_ne (by decide)]; exact b9, by rw [ws_ne (by decide)]; exact b10, by rw [ws_ne (by decide)]; exact b11, by rw [ws_ne (by decide)]; exact b12, by rw [ws_ne (by decide)]; exact b13, by rw [ws_ne (by decide)]; exact b14, by rw [ws_ne (by decide)]; exact b15, by rw [ws_ne (by decide)]; exact b16, by rw [ws_ne (by decide)]; exact b17, by rw [ws_ne (by decide)]; exact b18, by rw [ws_ne (by decide)]; exact b19⟩
theorem P_m15 {G : Nat → Nat} {r : Nat → Nat → Nat} {wl : va_W} (v : Nat) (h : Rr G r wl) : Rr G (up2 r 30 15 v) (wl.set 3 (G 3, .inr (4, (mF G r).set 15 (.int (nI v))))) := by
  obtain ⟨b3, b5, b6, b7, b8, b9, b10, b11, b12, b13, b14, b15, b16, b17, b18, b19⟩ := h
  exact ⟨by rw [ws_eq b3]; rfl, by rw [ws_ne (by decide)]; exact b5, by rw [ws_ne (by decide)]; exact b6, by rw [ws_ne (by decide)]; exact b7, by rw [ws_ne (by decide)]; exact b8, by rw [ws_ne (by decide)]; exact b9, by rw [ws_ne (by decide)]; exact b10, by rw [ws_ne (by decide)]; exact b11, by rw [ws_ne (by decide)]; exact b12, by rw [ws_ne (by decide)]; exact b13, by rw [ws_ne (by decide)]; exact b14, by rw [ws_ne (by decide)]; exact b15, by rw [ws_ne (by decide)]; exact b16, by rw [ws_ne (by decide)]; exact b17, by rw [ws_ne (by decide)]; exact b18, by rw [ws_ne (by decide)]; exact b19⟩
theorem P_m16 {G : Nat → Nat} {r : Nat → Nat → Nat} {wl : va_W} (v : Nat) (h : Rr G r wl) : Rr G (up2 r 30 16 v) (wl.set 3 (G 3, .inr (4, (mF G r).set 16 (.int (nI v))))) := by
  obtain ⟨b3, b5, b6, b7, b8, b9, b10, b11, b12, b13, b14, b15, b16, b17, b18, b19⟩ := h
  exact ⟨by rw [ws_eq b3]; rfl, by rw [ws_ne (by decide)]; exact b5, by rw [ws_ne (by decide)]; exact b6, by rw [ws_ne (by decide)]; exact b7, by rw [ws_ne (by decide)]; exact b8, by rw [ws_ne (by decide)]; exact b9, by rw [ws_ne (by decide)]; exact b10, by rw [ws_ne (by decide)]; exact b11, by rw [ws_ne (by decide)]; exact b12, by rw [ws_ne (by decide)]; exact b13, by rw [ws_ne (by decide)]; exact b14, by rw [ws_ne (by decide)]; exact b15, by rw [ws_ne (by decide)]; exact b16, by rw [ws_ne (by decide)]; exact b17, by rw [ws_ne (by decide)]; exact b18, by rw [ws_ne (by decide)]; exact b19⟩
theorem P_m22 {G : Nat → Nat} {r : Nat → Nat → Nat} {wl : va_W} (v : Nat) (h : Rr G r wl) : Rr G (up2 r 30 22 v) (wl.set 3 (G 3, .inr (4, (mF G r).set 22 (.int (nI v))))) := by
  obtain ⟨b3, b5, b6, b7, b8, b9, b10, b11, b12, b13, b14, b15, b16, b17, b18, b19⟩ := h
  exact ⟨by rw [ws_eq b3]; rfl, by rw [ws_ne (by decide)]; exact b5, by rw [ws_ne (by decide)]; exact b6, by rw [ws_ne (by decide)]; exact b7, by rw [ws_ne (by decide)]; exact b8, by rw [ws_ne (by decide)]; exact b9, by rw [ws_ne (by decide)]; exact b10, by rw [ws_ne (by decide)]; exact b11, by rw [ws_ne (by decide)]; exact b12, by rw [ws_ne (by decide)]; exact b13, by rw [ws_ne (by decide)]; exact b14, by rw [ws_ne (by decide)]; exact b15, by rw [ws_ne (by decide)]; exact b16, by rw [ws_ne (by decide)]; exact b17, by rw [ws_ne (by decide)]; exact b18, by rw [ws_ne (by decide)]; exact b19⟩
theorem upd_e {r : Nat → Nat → Nat} {k i v : Nat} (hi : i < 2 ^ 31) : upd (fun j => nI (r k j)) (nI i).toNatClampNeg (nI v) = fun j => nI (up2 r k i v k j) := by
  funext j
  rw [nI_clamp hi]
  by_cases h : j = i
  · subst h; simp [upd, up2]
  · simp [upd, up2, h]
theorem upd_s {r : Nat → Nat → Nat} {i v : Nat} (hi : i < 2 ^ 31) : upd (fun j => siI (r 5 j)) (nI i).toNatClampNeg (siI v) = fun j => siI (up2 r 5 i v 5 j) := by
  funext j
  rw [nI_clamp hi]
  by_cases h : j = i
  · subst h; simp [upd, up2]
  · simp [upd, up2, h]
theorem nb_le {v : Nat} (h : v ≤ 1) : narrow .boolean (.int (nI v)) = .int (nI v) := by
  rcases (show v = 0 ∨ v = 1 by omega) with h | h <;> subst h <;> decide
theorem nb_ft {v : Nat} (h : v ≤ 1) : fits .boolean (.int (nI v)) = true := by
  rcases (show v = 0 ∨ v = 1 by omega) with h | h <;> subst h <;> decide
theorem nb_nar {v : Nat} (h : v ≤ 1) : vp_nar .boolean (nI v) = nI v := by
  rcases (show v = 0 ∨ v = 1 by omega) with h | h <;> subst h <;> decide

theorem P_a1 {G : Nat → Nat} {r : Nat → Nat → Nat} {wl : va_W} {i : Nat} (v : Nat) (hi : i < 2 ^ 31) (h : Rr G r wl) : Rr G (up2 r 1 i v) (wl.set 5 (G 5, .inl (G 62, 20, .inl (upd (fun j => nI (r 1 j)) (nI i).toNatClampNeg (nI v))))) := by
  obtain ⟨b3, b5, b6, b7, b8, b9, b10, b11, b12, b13, b14, b15, b16, b17, b18, b19⟩ := h
  exact ⟨by rw [ws_ne (by decide)]; exact b3, by rw [ws_eq b5]; rw [upd_e hi], by rw [ws_ne (by decide)]; exact b6, by rw [ws_ne (by decide)]; exact b7, by rw [ws_ne (by decide)]; exact b8, by rw [ws_ne (by decide)]; exact b9, by rw [ws_ne (by decide)]; exact b10, by rw [ws_ne (by decide)]; exact b11, by rw [ws_ne (by decide)]; exact b12, by rw [ws_ne (by decide)]; exact b13, by rw [ws_ne (by decide)]; exact b14, by rw [ws_ne (by decide)]; exact b15, by rw [ws_ne (by decide)]; exact b16, by rw [ws_ne (by decide)]; exact b17, by rw [ws_ne (by decide)]; exact b18, by rw [ws_ne (by decide)]; exact b19⟩
theorem Q_a1 {G : Nat → Nat} {r : Nat → Nat → Nat} {wl : va_W} (h : Rr G r wl) : wl[5]? = some (G 5, .inl (G 62, 20, .inl (fun i => nI (r 1 i)))) := by
  obtain ⟨b3, b5, b6, b7, b8, b9, b10, b11, b12, b13, b14, b15, b16, b17, b18, b19⟩ := h
  exact b5
theorem P_a2 {G : Nat → Nat} {r : Nat → Nat → Nat} {wl : va_W} {i : Nat} (v : Nat) (hi : i < 2 ^ 31) (h : Rr G r wl) : Rr G (up2 r 2 i v) (wl.set 6 (G 6, .inl (G 62, 20, .inl (upd (fun j => nI (r 2 j)) (nI i).toNatClampNeg (nI v))))) := by
  obtain ⟨b3, b5, b6, b7, b8, b9, b10, b11, b12, b13, b14, b15, b16, b17, b18, b19⟩ := h
  exact ⟨by rw [ws_ne (by decide)]; exact b3, by rw [ws_ne (by decide)]; exact b5, by rw [ws_eq b6]; rw [upd_e hi], by rw [ws_ne (by decide)]; exact b7, by rw [ws_ne (by decide)]; exact b8, by rw [ws_ne (by decide)]; exact b9, by rw [ws_ne (by decide)]; exact b10, by rw [ws_ne (by decide)]; exact b11, by rw [ws_ne (by decide)]; exact b12, by rw [ws_ne (by decide)]; exact b13, by rw [ws_ne (by decide)]; exact b14, by rw [ws_ne (by decide)]; exact b15, by rw [ws_ne (by decide)]; exact b16, by rw [ws_ne (by decide)]; exact b17, by rw [ws_ne (by decide)]; exact b18, by rw [ws_ne (by decide)]; exact b19⟩
theorem Q_a2 {G : Nat → Nat} {r : Nat → Nat → Nat} {wl : va_W} (h : Rr G r wl) : wl[6]? = some (G 6, .inl (G 62, 20, .inl (fun i => nI (r 2 i)))) := by
  obtain ⟨b3, b5, b6, b7, b8, b9, b10, b11, b12, b13, b14, b15, b16, b17, b18, b19⟩ := h
  exact b6
theorem P_a3 {G : Nat → Nat} {r : Nat → Nat → Nat} {wl : va_W} {i : Nat} (v : Nat) (hi : i < 2 ^ 31) (h : Rr G r wl) : Rr G (up2 r 3 i v) (wl.set 7 (G 7, .inl (G 62, 20, .inl (upd (fun j => nI (r 3 j)) (nI i).toNatClampNeg (nI v))))) := by
  obtain ⟨b3, b5, b6, b7, b8, b9, b10, b11, b12, b13, b14, b15, b16, b17, b18, b19⟩ := h
  exact ⟨by rw [ws_ne (by decide)]; exact b3, by rw [ws_ne (by decide)]; exact b5, by rw [ws_ne (by decide)]; exact b6, by rw [ws_eq b7]; rw [upd_e hi], by rw [ws_ne (by decide)]; exact b8, by rw [ws_ne (by decide)]; exact b9, by rw [ws_ne (by decide)]; exact b10, by rw [ws_ne (by decide)]; exact b11, by rw [ws_ne (by decide)]; exact b12, by rw [ws_ne (by decide)]; exact b13, by rw [ws_ne (by decide)]; exact b14, by rw [ws_ne (by decide)]; exact b15, by rw [ws_ne (by decide)]; exact b16, by rw [ws_ne (by decide)]; exact b17, by rw [ws_ne (by decide)]; exact b18, by rw [ws_ne (by decide)]; exact b19⟩
theorem Q_a3 {G : Nat → Nat} {r : Nat → Nat → Nat} {wl : va_W} (h : Rr G r wl) : wl[7]? = some (G 7, .inl (G 62, 20, .inl (fun i => nI (r 3 i)))) := by
  obtain ⟨b3, b5, b6, b7, b8, b9, b10, b11, b12, b13, b14, b15, b16, b17, b18, b19⟩ := h
  exact b7
theorem P_a4 {G : Nat → Nat} {r : Nat → Nat → Nat} {wl : va_W} {i : Nat} (v : Nat) (hi : i < 2 ^ 31) (h : Rr G r wl) : Rr G (up2 r 4 i v) (wl.set 8 (G 8, .inl (G 62, 20, .inl (upd (fun j => nI (r 4 j)) (nI i).toNatClampNeg (nI v))))) := by
  obtain ⟨b3, b5, b6, b7, b8, b9, b10, b11, b12, b13, b14, b15, b16, b17, b18, b19⟩ := h
  exact ⟨by rw [ws_ne (by decide)]; exact b3, by rw [ws_ne (by decide)]; exact b5, by rw [ws_ne (by decide)]; exact b6, by rw [ws_ne (by decide)]; exact b7, by rw [ws_eq b8]; rw [upd_e hi], by rw [ws_ne (by decide)]; exact b9, by rw [ws_ne (by decide)]; exact b10, by rw [ws_ne (by decide)]; exact b11, by rw [ws_ne (by decide)]; exact b12, by rw [ws_ne (by decide)]; exact b13, by rw [ws_ne (by decide)]; exact b14, by rw [ws_ne (by decide)]; exact b15, by rw [ws_ne (by decide)]; exact b16, by rw [ws_ne (by decide)]; exact b17, by rw [ws_ne (by decide)]; exact b18, by rw [ws_ne (by decide)]; exact b19⟩
theorem Q_a4 {G : Nat → Nat} {r : Nat → Nat → Nat} {wl : va_W} (h : Rr G r wl) : wl[8]? = some (G 8, .inl (G 62, 20, .inl (fun i => nI (r 4 i)))) := by
  obtain ⟨b3, b5, b6, b7, b8, b9, b10, b11, b12, b13, b14, b15, b16, b17, b18, b19⟩ := h
  exact b8
theorem P_a5 {G : Nat → Nat} {r : Nat → Nat → Nat} {wl : va_W} {i : Nat} (v : Nat) (hi : i < 2 ^ 31) (h : Rr G r wl) : Rr G (up2 r 5 i v) (wl.set 9 (G 9, .inl (G 62, 20, .inl (upd (fun j => siI (r 5 j)) (nI i).toNatClampNeg (siI v))))) := by
  obtain ⟨b3, b5, b6, b7, b8, b9, b10, b11, b12, b13, b14, b15, b16, b17, b18, b19⟩ := h
  exact ⟨by rw [ws_ne (by decide)]; exact b3, by rw [ws_ne (by decide)]; exact b5, by rw [ws_ne (by decide)]; exact b6, by rw [ws_ne (by decide)]; exact b7, by rw [ws_ne (by decide)]; exact b8, by rw [ws_eq b9]; rw [upd_s hi], by rw [ws_ne (by decide)]; exact b10, by rw [ws_ne (by decide)]; exact b11, by rw [ws_ne (by decide)]; exact b12, by rw [ws_ne (by decide)]; exact b13, by rw [ws_ne (by decide)]; exact b14, by rw [ws_ne (by decide)]; exact b15, by rw [ws_ne (by decide)]; exact b16, by rw [ws_ne (by decide)]; exact b17, by rw [ws_ne (by decide)]; exact b18, by rw [ws_ne (by decide)]; exact b19⟩
theorem Q_a5 {G : Nat → Nat} {r : Nat → Nat → Nat} {wl : va_W} (h : Rr G r wl) : wl[9]? = some (G 9, .inl (G 62, 20, .inl (fun i => siI (r 5 i)))) := by
  obtain ⟨b3, b5, b6, b7, b8, b9, b10, b11, b12, b13, b14, b15, b16, b17, b18, b19⟩ := h
  exact b9
theorem P_a6 {G : Nat → Nat} {r : Nat → Nat → Nat} {wl : va_W} {i : Nat} (v : Nat) (hi : i < 2 ^ 31) (hv : v ≤ 1) (h : Rr G r wl) : Rr G (up2 r 6 i v) (wl.set 10 (G 10, .inl (G 63, 20, .inl (upd (fun j => nI (r 6 j)) (nI i).toNatClampNeg (vp_nar .boolean (nI v)))))) := by
  obtain ⟨b3, b5, b6, b7, b8, b9, b10, b11, b12, b13, b14, b15, b16, b17, b18, b19⟩ := h
  exact ⟨by rw [ws_ne (by decide)]; exact b3, by rw [ws_ne (by decide)]; exact b5, by rw [ws_ne (by decide)]; exact b6, by rw [ws_ne (by decide)]; exact b7, by rw [ws_ne (by decide)]; exact b8, by rw [ws_ne (by decide)]; exact b9, by rw [ws_eq b10]; rw [nb_nar hv, upd_e hi], by rw [ws_ne (by decide)]; exact b11, by rw [ws_ne (by decide)]; exact b12, by rw [ws_ne (by decide)]; exact b13, by rw [ws_ne (by decide)]; exact b14, by rw [ws_ne (by decide)]; exact b15, by rw [ws_ne (by decide)]; exact b16, by rw [ws_ne (by decide)]; exact b17, by rw [ws_ne (by decide)]; exact b18, by rw [ws_ne (by decide)]; exact b19⟩
theorem Q_a6 {G : Nat → Nat} {r : Nat → Nat → Nat} {wl : va_W} (h : Rr G r wl) : wl[10]? = some (G 10, .inl (G 63, 20, .inl (fun i => nI (r 6 i)))) := by
  obtain ⟨b3, b5, b6, b7, b8, b9, b10, b11, b12, b13, b14, b15, b16, b17, b18, b19⟩ := h
  exact b10
theorem P_a7 {G : Nat → Nat} {r : Nat → Nat → Nat} {wl : va_W} {i : Nat} (v : Nat) (hi : i < 2 ^ 31) (hv : v ≤ 1) (h : Rr G r wl) : Rr G (up2 r 7 i v) (wl.set 11 (G 11, .inl (G 63, 400, .inl (upd (fun j => nI (r 7 j)) (nI i).toNatClampNeg (vp_nar .boolean (nI v)))))) := by
  obtain ⟨b3, b5, b6, b7, b8, b9, b10, b11, b12, b13, b14, b15, b16, b17, b18, b19⟩ := h
  exact ⟨by rw [ws_ne (by decide)]; exact b3, by rw [ws_ne (by decide)]; exact b5, by rw [ws_ne (by decide)]; exact b6, by rw [ws_ne (by decide)]; exact b7, by rw [ws_ne (by decide)]; exact b8, by rw [ws_ne (by decide)]; exact b9, by rw [ws_ne (by decide)]; exact b10, by rw [ws_eq b11]; rw [nb_nar hv, upd_e hi], by rw [ws_ne (by decide)]; exact b12, by rw [ws_ne (by decide)]; exact b13, by rw [ws_ne (by decide)]; exact b14, by rw [ws_ne (by decide)]; exact b15, by rw [ws_ne (by decide)]; exact b16, by rw [ws_ne (by decide)]; exact b17, by rw [ws_ne (by decide)]; exact b18, by rw [ws_ne (by decide)]; exact b19⟩
theorem Q_a7 {G : Nat → Nat} {r : Nat → Nat → Nat} {wl : va_W} (h : Rr G r wl) : wl[11]? = some (G 11, .inl (G 63, 400, .inl (fun i => nI (r 7 i)))) := by
  obtain ⟨b3, b5, b6, b7, b8, b9, b10, b11, b12, b13, b14, b15, b16, b17, b18, b19⟩ := h
  exact b11
theorem P_a8 {G : Nat → Nat} {r : Nat → Nat → Nat} {wl : va_W} {i : Nat} (v : Nat) (hi : i < 2 ^ 31) (h : Rr G r wl) : Rr G (up2 r 8 i v) (wl.set 12 (G 12, .inl (G 62, 400, .inl (upd (fun j => nI (r 8 j)) (nI i).toNatClampNeg (nI v))))) := by
  obtain ⟨b3, b5, b6, b7, b8, b9, b10, b11, b12, b13, b14, b15, b16, b17, b18, b19⟩ := h
  exact ⟨by rw [ws_ne (by decide)]; exact b3, by rw [ws_ne (by decide)]; exact b5, by rw [ws_ne (by decide)]; exact b6, by rw [ws_ne (by decide)]; exact b7, by rw [ws_ne (by decide)]; exact b8, by rw [ws_ne (by decide)]; exact b9, by rw [ws_ne (by decide)]; exact b10, by rw [ws_ne (by decide)]; exact b11, by rw [ws_eq b12]; rw [upd_e hi], by rw [ws_ne (by decide)]; exact b13, by rw [ws_ne (by decide)]; exact b14, by rw [ws_ne (by decide)]; exact b15, by rw [ws_ne (by decide)]; exact b16, by rw [ws_ne (by decide)]; exact b17, by rw [ws_ne (by decide)]; exact b18, by rw [ws_ne (by decide)]; exact b19⟩
theorem Q_a8 {G : Nat → Nat} {r : Nat → Nat → Nat} {wl : va_W} (h : Rr G r wl) : wl[12]? = some (G 12, .inl (G 62, 400, .inl (fun i => nI (r 8 i)))) := by
  obtain ⟨b3, b5, b6, b7, b8, b9, b10, b11, b12, b13, b14, b15, b16, b17, b18, b19⟩ := h
  exact b12
theorem P_a9 {G : Nat → Nat} {r : Nat → Nat → Nat} {wl : va_W} {i : Nat} (v : Nat) (hi : i < 2 ^ 31) (h : Rr G r wl) : Rr G (up2 r 9 i v) (wl.set 13 (G 13, .inl (G 62, 400, .inl (upd (fun j => nI (r 9 j)) (nI i).toNatClampNeg (nI v))))) := by
  obtain ⟨b3, b5, b6, b7, b8, b9, b10, b11, b12, b13, b14, b15, b16, b17, b18, b19⟩ := h
  exact ⟨by rw [ws_ne (by decide)]; exact b3, by rw [ws_ne (by decide)]; exact b5, by rw [ws_ne (by decide)]; exact b6, by rw [ws_ne (by decide)]; exact b7, by rw [ws_ne (by decide)]; exact b8, by rw [ws_ne (by decide)]; exact b9, by rw [ws_ne (by decide)]; exact b10, by rw [ws_ne (by decide)]; exact b11, by rw [ws_ne (by decide)]; exact b12, by rw [ws_eq b13]; rw [upd_e hi], by rw [ws_ne (by decide)]; exact b14, by rw [ws_ne (by decide)]; exact b15, by rw [ws_ne (by decide)]; exact b16, by rw [ws_ne (by decide)]; exact b17, by rw [ws_ne (by decide)]; exact b18, by rw [ws_ne (by decide)]; exact b19⟩
theorem Q_a9 {G : Nat → Nat} {r : Nat → Nat → Nat} {wl : va_W} (h : Rr G r wl) : wl[13]? = some (G 13, .inl (G 62, 400, .inl (fun i => nI (r 9 i)))) := by
  obtain ⟨b3, b5, b6, b7, b8, b9, b10, b11, b12, b13, b14, b15, b16, b17, b18, b19⟩ := h
  exact b13
theorem P_a11 {G : Nat → Nat} {r : Nat → Nat → Nat} {wl : va_W} {i : Nat} (v : Nat) (hi : i < 2 ^ 31) (hv : v ≤ 1) (h : Rr G r wl) : Rr G (up2 r 11 i v) (wl.set 14 (G 14, .inl (G 63, 400, .inl (upd (fun j => nI (r 11 j)) (nI i).toNatClampNeg (vp_nar .boolean (nI v)))))) := by
  obtain ⟨b3, b5, b6, b7, b8, b9, b10, b11, b12, b13, b14, b15, b16, b17, b18, b19⟩ := h
  exact ⟨by rw [ws_ne (by decide)]; exact b3, by rw [ws_ne (by decide)]; exact b5, by rw [ws_ne (by decide)]; exact b6, by rw [ws_ne (by decide)]; exact b7, by rw [ws_ne (by decide)]; exact b8, by rw [ws_ne (by decide)]; exact b9, by rw [ws_ne (by decide)]; exact b10, by rw [ws_ne (by decide)]; exact b11, by rw [ws_ne (by decide)]; exact b12, by rw [ws_ne (by decide)]; exact b13, by rw [ws_eq b14]; rw [nb_nar hv, upd_e hi], by rw [ws_ne (by decide)]; exact b15, by rw [ws_ne (by decide)]; exact b16, by rw [ws_ne (by decide)]; exact b17, by rw [ws_ne (by decide)]; exact b18, by rw [ws_ne (by decide)]; exact b19⟩
theorem Q_a11 {G : Nat → Nat} {r : Nat → Nat → Nat} {wl : va_W} (h : Rr G r wl) : wl[14]? = some (G 14, .inl (G 63, 400, .inl (fun i => nI (r 11 i)))) := by
  obtain ⟨b3, b5, b6, b7, b8, b9, b10, b11, b12, b13, b14, b15, b16, b17, b18, b19⟩ := h
  exact b14
theorem P_a17 {G : Nat → Nat} {r : Nat → Nat → Nat} {wl : va_W} {i : Nat} (v : Nat) (hi : i < 2 ^ 31) (h : Rr G r wl) : Rr G (up2 r 17 i v) (wl.set 15 (G 15, .inl (G 62, 20, .inl (upd (fun j => nI (r 17 j)) (nI i).toNatClampNeg (nI v))))) := by
  obtain ⟨b3, b5, b6, b7, b8, b9, b10, b11, b12, b13, b14, b15, b16, b17, b18, b19⟩ := h
  exact ⟨by rw [ws_ne (by decide)]; exact b3, by rw [ws_ne (by decide)]; exact b5, by rw [ws_ne (by decide)]; exact b6, by rw [ws_ne (by decide)]; exact b7, by rw [ws_ne (by decide)]; exact b8, by rw [ws_ne (by decide)]; exact b9, by rw [ws_ne (by decide)]; exact b10, by rw [ws_ne (by decide)]; exact b11, by rw [ws_ne (by decide)]; exact b12, by rw [ws_ne (by decide)]; exact b13, by rw [ws_ne (by decide)]; exact b14, by rw [ws_eq b15]; rw [upd_e hi], by rw [ws_ne (by decide)]; exact b16, by rw [ws_ne (by decide)]; exact b17, by rw [ws_ne (by decide)]; exact b18, by rw [ws_ne (by decide)]; exact b19⟩
theorem Q_a17 {G : Nat → Nat} {r : Nat → Nat → Nat} {wl : va_W} (h : Rr G r wl) : wl[15]? = some (G 15, .inl (G 62, 20, .inl (fun i => nI (r 17 i)))) := by
  obtain ⟨b3, b5, b6, b7, b8, b9, b10, b11, b12, b13, b14, b15, b16, b17, b18, b19⟩ := h
  exact b15
theorem P_a18 {G : Nat → Nat} {r : Nat → Nat → Nat} {wl : va_W} {i : Nat} (v : Nat) (hi : i < 2 ^ 31) (h : Rr G r wl) : Rr G (up2 r 18 i v) (wl.set 16 (G 16, .inl (G 62, 20, .inl (upd (fun j => nI (r 18 j)) (nI i).toNatClampNeg (nI v))))) := by
  obtain ⟨b3, b5, b6, b7, b8, b9, b10, b11, b12, b13, b14, b15, b16, b17, b18, b19⟩ := h
  exact ⟨by rw [ws_ne (by decide)]; exact b3, by rw [ws_ne (by decide)]; exact b5, by rw [ws_ne (by decide)]; exact b6, by rw [ws_ne (by decide)]; exact b7, by rw [ws_ne (by decide)]; exact b8, by rw [ws_ne (by decide)]; exact b9, by rw [ws_ne (by decide)]; exact b10, by rw [ws_ne (by decide)]; exact b11, by rw [ws_ne (by decide)]; exact b12, by rw [ws_ne (by decide)]; exact b13, by rw [ws_ne (by decide)]; exact b14, by rw [ws_ne (by decide)]; exact b15, by rw [ws_eq b16]; rw [upd_e hi], by rw [ws_ne (by decide)]; exact b17, by rw [ws_ne (by decide)]; exact b18, by rw [ws_ne (by decide)]; exact b19⟩
theorem Q_a18 {G : Nat → Nat} {r : Nat → Nat → Nat} {wl : va_W} (h : Rr G r wl) : wl[16]? = some (G 16, .inl (G 62, 20, .inl (fun i => nI (r 18 i)))) := by
  obtain ⟨b3, b5, b6, b7, b8, b9, b10, b11, b12, b13, b14, b15, b16, b17, b18, b19⟩ := h
  exact b16
theorem P_a19 {G : Nat → Nat} {r : Nat → Nat → Nat} {wl : va_W} {i : Nat} (v : Nat) (hi : i < 2 ^ 31) (h : Rr G r wl) : Rr G (up2 r 19 i v) (wl.set 17 (G 17, .inl (G 62, 20, .inl (upd (fun j => nI (r 19 j)) (nI i).toNatClampNeg (nI v))))) := by
  obtain ⟨b3, b5, b6, b7, b8, b9, b10, b11, b12, b13, b14, b15, b16, b17, b18, b19⟩ := h
  exact ⟨by rw [ws_ne (by decide)]; exact b3, by rw [ws_ne (by decide)]; exact b5, by rw [ws_ne (by decide)]; exact b6, by rw [ws_ne (by decide)]; exact b7, by rw [ws_ne (by decide)]; exact b8, by rw [ws_ne (by decide)]; exact b9, by rw [ws_ne (by decide)]; exact b10, by rw [ws_ne (by decide)]; exact b11, by rw [ws_ne (by decide)]; exact b12, by rw [ws_ne (by decide)]; exact b13, by rw [ws_ne (by decide)]; exact b14, by rw [ws_ne (by decide)]; exact b15, by rw [ws_ne (by decide)]; exact b16, by rw [ws_eq b17]; rw [upd_e hi], by rw [ws_ne (by decide)]; exact b18, by rw [ws_ne (by decide)]; exact b19⟩
theorem Q_a19 {G : Nat → Nat} {r : Nat → Nat → Nat} {wl : va_W} (h : Rr G r wl) : wl[17]? = some (G 17, .inl (G 62, 20, .inl (fun i => nI (r 19 i)))) := by
  obtain ⟨b3, b5, b6, b7, b8, b9, b10, b11, b12, b13, b14, b15, b16, b17, b18, b19⟩ := h
  exact b17
theorem P_a20 {G : Nat → Nat} {r : Nat → Nat → Nat} {wl : va_W} {i : Nat} (v : Nat) (hi : i < 2 ^ 31) (h : Rr G r wl) : Rr G (up2 r 20 i v) (wl.set 18 (G 18, .inl (G 62, 20, .inl (upd (fun j => nI (r 20 j)) (nI i).toNatClampNeg (nI v))))) := by
  obtain ⟨b3, b5, b6, b7, b8, b9, b10, b11, b12, b13, b14, b15, b16, b17, b18, b19⟩ := h
  exact ⟨by rw [ws_ne (by decide)]; exact b3, by rw [ws_ne (by decide)]; exact b5, by rw [ws_ne (by decide)]; exact b6, by rw [ws_ne (by decide)]; exact b7, by rw [ws_ne (by decide)]; exact b8, by rw [ws_ne (by decide)]; exact b9, by rw [ws_ne (by decide)]; exact b10, by rw [ws_ne (by decide)]; exact b11, by rw [ws_ne (by decide)]; exact b12, by rw [ws_ne (by decide)]; exact b13, by rw [ws_ne (by decide)]; exact b14, by rw [ws_ne (by decide)]; exact b15, by rw [ws_ne (by decide)]; exact b16, by rw [ws_ne (by decide)]; exact b17, by rw [ws_eq b18]; rw [upd_e hi], by rw [ws_ne (by decide)]; exact b19⟩
theorem Q_a20 {G : Nat → Nat} {r : Nat → Nat → Nat} {wl : va_W} (h : Rr G r wl) : wl[18]? = some (G 18, .inl (G 62, 20, .inl (fun i => nI (r 20 i)))) := by
  obtain ⟨b3, b5, b6, b7, b8, b9, b10, b11, b12, b13, b14, b15, b16, b17, b18, b19⟩ := h
  exact b18
theorem P_a21 {G : Nat → Nat} {r : Nat → Nat → Nat} {wl : va_W} {i : Nat} (v : Nat) (hi : i < 2 ^ 31) (hv : v ≤ 1) (h : Rr G r wl) : Rr G (up2 r 21 i v) (wl.set 19 (G 19, .inl (G 63, 20, .inl (upd (fun j => nI (r 21 j)) (nI i).toNatClampNeg (vp_nar .boolean (nI v)))))) := by
  obtain ⟨b3, b5, b6, b7, b8, b9, b10, b11, b12, b13, b14, b15, b16, b17, b18, b19⟩ := h
  exact ⟨by rw [ws_ne (by decide)]; exact b3, by rw [ws_ne (by decide)]; exact b5, by rw [ws_ne (by decide)]; exact b6, by rw [ws_ne (by decide)]; exact b7, by rw [ws_ne (by decide)]; exact b8, by rw [ws_ne (by decide)]; exact b9, by rw [ws_ne (by decide)]; exact b10, by rw [ws_ne (by decide)]; exact b11, by rw [ws_ne (by decide)]; exact b12, by rw [ws_ne (by decide)]; exact b13, by rw [ws_ne (by decide)]; exact b14, by rw [ws_ne (by decide)]; exact b15, by rw [ws_ne (by decide)]; exact b16, by rw [ws_ne (by decide)]; exact b17, by rw [ws_ne (by decide)]; exact b18, by rw [ws_eq b19]; rw [nb_nar hv, upd_e hi]⟩
theorem Q_a21 {G : Nat → Nat} {r : Nat → Nat → Nat} {wl : va_W} (h : Rr G r wl) : wl[19]? = some (G 19, .inl (G 63, 20, .inl (fun i => nI (r 21 i)))) := by
  obtain ⟨b3, b5, b6, b7, b8, b9, b10, b11, b12, b13, b14, b15, b16, b17, b18, b19⟩ := h
  exact b19
theorem Q_m {G : Nat → Nat} {r : Nat → Nat → Nat} {wl : va_W} (h : Rr G r wl) : wl[3]? = some (G 3, .inr (4, mF G r)) := h.1
theorem Q_o {G : Nat → Nat} {c : Nat → Nat → Nat} {wl : va_W} (h : Rc G c wl) : wl[0]? = some (G 0, .inr (3, oF G c)) := h.1
theorem Q_r {G : Nat → Nat} {c : Nat → Nat → Nat} {wl : va_W} (h : Rc G c wl) : wl[1]? = some (G 1, .inl (G 60, 20, .inr (.inr (.inr (.inr (fun i => some (G (20 + i)))))))) := h.2.1
theorem Q_l {G : Nat → Nat} {c : Nat → Nat → Nat} {wl : va_W} (h : Rc G c wl) : wl[2]? = some (G 2, .inr (0, lF c)) := h.2.2.1
theorem Q_u {G : Nat → Nat} {c : Nat → Nat → Nat} {wl : va_W} (h : Rc G c wl) {u : Nat} (hu : u < 20) : wl[20 + u]? = some (G (20 + u), .inr (1, uF G c u)) := h.2.2.2.1 u hu
theorem Q_w {G : Nat → Nat} {c : Nat → Nat → Nat} {wl : va_W} (h : Rc G c wl) {j : Nat} (hj : j < c 30 0) : ∃ i, 40 ≤ i ∧ wl[i]? = some (c 34 j, .inr (2, wF G c j)) := h.2.2.2.2.1 j hj
theorem G_u {G : Nat → Nat} {c : Nat → Nat → Nat} {wl : va_W} {A : Nat → Prop} (h : Rc G c wl) (hD : va_D A wl) {u v : Nat} (hu : u < 20) (hv : v < 20) (e : G (20 + u) = G (20 + v)) : u = v := by
  have := hD.1 _ _ _ _ (Q_u h hu) (Q_u h hv) e
  omega
abbrev tyL (G : Nat → Nat) : List (ClassId × FieldType) := [(G 60, .object "BootStage$Unit"), (G 61, .object "java/lang/Object"), (G 62, .int), (G 63, .boolean), (G 64, .long)]
abbrev exO : String := "java/lang/IndexOutOfBoundsException"
abbrev exA : String := "java/lang/IllegalArgumentException"
abbrev exS : String := "java/lang/IllegalStateException"
/-- what of the start lies outside the system's own cells: for throws, and for lists -/
def Ex (G : Nat → Nat) (h0 : Nat) (U : State) : Prop :=
  vx_Zq Bundle.tN "UNASSIGNED_STACK" Bundle.steD (fun q => h0 ≤ q) U U.heap ∧ vx_Zq Bundle.tN "SUPPRESSED_SENTINEL" Bundle.listD (fun q => h0 ≤ q) U U.heap ∧
  (vk_R RX2 48 "there are 20 units" (G 71) U ∧ vk_R RX2 73 "needs would make a loop" (G 72) U ∧ vk_R RX2 131 "no start goes on" (G 73) U ∧ vk_R RX2 152 "there is no such unit" (G 74) U ∧ vk_R RX2 157 "an argument is out of range" (G 75) U ∧ vk_R RX2 160 "both units are the same" (G 76) U ∧ vk_R RX2 162 "a start goes on" (G 77) U) ∧
  (va_Nw (.declares (Bundle.initS "java/lang/RuntimeException")) U ∧ va_Nw (.declares (Bundle.initS "java/lang/Exception")) U ∧ va_Nw (.declares (Bundle.initS Bundle.tN)) U ∧ va_Nw (.castable exO exO) U ∧ va_Nw (.castable exA exA) U ∧ va_Nw (.castable exS exS) U) ∧
  (va_Nc exO exA U ∧ va_Nc exO exS U ∧ va_Nc exA exO U ∧ va_Nc exA exS U ∧ va_Nc exS exO U ∧ va_Nc exS exA U)
def El (G : Nat → Nat) (h0 : Nat) (U : State) : Prop :=
  va_Z "java/util/ArrayList" "DEFAULTCAPACITY_EMPTY_ELEMENTDATA" "[Ljava/lang/Object;" (.ref (G 70)) (fun q => h0 ≤ q) U U.heap ∧ va_T (.object "java/lang/Object") (G 70) 0 (fun _ => .null) (fun q => h0 ≤ q) U U.heap ∧
  va_AO "java/lang/Object" U ∧ va_AO "BootStage$Unit" U ∧ va_Mi "[Ljava/lang/Object;" (G 80) U ∧ va_Dc U ∧ va_Nw (.castable RX1 "java/lang/Object") U ∧ va_Nw (.castable RX1 RX1) U ∧ va_Nw (.castable "[Ljava/lang/Object;" "[Ljava/lang/Object;") U
def Ev (D : va_G) (G : Nat → Nat) (h0 : Nat) (U : State) : Prop := h0 ≤ U.heap.size ∧ va_K D vwCl (tyL G) U ∧ Ex G h0 U ∧ El G h0 U
/-- the system's own cells -/
def Wr (D : va_G) (G : Nat → Nat) (h0 : Nat) (c r : Nat → Nat → Nat) (o : Nat) (U : State) : Prop := ∃ wl : va_W, Rc G c wl ∧ Rr G r wl ∧ Ro G o wl ∧ va_P D vwCl wl U.heap ∧ va_D (fun q => h0 ≤ q) wl
def Pr (D : va_G) (G : Nat → Nat) (h0 : Nat) (c r : Nat → Nat → Nat) (o : Nat) (U : State) : Prop := Ev D G h0 U ∧ Wr D G h0 c r o U
theorem Ex_mv {G : Nat → Nat} {h0 : Nat} {s U : State} {locs : List Loc} (h : Ex G h0 s) (hW : s.WarmedH U.vm) (hS : va_S (fun q => h0 ≤ q) s.heap U.heap locs) : Ex G h0 U := by
  obtain ⟨z1, z2, ⟨k1, k2, k3, k4, k5, k6, k7⟩, ⟨d1, d2, d3, d4, d5, d6⟩, ⟨n1, n2, n3, n4, n5, n6⟩⟩ := h
  exact ⟨vx_Zq.moved hW.alike (z1.kept hS.2.1), vx_Zq.moved hW.alike (z2.kept hS.2.1), ⟨k1.warm hW, k2.warm hW, k3.warm hW, k4.warm hW, k5.warm hW, k6.warm hW, k7.warm hW⟩, ⟨d1.warmD hW, d2.warmD hW, d3.warmD hW, d4.warmC hW, d5.warmC hW, d6.warmC hW⟩, ⟨n1.moved hW.alike, n2.moved hW.alike, n3.moved hW.alike, n4.moved hW.alike, n5.moved hW.alike, n6.moved hW.alike⟩⟩
theorem El_mv {G : Nat → Nat} {h0 : Nat} {s U : State} {locs : List Loc} (h : El G h0 s) (hW : s.WarmedH U.vm) (hS : va_S (fun q => h0 ≤ q) s.heap U.heap locs) : El G h0 U := by
  obtain ⟨z1, z2, a1, a2, m1, d1, c1, c2, c3⟩ := h
  exact ⟨va_Z.moved hW.alike (z1.kept hS.2.1), va_T.moved hW.alike (z2.kept hS.2.1), a1.moved hW.alike, a2.moved hW.alike, m1.moved hW.alike, d1.moved hW.alike, c1.warmC hW, c2.warmC hW, c3.warmC hW⟩
theorem Ev_mv {D : va_G} {G : Nat → Nat} {h0 : Nat} {s U : State} {locs : List Loc} (h : Ev D G h0 s) (hW : s.WarmedH U.vm) (hS : va_S (fun q => h0 ≤ q) s.heap U.heap locs) : Ev D G h0 U :=
  ⟨Nat.le_trans h.1 hS.1, h.2.1.moved hW.alike, Ex_mv h.2.2.1 hW hS, El_mv h.2.2.2 hW hS⟩
theorem Ev_cg {D : va_G} {G : Nat → Nat} {h0 : Nat} {a : Array Value} {U : State} {g : JFrame} {mk : MethodId} (h : Ev D G h0 U) : Ev D G h0 (U.calling g mk a) := Ev_mv (locs := []) h (State.WarmedH.refl U) va_S.rf
theorem Pr_cg {D : va_G} {G : Nat → Nat} {h0 : Nat} {c r : Nat → Nat → Nat} {o : Nat} {a : Array Value} {U : State} {g : JFrame} {mk : MethodId} (h : Pr D G h0 c r o U) : Pr D G h0 c r o (U.calling g mk a) := ⟨Ev_cg h.1, h.2⟩
/-- the world in another state with this heap -/
theorem Pr_mk {D : va_G} {G : Nat → Nat} {h0 : Nat} {c r : Nat → Nat → Nat} {o : Nat} {s U : State} {H : Heap} {locs : List Loc} {wl : va_W} (hE : Ev D G h0 s) (hRc : Rc G c wl) (hRr : Rr G r wl) (hRo : Ro G o wl) (hP : va_P D vwCl wl H) (hD : va_D (fun q => h0 ≤ q) wl) (hS : va_S (fun q => h0 ≤ q) s.heap H locs) (hU : U.heap = H) (hW : s.WarmedH U.vm) : Pr D G h0 c r o U := by
  subst hU
  exact ⟨Ev_mv hE hW hS, wl, hRc, hRr, hRo, hP, hD⟩
theorem Wr_mk {D : va_G} {G : Nat → Nat} {h0 : Nat} {c r : Nat → Nat → Nat} {o : Nat} {U : State} {H : Heap} {wl : va_W} (hRc : Rc G c wl) (hRr : Rr G r wl) (hRo : Ro G o wl) (hP : va_P D vwCl wl H) (hD : va_D (fun q => h0 ≤ q) wl) (hU : U.heap = H) : Wr D G h0 c r o U := by
  subst hU
  exact ⟨wl, hRc, hRr, hRo, hP, hD⟩
noncomputable def bN (P : Prop) : Nat := @ite Nat P (Classical.propDecidable P) 1 0
theorem bN_t {P : Prop} (h : P) : bN P = 1 := by unfold bN; exact if_pos h
theorem bN_f {P : Prop} (h : ¬ P) : bN P = 0 := by unfold bN; exact if_neg h
theorem bN_le (P : Prop) : bN P ≤ 1 := by
  rcases Classical.em P with h | h
  · rw [bN_t h]; exact Nat.le_refl 1
  · rw [bN_f h]; exact Nat.zero_le 1
theorem bN_c {P Q : Prop} (h : P ↔ Q) : bN P = bN Q := by
  rcases Classical.em P with k | k
  · rw [bN_t k, bN_t (h.mp k)]
  · rw [bN_f k, bN_f (fun z => k (h.mpr z))]
theorem bN_0 {P : Prop} : bN P = 0 ↔ ¬ P := by
  rcases Classical.em P with h | h
  · rw [bN_t h]; simp [h]
  · rw [bN_f h]; simp [h]
theorem bN_1 {P : Prop} : bN P = 1 ↔ P := by
  rcases Classical.em P with h | h
  · rw [bN_t h]; simp [h]
  · rw [bN_f h]; simp [h]
end
section
/-! ROWS OVER NUMBERS THAT ARE nI OF SOMETHING, and over the system's cells -/
theorem k_shc : ∀ n, n < 32 → ((nI n &&& 31).toBitVec.smod 32).toNat = n := by decide +kernel
theorem k_bit {u : Nat} (h : u < 31) : nI 1 <<< (nI u &&& 31) = nI (2 ^ u) := by
  have hp : 2 ^ u < 2 ^ 31 := Nat.pow_lt_pow_right (by decide) h
  have e := pk_shlN (n := 1) (nI u &&& 31) u (k_shc u (by omega)) (by rw [Nat.one_mul]; exact Nat.lt_trans hp (by decide))
  rw [Nat.one_mul] at e
  exact e
theorem k_shr {a u : Nat} (ha : a < 2 ^ 31) (h : u < 32) : nI a >>> (nI u &&& 31) = nI (a / 2 ^ u) := pk_shrN ha (nI u &&& 31) u (k_shc u h)
theorem k_or (a b : Nat) : nI a ||| nI b = nI (a ||| b) := by
  apply Int32.toBitVec_inj.mp
  show BitVec.ofNat 32 a ||| BitVec.ofNat 32 b = BitVec.ofNat 32 (a ||| b)
  apply BitVec.eq_of_toNat_eq
  simp only [BitVec.toNat_or, BitVec.toNat_ofNat]
  exact (Nat.or_mod_two_pow ..).symm
theorem k_and (a b : Nat) : nI a &&& nI b = nI (a &&& b) := by
  apply Int32.toBitVec_inj.mp
  show BitVec.ofNat 32 a &&& BitVec.ofNat 32 b = BitVec.ofNat 32 (a &&& b)
  apply BitVec.eq_of_toNat_eq
  simp only [BitVec.toNat_and, BitVec.toNat_ofNat]
  exact (Nat.and_mod_two_pow ..).symm
theorem k_xor (a b : Nat) : nI a ^^^ nI b = nI (a ^^^ b) := by
  apply Int32.toBitVec_inj.mp
  show BitVec.ofNat 32 a ^^^ BitVec.ofNat 32 b = BitVec.ofNat 32 (a ^^^ b)
  apply BitVec.eq_of_toNat_eq
  simp only [BitVec.toNat_xor, BitVec.toNat_ofNat]
  exact (Nat.xor_mod_two_pow ..).symm
/-- a without the bits of b -/
def anN (a b : Nat) : Nat := a ^^^ (a &&& b)
theorem anN_0 {a b : Nat} : anN a b = 0 ↔ ∀ i, a.testBit i = true → b.testBit i = true := by
  constructor
  · intro h i hi
    have h2 : (anN a b).testBit i = false := by rw [h]; exact Nat.zero_testBit i
    rw [anN, Nat.testBit_xor, Nat.testBit_and, hi] at h2
    cases hb : b.testBit i
    · rw [hb] at h2; simp at h2
    · rfl
  · intro h
    apply Nat.eq_of_testBit_eq
    intro i
    rw [Nat.zero_testBit, anN, Nat.testBit_xor, Nat.testBit_and]
    cases ha : a.testBit i
    · simp
    · rw [h i ha]; simp
theorem anN_lt {a b : Nat} (ha : a < 2 ^ 20) : anN a b < 2 ^ 20 := Nat.xor_lt_two_pow ha (Nat.lt_of_le_of_lt Nat.and_le_left ha)
theorem k_nand (a b : Nat) : nI a &&& (nI b ^^^ (-1)) = nI (anN a b) := by
  apply Int32.toBitVec_inj.mp
  show BitVec.ofNat 32 a &&& (BitVec.ofNat 32 b ^^^ (-1 : Int32).toBitVec) = BitVec.ofNat 32 (anN a b)
  have e : (-1 : Int32).toBitVec = BitVec.allOnes 32 := by decide
  rw [e]
  apply BitVec.eq_of_getLsbD_eq
  intro i hi
  simp only [BitVec.getLsbD_and, BitVec.getLsbD_xor, BitVec.getLsbD_ofNat, BitVec.getLsbD_allOnes, anN, Nat.testBit_xor, Nat.testBit_and, hi, decide_true, Bool.true_and, Bool.and_true]
  cases a.testBit i <;> cases b.testBit i <;> rfl
section NR
variable {p : Program} {l : Launch} {e : Env} {R : Room} {s : State} {m : MethodId} {args : Array Value} {below : List Frame} {meth : Method} {cd : Code} {H : Heap} {locs : List Loc} {cells slots : Nat} {Q : State → Prop}
variable {cc : ByteArray} {pc : Nat} {ls : Array Slot} {rest : List Value} {a b : Nat}
theorem n_icmp_lt (hexec : p.tables.exec = Jvm.exec) (hb : cd.code = cc) {off : Int} {tgt : Nat} (hdg : decode cc pc = .ok (.if_icmp .lt off, 3)) (ht : (pc : Int) + off = (tgt : Int)) (h1 : a < 2 ^ 31) (h2 : b < 2 ^ 31)
    (kt : a < b → W p l e R s m args below meth cd H locs cells slots Q (F0 m tgt ls rest)) (kf : b ≤ a → W p l e R s m args below meth cd H locs cells slots Q (F0 m (pc + 3) ls rest)) : W p l e R s m args below meth cd H locs cells slots Q (F0 m pc ls (.int (nI b) :: .int (nI a) :: rest)) :=
  lv_icmp_lt hexec hb hdg ht (fun c => kt ((nI_ltI h1 h2).mp c)) (fun c => kf (Nat.not_lt.mp (fun z => c ((nI_ltI h1 h2).mpr z))))
theorem n_icmp_ge (hexec : p.tables.exec = Jvm.exec) (hb : cd.code = cc) {off : Int} {tgt : Nat} (hdg : decode cc pc = .ok (.if_icmp .ge off, 3)) (ht : (pc : Int) + off = (tgt : Int)) (h1 : a < 2 ^ 31) (h2 : b < 2 ^ 31)
    (kt : b ≤ a → W p l e R s m args below meth cd H locs cells slots Q (F0 m tgt ls rest)) (kf : a < b → W p l e R s m args below meth cd H locs cells slots Q (F0 m (pc + 3) ls rest)) : W p l e R s m args below meth cd H locs cells slots Q (F0 m pc ls (.int (nI b) :: .int (nI a) :: rest)) :=
  lv_icmp_ge hexec hb hdg ht (fun c => kt ((nI_leI h2 h1).mp c)) (fun c => kf (Nat.not_le.mp (fun z => c ((nI_leI h2 h1).mpr z))))
theorem n_icmp_gt (hexec : p.tables.exec = Jvm.exec) (hb : cd.code = cc) {off : Int} {tgt : Nat} (hdg : decode cc pc = .ok (.if_icmp .gt off, 3)) (ht : (pc : Int) + off = (tgt : Int)) (h1 : a < 2 ^ 31) (h2 : b < 2 ^ 31)
    (kt : b < a → W p l e R s m args below meth cd H locs cells slots Q (F0 m tgt ls rest)) (kf : a ≤ b → W p l e R s m args below meth cd H locs cells slots Q (F0 m (pc + 3) ls rest)) : W p l e R s m args below meth cd H locs cells slots Q (F0 m pc ls (.int (nI b) :: .int (nI a) :: rest)) :=
  lv_icmp_gt hexec hb hdg ht (fun c => kt ((nI_ltI h2 h1).mp c)) (fun c => kf (Nat.not_lt.mp (fun z => c ((nI_ltI h2 h1).mpr z))))
theorem n_icmp_le (hexec : p.tables.exec = Jvm.exec) (hb : cd.code = cc) {off : Int} {tgt : Nat} (hdg : decode cc pc = .ok (.if_icmp .le off, 3)) (ht : (pc : Int) + off = (tgt : Int)) (h1 : a < 2 ^ 31) (h2 : b < 2 ^ 31)
    (kt : a ≤ b → W p l e R s m args below meth cd H locs cells slots Q (F0 m tgt ls rest)) (kf : b < a → W p l e R s m args below meth cd H locs cells slots Q (F0 m (pc + 3) ls rest)) : W p l e R s m args below meth cd H locs cells slots Q (F0 m pc ls (.int (nI b) :: .int (nI a) :: rest)) :=
  lv_icmp_le hexec hb hdg ht (fun c => kt ((nI_leI h1 h2).mp c)) (fun c => kf (Nat.not_le.mp (fun z => c ((nI_leI h1 h2).mpr z))))
theorem n_icmp_eq (hexec : p.tables.exec = Jvm.exec) (hb : cd.code = cc) {off : Int} {tgt : Nat} (hdg : decode cc pc = .ok (.if_icmp .eq off, 3)) (ht : (pc : Int) + off = (tgt : Int)) (h1 : a < 2 ^ 31) (h2 : b < 2 ^ 31)
    (kt : a = b → W p l e R s m args below meth cd H locs cells slots Q (F0 m tgt ls rest)) (kf : a ≠ b → W p l e R s m args below meth cd H locs cells slots Q (F0 m (pc + 3) ls rest)) : W p l e R s m args below meth cd H locs cells slots Q (F0 m pc ls (.int (nI b) :: .int (nI a) :: rest)) :=
  lv_icmp_eq hexec hb hdg ht (fun c => kt ((nI_eq h1 h2).mp c)) (fun c => kf (fun z => c ((nI_eq h1 h2).mpr z)))
theorem n_icmp_ne (hexec : p.tables.exec = Jvm.exec) (hb : cd.code = cc) {off : Int} {tgt : Nat} (hdg : decode cc pc = .ok (.if_icmp .ne off, 3)) (ht : (pc : Int) + off = (tgt : Int)) (h1 : a < 2 ^ 31) (h2 : b < 2 ^ 31)
    (kt : a ≠ b → W p l e R s m args below meth cd H locs cells slots Q (F0 m tgt ls rest)) (kf : a = b → W p l e R s m args below meth cd H locs cells slots Q (F0 m (pc + 3) ls rest)) : W p l e R s m args below meth cd H locs cells slots Q (F0 m pc ls (.int (nI b) :: .int (nI a) :: rest)) :=
  lv_icmp_ne hexec hb hdg ht (fun c => kt (fun z => c ((nI_eq h1 h2).mpr z))) (fun c => kf ((nI_eq h1 h2).mp c))
theorem n_z {a : Nat} (h : a < 2 ^ 31) : nI a = 0 ↔ a = 0 := ⟨fun c => (nI_eq h (by decide)).mp (c.trans nI_0.symm), fun c => by rw [c]; exact nI_0⟩
theorem n_p {a : Nat} (h : a < 2 ^ 31) : 0 < nI a ↔ 0 < a := by
  rw [← nI_0]
  exact nI_ltI (by decide) h
theorem n_if_eq (hexec : p.tables.exec = Jvm.exec) (hb : cd.code = cc) {off : Int} {tgt : Nat} (hdg : decode cc pc = .ok (.ifCond .eq off, 3)) (ht : (pc : Int) + off = (tgt : Int)) (h1 : a < 2 ^ 31)
    (kt : a = 0 → W p l e R s m args below meth cd H locs cells slots Q (F0 m tgt ls rest)) (kf : 0 < a → W p l e R s m args below meth cd H locs cells slots Q (F0 m (pc + 3) ls rest)) : W p l e R s m args below meth cd H locs cells slots Q (F0 m pc ls (.int (nI a) :: rest)) :=
  lv_if_eq hexec hb hdg ht (fun c => kt ((n_z h1).mp c)) (fun c => kf (Nat.pos_of_ne_zero (fun z => c ((n_z h1).mpr z))))
theorem n_if_ne (hexec : p.tables.exec = Jvm.exec) (hb : cd.code = cc) {off : Int} {tgt : Nat} (hdg : decode cc pc = .ok (.ifCond .ne off, 3)) (ht : (pc : Int) + off = (tgt : Int)) (h1 : a < 2 ^ 31)
    (kt : 0 < a → W p l e R s m args below meth cd H locs cells slots Q (F0 m tgt ls rest)) (kf : a = 0 → W p l e R s m args below meth cd H locs cells slots Q (F0 m (pc + 3) ls rest)) : W p l e R s m args below meth cd H locs cells slots Q (F0 m pc ls (.int (nI a) :: rest)) :=
  lv_if_ne hexec hb hdg ht (fun c => kt (Nat.pos_of_ne_zero (fun z => c ((n_z h1).mpr z)))) (fun c => kf ((n_z h1).mp c))
theorem n_if_gt (hexec : p.tables.exec = Jvm.exec) (hb : cd.code = cc) {off : Int} {tgt : Nat} (hdg : decode cc pc = .ok (.ifCond .gt off, 3)) (ht : (pc : Int) + off = (tgt : Int)) (h1 : a < 2 ^ 31)
    (kt : 0 < a → W p l e R s m args below meth cd H locs cells slots Q (F0 m tgt ls rest)) (kf : a = 0 → W p l e R s m args below meth cd H locs cells slots Q (F0 m (pc + 3) ls rest)) : W p l e R s m args below meth cd H locs cells slots Q (F0 m pc ls (.int (nI a) :: rest)) :=
  lv_if_gt hexec hb hdg ht (fun c => kt ((n_p h1).mp c)) (fun c => kf (Nat.eq_zero_of_not_pos (fun z => c ((n_p h1).mpr z))))
theorem n_if_le (hexec : p.tables.exec = Jvm.exec) (hb : cd.code = cc) {off : Int} {tgt : Nat} (hdg : decode cc pc = .ok (.ifCond .le off, 3)) (ht : (pc : Int) + off = (tgt : Int)) (h1 : a < 2 ^ 31)
    (kt : a = 0 → W p l e R s m args below meth cd H locs cells slots Q (F0 m tgt ls rest)) (kf : 0 < a → W p l e R s m args below meth cd H locs cells slots Q (F0 m (pc + 3) ls rest)) : W p l e R s m args below meth cd H locs cells slots Q (F0 m pc ls (.int (nI a) :: rest)) :=
  lv_if_le hexec hb hdg ht (fun c => kt (Nat.eq_zero_of_not_pos (fun z => by have h9 := (n_p h1).mpr z; rw [Int32.lt_iff_toInt_lt] at h9; rw [Int32.le_iff_toInt_le] at c; omega))) (fun c => kf (Nat.pos_of_ne_zero (fun z => c (by rw [z]; decide))))
theorem n_ifb_eq {P : Prop} (hexec : p.tables.exec = Jvm.exec) (hb : cd.code = cc) {off : Int} {tgt : Nat} (hdg : decode cc pc = .ok (.ifCond .eq off, 3)) (ht : (pc : Int) + off = (tgt : Int))
    (kt : ¬ P → W p l e R s m args below meth cd H locs cells slots Q (F0 m tgt ls rest)) (kf : P → W p l e R s m args below meth cd H locs cells slots Q (F0 m (pc + 3) ls rest)) : W p l e R s m args below meth cd H locs cells slots Q (F0 m pc ls (.int (nI (bN P)) :: rest)) :=
  n_if_eq hexec hb hdg ht (Nat.lt_of_le_of_lt (bN_le P) (by decide)) (fun c => kt (bN_0.mp c)) (fun c => kf (bN_1.mp (Nat.le_antisymm (bN_le P) c)))
theorem n_ifb_ne {P : Prop} (hexec : p.tables.exec = Jvm.exec) (hb : cd.code = cc) {off : Int} {tgt : Nat} (hdg : decode cc pc = .ok (.ifCond .ne off, 3)) (ht : (pc : Int) + off = (tgt : Int))
    (kt : P → W p l e R s m args below meth cd H locs cells slots Q (F0 m tgt ls rest)) (kf : ¬ P → W p l e R s m args below meth cd H locs cells slots Q (F0 m (pc + 3) ls rest)) : W p l e R s m args below meth cd H locs cells slots Q (F0 m pc ls (.int (nI (bN P)) :: rest)) :=
  n_if_ne hexec hb hdg ht (Nat.lt_of_le_of_lt (bN_le P) (by decide)) (fun c => kt (bN_1.mp (Nat.le_antisymm (bN_le P) c))) (fun c => kf (bN_0.mp c))
theorem n_iadd (hexec : p.tables.exec = Jvm.exec) (hb : cd.code = cc) (hdg : decode cc pc = .ok (.iadd, 1)) (k : W p l e R s m args below meth cd H locs cells slots Q (F0 m (pc + 1) ls (.int (nI (a + b)) :: rest))) : W p l e R s m args below meth cd H locs cells slots Q (F0 m pc ls (.int (nI b) :: .int (nI a) :: rest)) :=
  lv_iadd hexec hb hdg (by rw [nI_add]; exact k)
theorem n_isub (hexec : p.tables.exec = Jvm.exec) (hb : cd.code = cc) (hdg : decode cc pc = .ok (.isub, 1)) (h : b ≤ a) (k : W p l e R s m args below meth cd H locs cells slots Q (F0 m (pc + 1) ls (.int (nI (a - b)) :: rest))) : W p l e R s m args below meth cd H locs cells slots Q (F0 m pc ls (.int (nI b) :: .int (nI a) :: rest)) :=
  lv_isub hexec hb hdg (by rw [pk_sub h]; exact k)
theorem n_imul (hexec : p.tables.exec = Jvm.exec) (hb : cd.code = cc) (hdg : decode cc pc = .ok (.imul, 1)) (k : W p l e R s m args below meth cd H locs cells slots Q (F0 m (pc + 1) ls (.int (nI (a * b)) :: rest))) : W p l e R s m args below meth cd H locs cells slots Q (F0 m pc ls (.int (nI b) :: .int (nI a) :: rest)) :=
  lv_imul hexec hb hdg (by rw [pk_mul]; exact k)
theorem n_idiv (hexec : p.tables.exec = Jvm.exec) (hb : cd.code = cc) (hdg : decode cc pc = .ok (.idiv, 1)) (h1 : a < 2 ^ 31) (h0 : 0 < b) (h2 : b < 2 ^ 31) (k : W p l e R s m args below meth cd H locs cells slots Q (F0 m (pc + 1) ls (.int (nI (a / b)) :: rest))) : W p l e R s m args below meth cd H locs cells slots Q (F0 m pc ls (.int (nI b) :: .int (nI a) :: rest)) :=
  lv_idiv hexec hb hdg (nI_ne0 h0 h2) (by rw [pk_div h1 h0 h2]; exact k)
theorem n_irem (hexec : p.tables.exec = Jvm.exec) (hb : cd.code = cc) (hdg : decode cc pc = .ok (.irem, 1)) (h1 : a < 2 ^ 31) (h0 : 0 < b) (h2 : b < 2 ^ 31) (k : W p l e R s m args below meth cd H locs cells slots Q (F0 m (pc + 1) ls (.int (nI (a % b)) :: rest))) : W p l e R s m args below meth cd H locs cells slots Q (F0 m pc ls (.int (nI b) :: .int (nI a) :: rest)) :=
  lv_irem hexec hb hdg (nI_ne0 h0 h2) (by rw [pk_rem h1 h0 h2]; exact k)
theorem n_ior (hexec : p.tables.exec = Jvm.exec) (hb : cd.code = cc) (hdg : decode cc pc = .ok (.ior, 1)) (k : W p l e R s m args below meth cd H locs cells slots Q (F0 m (pc + 1) ls (.int (nI (a ||| b)) :: rest))) : W p l e R s m args below meth cd H locs cells slots Q (F0 m pc ls (.int (nI b) :: .int (nI a) :: rest)) :=
  lv_ior hexec hb hdg (by rw [k_or]; exact k)
theorem n_iand (hexec : p.tables.exec = Jvm.exec) (hb : cd.code = cc) (hdg : decode cc pc = .ok (.iand, 1)) (k : W p l e R s m args below meth cd H locs cells slots Q (F0 m (pc + 1) ls (.int (nI (a &&& b)) :: rest))) : W p l e R s m args below meth cd H locs cells slots Q (F0 m pc ls (.int (nI b) :: .int (nI a) :: rest)) :=
  lv_iand hexec hb hdg (by rw [k_and]; exact k)
theorem n_nand (hexec : p.tables.exec = Jvm.exec) (hb : cd.code = cc) (hdg : decode cc pc = .ok (.iand, 1)) (k : W p l e R s m args below meth cd H locs cells slots Q (F0 m (pc + 1) ls (.int (nI (anN a b)) :: rest))) : W p l e R s m args below meth cd H locs cells slots Q (F0 m pc ls (.int (nI b ^^^ (-1)) :: .int (nI a) :: rest)) :=
  lv_iand hexec hb hdg (by rw [k_nand]; exact k)
theorem n_bit (hexec : p.tables.exec = Jvm.exec) (hb : cd.code = cc) (hdg : decode cc pc = .ok (.ishl, 1)) (h : b < 31) (k : W p l e R s m args below meth cd H locs cells slots Q (F0 m (pc + 1) ls (.int (nI (2 ^ b)) :: rest))) : W p l e R s m args below meth cd H locs cells slots Q (F0 m pc ls (.int (nI b) :: .int (nI 1) :: rest)) :=
  lv_ishl hexec hb hdg (by rw [k_bit h]; exact k)
theorem n_ishr (hexec : p.tables.exec = Jvm.exec) (hb : cd.code = cc) (hdg : decode cc pc = .ok (.ishr, 1)) (h1 : a < 2 ^ 31) (h : b < 32) (k : W p l e R s m args below meth cd H locs cells slots Q (F0 m (pc + 1) ls (.int (nI (a / 2 ^ b)) :: rest))) : W p l e R s m args below meth cd H locs cells slots Q (F0 m pc ls (.int (nI b) :: .int (nI a) :: rest)) :=
  lv_ishr hexec hb hdg (by rw [k_shr h1 h]; exact k)
/-- a value on top by another name -/
theorem n_top {x y : Value} (h : x = y) (k : W p l e R s m args below meth cd H locs cells slots Q (F0 m pc ls (y :: rest))) : W p l e R s m args below meth cd H locs cells slots Q (F0 m pc ls (x :: rest)) := by
  subst h
  exact k
variable {D : va_G} {G : Nat → Nat} {h0 : Nat} {c r : Nat → Nat → Nat} {o : Nat} {wl : va_W} {A : Nat → Prop} {H0 : Heap}
theorem x_put (hexec : p.tables.exec = Jvm.exec) (hb : cd.code = cc) {own ref C : String} {T : u_T} {N ci index ad : Nat} {Ts : List Cond} (hts : ∀ w ∈ Ts, w.before args s = true) (hin : ∀ w ∈ u_ws C T N, w ∈ Ts) (ty0 : Nat → FieldType) (hty : ∀ k, k < N → parseFieldDescriptor (T k).2.2.1 = some (ty0 k)) (hnm : ∀ a, a < N → ∀ b, b < N → a ≠ b → (T a).2.1 ≠ (T b).2.1) (hown : s.vm.findClass own = some m.cls) (hK : va_K D vwCl (tyL G) s) (hP : va_P D vwCl wl H) (hD : va_D A wl) (hS0 : va_S A H0 H locs) (q0 : Nat) {fs : List Value} (he : wl[q0]? = some (ad, .inr (ci, fs))) (hc : vwCl[ci]? = some (C, T, N)) (k : Nat) (hk : k < N) (hlink : (Cond.fieldLink own index ref (T k).2.1 (T k).2.2.1).before args s = true) (hsame : ∀ x, s.fieldFound? (T k).1 (T k).2.1 (T k).2.2.1 = some x → s.fieldFound? ref (T k).2.1 (T k).2.2.1 = some x) (hfin : (T k).2.2.2 = false) {ty : FieldType} {v : Value} (hd : parseFieldDescriptor (T k).2.2.1 = some ty) (hn : narrow ty v = v) (hfit : fits ty v = true) (hl : k < fs.length) (hdg : decode cc pc = .ok (.putfield index, 3))
    {Z : va_W → Prop} (hZ : Z (wl.set q0 (ad, .inr (ci, fs.set k v)))) (kk : ∀ (H1 : Heap) (locs1 : List Loc) (wl1 : va_W), Z wl1 → va_P D vwCl wl1 H1 → va_D A wl1 → va_S A H0 H1 locs1 → W p l e R s m args below meth cd H1 locs1 cells slots Q (F0 m (pc + 3) ls rest)) : W p l e R s m args below meth cd H locs cells slots Q (F0 m pc ls (v :: .ref ad :: rest)) :=
  va_put hexec hb hts hin ty0 hty hnm hown hK hP hD hS0 q0 he hc k hk hlink hsame hfin hd hn hfit hl hdg (fun H1 locs1 h1 h2 h3 => kk H1 locs1 _ hZ h1 h2 h3)
theorem x_iald (hexec : p.tables.exec = Jvm.exec) (hb : cd.code = cc) (hK : va_K D vwCl (tyL G) s) (hP : va_P D vwCl wl H) (q0 : Nat) {n ad i : Nat} {f : Nat → Int32} (he : wl[q0]? = some (ad, .inl (G 62, n, .inl f))) (hi : i < n) (hn : n < 2 ^ 31) (hdg : decode cc pc = .ok (.iaload, 1)) {v : Int32} (hv : f i = v)
    (kk : W p l e R s m args below meth cd H locs cells slots Q (F0 m (pc + 1) ls (.int v :: rest))) : W p l e R s m args below meth cd H locs cells slots Q (F0 m pc ls (.int (nI i) :: .ref ad :: rest)) :=
  va_iald hexec hb hK hP q0 2 he rfl (vp_in_nI hi hn) hdg (by rw [nI_clamp (Nat.lt_trans hi hn), hv]; exact kk)
theorem x_zald (hexec : p.tables.exec = Jvm.exec) (hb : cd.code = cc) (hK : va_K D vwCl (tyL G) s) (hP : va_P D vwCl wl H) (q0 : Nat) {n ad i : Nat} {f : Nat → Int32} (he : wl[q0]? = some (ad, .inl (G 63, n, .inl f))) (hi : i < n) (hn : n < 2 ^ 31) (hdg : decode cc pc = .ok (.baload, 1)) {v : Int32} (hv : f i = v)
    (kk : W p l e R s m args below meth cd H locs cells slots Q (F0 m (pc + 1) ls (.int v :: rest))) : W p l e R s m args below meth cd H locs cells slots Q (F0 m pc ls (.int (nI i) :: .ref ad :: rest)) :=
  va_zald hexec hb hK hP q0 3 he rfl (vp_in_nI hi hn) hdg (by rw [nI_clamp (Nat.lt_trans hi hn), hv]; exact kk)
theorem x_iast (hexec : p.tables.exec = Jvm.exec) (hb : cd.code = cc) (hK : va_K D vwCl (tyL G) s) (hP : va_P D vwCl wl H) (hD : va_D A wl) (hS : va_S A H0 H locs) (q0 : Nat) {n ad i : Nat} {x : Int32} {f : Nat → Int32} (he : wl[q0]? = some (ad, .inl (G 62, n, .inl f))) (hi : i < n) (hn : n < 2 ^ 31) (hdg : decode cc pc = .ok (.iastore, 1))
    {Z : va_W → Prop} (hZ : Z (wl.set q0 (ad, .inl (G 62, n, .inl (upd f (nI i).toNatClampNeg x))))) (kk : ∀ (H1 : Heap) (locs1 : List Loc) (wl1 : va_W), Z wl1 → va_P D vwCl wl1 H1 → va_D A wl1 → va_S A H0 H1 locs1 → W p l e R s m args below meth cd H1 locs1 cells slots Q (F0 m (pc + 1) ls rest)) : W p l e R s m args below meth cd H locs cells slots Q (F0 m pc ls (.int x :: .int (nI i) :: .ref ad :: rest)) :=
  va_iast hexec hb hK hP hD hS q0 2 he rfl (vp_in_nI hi hn) hdg (fun H1 locs1 h1 h2 h3 => kk H1 locs1 _ hZ h1 h2 h3)
theorem x_zast (hexec : p.tables.exec = Jvm.exec) (hb : cd.code = cc) (hK : va_K D vwCl (tyL G) s) (hP : va_P D vwCl wl H) (hD : va_D A wl) (hS : va_S A H0 H locs) (q0 : Nat) {n ad i : Nat} {x : Int32} {f : Nat → Int32} (he : wl[q0]? = some (ad, .inl (G 63, n, .inl f))) (hi : i < n) (hn : n < 2 ^ 31) (hdg : decode cc pc = .ok (.bastore, 1))
    {Z : va_W → Prop} (hZ : Z (wl.set q0 (ad, .inl (G 63, n, .inl (upd f (nI i).toNatClampNeg (vp_nar .boolean x)))))) (kk : ∀ (H1 : Heap) (locs1 : List Loc) (wl1 : va_W), Z wl1 → va_P D vwCl wl1 H1 → va_D A wl1 → va_S A H0 H1 locs1 → W p l e R s m args below meth cd H1 locs1 cells slots Q (F0 m (pc + 1) ls rest)) : W p l e R s m args below meth cd H locs cells slots Q (F0 m pc ls (.int x :: .int (nI i) :: .ref ad :: rest)) :=
  va_zast hexec hb hK hP hD hS q0 3 he rfl (vp_in_nI hi hn) hdg (fun H1 locs1 h1 h2 h3 => kk H1 locs1 _ hZ h1 h2 h3)
/-- rows[u] -/
theorem x_row (hexec : p.tables.exec = Jvm.exec) (hb : cd.code = cc) (hK : va_K D vwCl (tyL G) s) (hP : va_P D vwCl wl H) (hR : Rc G c wl) {u : Nat} (hu : u < 20) (hdg : decode cc pc = .ok (.aaload, 1))
    (kk : W p l e R s m args below meth cd H locs cells slots Q (F0 m (pc + 1) ls (.ref (G (20 + u)) :: rest))) : W p l e R s m args below meth cd H locs cells slots Q (F0 m pc ls (.int (nI u) :: .ref (G 1) :: rest)) :=
  va_aldq hexec hb hK hP 1 0 (Q_r hR) rfl (vp_in_nI hu (by decide)) hdg (by rw [nI_clamp (by omega)]; exact kk)
variable {mc ms : Nat} {free : Addr → Prop} {st0 : List Value} {av : Array Value}
theorem y_calli {S : Type} {post : Int32 → S → Prop} {cf rf : S → Nat → Nat → Nat} {of : S → Nat} (hr : va_Run p l e R s m args below meth cd H locs cells slots mc ms (F0 m pc ls st0) rest (va_Qi post (fun u t => Wr D G h0 (cf u) (rf u) (of u) t) (fun q => h0 ≤ q) av) (fun q => h0 ≤ q)) (hS : va_S (fun q => h0 ≤ q) H0 H locs)
    (kk : ∀ (v : Int32) (u : S) (H1 : Heap) (locs1 : List Loc) (wl1 : va_W), post v u → Rc G (cf u) wl1 → Rr G (rf u) wl1 → Ro G (of u) wl1 → va_P D vwCl wl1 H1 → va_D (fun q => h0 ≤ q) wl1 → va_S (fun q => h0 ≤ q) H0 H1 locs1 → W p l e R s m args below meth cd H1 locs1 (cells + mc) (slots + ms) Q (F0 m (pc + 3) ls (.int v :: rest))) : W p l e R s m args below meth cd H locs cells slots Q (F0 m pc ls st0) :=
  va_calli hr hS (fun _ _ h => h) (fun _ h => h) (fun v u t H1 locs1 ht _ hp hB _ _ hS1 => by
    obtain ⟨wl1, b1, b2, b3, b4, b5⟩ := hB
    rw [ht] at b4
    exact kk v u H1 locs1 wl1 hp b1 b2 b3 b4 b5 hS1)
theorem y_callv {S : Type} {post : S → Prop} {cf rf : S → Nat → Nat → Nat} {of : S → Nat} (hr : va_Run p l e R s m args below meth cd H locs cells slots mc ms (F0 m pc ls st0) rest (va_Qv post (fun u t => Wr D G h0 (cf u) (rf u) (of u) t) (fun q => h0 ≤ q) av) (fun q => h0 ≤ q)) (hS : va_S (fun q => h0 ≤ q) H0 H locs)
    (kk : ∀ (u : S) (H1 : Heap) (locs1 : List Loc) (wl1 : va_W), post u → Rc G (cf u) wl1 → Rr G (rf u) wl1 → Ro G (of u) wl1 → va_P D vwCl wl1 H1 → va_D (fun q => h0 ≤ q) wl1 → va_S (fun q => h0 ≤ q) H0 H1 locs1 → W p l e R s m args below meth cd H1 locs1 (cells + mc) (slots + ms) Q (F0 m (pc + 3) ls rest)) : W p l e R s m args below meth cd H locs cells slots Q (F0 m pc ls st0) :=
  va_callv hr hS (fun _ _ h => h) (fun _ h => h) (fun u t H1 locs1 ht _ hp hB _ _ hS1 => by
    obtain ⟨wl1, b1, b2, b3, b4, b5⟩ := hB
    rw [ht] at b4
    exact kk u H1 locs1 wl1 hp b1 b2 b3 b4 b5 hS1)
end NR
end
section
/-! WHAT THE SYSTEM'S WORDS MEAN, over states st (2 READY, 3 FAILED, 4 HELD) and stand-ins sb (0: none, v + 1: v) -/
def goneP (st : Nat → Nat) (u : Nat) : Prop := st u = 3 ∨ st u = 4
def metP (st sb : Nat → Nat) (u : Nat) : Prop := st u = 2 ∨ (goneP st u ∧ sb u ≠ 0 ∧ st (sb u - 1) = 2)
def lostP (st sb : Nat → Nat) (u : Nat) : Prop := goneP st u ∧ (sb u = 0 ∨ goneP st (sb u - 1))
def doneP (st : Nat → Nat) (u : Nat) : Prop := st u = 2 ∨ goneP st u
/-- bounds of the class's numbers -/
def BC (c : Nat → Nat → Nat) : Prop := ∀ a i, a ≤ 33 → c a i < 2 ^ 31
def BR (r : Nat → Nat → Nat) : Prop := ∀ a i, a ≤ 30 → r a i < 2 ^ 31
/-- resetForStart -/
def c_reset (c : Nat → Nat → Nat) (u : Nat) : Nat → Nat → Nat := up2 (up2 (up2 c 9 u (if c 5 u = 0 then 0 else 4)) 11 u 0) 12 u (c 3 u)
/-- comeToEnd -/
def c_come (c : Nat → Nat → Nat) (u : Nat) : Nat → Nat → Nat :=
  if c 4 u = 0 then up2 (up2 c 9 u 2) 3 u (max 1 ((c 3 u + c 1 u) / 2))
  else if c 11 u < c 2 u then up2 (up2 (up2 c 4 u (c 4 u - 1)) 11 u (c 11 u + 1)) 9 u 0 else up2 (up2 c 4 u (c 4 u - 1)) 9 u 3
/-- timeDone of a unit -/
def c_part (c : Nat → Nat → Nat) (u : Nat) : Nat := if c 9 u = 2 ∨ c 9 u = 3 then c 12 u else if c 9 u = 1 then min (c 10 u) (c 12 u) else 0
theorem nI_max {a b : Nat} (ha : a < 2 ^ 31) (hb : b < 2 ^ 31) : (if nI a < nI b then nI b else nI a) = nI (max a b) := by
  by_cases h : a < b
  · rw [if_pos (nI_lt h hb), Nat.max_eq_right (Nat.le_of_lt h)]
  · rw [if_neg (nI_nlt (Nat.not_lt.mp h) ha), Nat.max_eq_left (Nat.not_lt.mp h)]
theorem nI_min {a b : Nat} (ha : a < 2 ^ 31) (hb : b < 2 ^ 31) : (if nI b < nI a then nI b else nI a) = nI (min a b) := by
  by_cases h : b < a
  · rw [if_pos (nI_lt h ha), Nat.min_eq_right (Nat.le_of_lt h)]
  · rw [if_neg (nI_nlt (Nat.not_lt.mp h) hb), Nat.min_eq_left (Nat.not_lt.mp h)]
end
section
/-! MASKS, COUNTS, SUMS -/
noncomputable def mk (p : Nat → Prop) : Nat → Nat
  | 0 => 0
  | n + 1 => mk p n ||| (bN (p n) * 2 ^ n)
noncomputable def ct (p : Nat → Prop) : Nat → Nat
  | 0 => 0
  | n + 1 => ct p n + bN (p n)
def sm (f : Nat → Nat) : Nat → Nat
  | 0 => 0
  | n + 1 => sm f n + f n
theorem mk_t {p : Nat → Prop} {n : Nat} (h : p n) : mk p (n + 1) = mk p n ||| 2 ^ n := by rw [mk, bN_t h, Nat.one_mul]
theorem mk_f {p : Nat → Prop} {n : Nat} (h : ¬ p n) : mk p (n + 1) = mk p n := by rw [mk, bN_f h, Nat.zero_mul, Nat.or_zero]
theorem ct_t {p : Nat → Prop} {n : Nat} (h : p n) : ct p (n + 1) = ct p n + 1 := by rw [ct, bN_t h]
theorem ct_f {p : Nat → Prop} {n : Nat} (h : ¬ p n) : ct p (n + 1) = ct p n := by rw [ct, bN_f h, Nat.add_zero]
theorem mk_bit {p : Nat → Prop} {i : Nat} : ∀ {n : Nat}, (mk p n).testBit i = true ↔ i < n ∧ p i
  | 0 => by simp [mk]
  | n + 1 => by
    have ih := mk_bit (p := p) (i := i) (n := n)
    by_cases h : p n
    · rw [mk_t h, Nat.testBit_or, Bool.or_eq_true, ih, Nat.testBit_two_pow]
      constructor
      · rintro (h1 | h1)
        · exact ⟨Nat.lt_succ_of_lt h1.1, h1.2⟩
        · have e : n = i := by simpa using h1
          subst e
          exact ⟨Nat.lt_succ_self _, h⟩
      · rintro ⟨h1, h2⟩
        by_cases e : n = i
        · exact Or.inr (by simp [e])
        · exact Or.inl ⟨by omega, h2⟩
    · rw [mk_f h, ih]
      constructor
      · exact fun h1 => ⟨Nat.lt_succ_of_lt h1.1, h1.2⟩
      · rintro ⟨h1, h2⟩
        by_cases e : n = i
        · subst e; exact absurd h2 h
        · exact ⟨by omega, h2⟩
theorem mk_lt {p : Nat → Prop} : ∀ n : Nat, mk p n < 2 ^ n
  | 0 => by simp [mk]
  | n + 1 => by
    have ih := mk_lt (p := p) n
    have h1 : mk p n < 2 ^ (n + 1) := Nat.lt_of_lt_of_le ih (Nat.pow_le_pow_right (by decide) (Nat.le_succ n))
    by_cases h : p n
    · rw [mk_t h]
      exact Nat.or_lt_two_pow h1 (Nat.pow_lt_pow_right (by decide) (Nat.lt_succ_self n))
    · rw [mk_f h]; exact h1
theorem mk_cg {p q : Nat → Prop} : ∀ {n : Nat}, (∀ i, i < n → (p i ↔ q i)) → mk p n = mk q n
  | 0, _ => rfl
  | n + 1, h => by rw [mk, mk, mk_cg (fun i hi => h i (Nat.lt_succ_of_lt hi)), bN_c (h n (Nat.lt_succ_self n))]
theorem ct_cg {p q : Nat → Prop} : ∀ {n : Nat}, (∀ i, i < n → (p i ↔ q i)) → ct p n = ct q n
  | 0, _ => rfl
  | n + 1, h => by rw [ct, ct, ct_cg (fun i hi => h i (Nat.lt_succ_of_lt hi)), bN_c (h n (Nat.lt_succ_self n))]
theorem sm_cg {f g : Nat → Nat} : ∀ {n : Nat}, (∀ i, i < n → f i = g i) → sm f n = sm g n
  | 0, _ => rfl
  | n + 1, h => by rw [sm, sm, sm_cg (fun i hi => h i (Nat.lt_succ_of_lt hi)), h n (Nat.lt_succ_self n)]
theorem ct_le {p : Nat → Prop} : ∀ n : Nat, ct p n ≤ n
  | 0 => Nat.le_refl 0
  | n + 1 => by have := ct_le (p := p) n; have := bN_le (p n); rw [ct]; omega
theorem sm_le {f : Nat → Nat} {k : Nat} : ∀ {n : Nat}, (∀ i, i < n → f i ≤ k) → sm f n ≤ n * k
  | 0, _ => by simp [sm]
  | n + 1, h => by
    have h1 := sm_le (fun i hi => h i (Nat.lt_succ_of_lt hi))
    have h2 := h n (Nat.lt_succ_self n)
    rw [sm, Nat.succ_mul]
    omega
theorem ct_sub {p q : Nat → Prop} : ∀ {n : Nat}, (∀ i, i < n → p i → q i) → ct p n ≤ ct q n
  | 0, _ => Nat.le_refl 0
  | n + 1, h => by
    have h1 := ct_sub (fun i hi => h i (Nat.lt_succ_of_lt hi))
    by_cases hp : p n
    · rw [ct_t hp, ct_t (h n (Nat.lt_succ_self n) hp)]; omega
    · rw [ct_f hp, ct]; omega
/-- one more -/
theorem ct_one {p q : Nat → Prop} {u : Nat} (hp : ¬ p u) (hq : q u) : ∀ {n : Nat}, u < n → (∀ i, i < n → i ≠ u → (p i ↔ q i)) → ct q n = ct p n + 1
  | 0, h, _ => absurd h (Nat.not_lt_zero _)
  | n + 1, h, hk => by
    by_cases e : u = n
    · subst e
      rw [ct_t hq, ct_f hp, ct_cg (fun i hi => (hk i (Nat.lt_succ_of_lt hi) (Nat.ne_of_lt hi)).symm)]
    · have ih := ct_one hp hq (show u < n by omega) (fun i hi => hk i (Nat.lt_succ_of_lt hi))
      rw [ct, ct, ih, bN_c (hk n (Nat.lt_succ_self n) (fun z => e z.symm))]
      omega
theorem and_bit {f u : Nat} : f &&& 2 ^ u = 0 ↔ ¬ f.testBit u = true := by
  constructor
  · intro h z
    have h2 : (f &&& 2 ^ u).testBit u = false := by rw [h]; exact Nat.zero_testBit u
    rw [Nat.testBit_and, z, Nat.testBit_two_pow_self] at h2
    cases h2
  · intro h
    apply Nat.eq_of_testBit_eq
    intro i
    rw [Nat.zero_testBit, Nat.testBit_and, Nat.testBit_two_pow]
    by_cases e : u = i
    · subst e
      simp only [Bool.not_eq_true] at h
      rw [h]; rfl
    · simp [e]
theorem and_0 {a b : Nat} : a &&& b = 0 ↔ ∀ i, a.testBit i = true → ¬ b.testBit i = true := by
  constructor
  · intro h i h1 h2
    have h3 : (a &&& b).testBit i = false := by rw [h]; exact Nat.zero_testBit i
    rw [Nat.testBit_and, h1, h2] at h3
    cases h3
  · intro h
    apply Nat.eq_of_testBit_eq
    intro i
    rw [Nat.zero_testBit, Nat.testBit_and]
    cases ha : a.testBit i
    · rfl
    · have := h i ha
      simp only [Bool.not_eq_true] at this
      rw [this]; rfl
/-! WHAT IS REACHED -/
def Rch (E : Nat → Nat → Prop) (a b : Nat) : Prop := ∀ S : Nat → Prop, S a → (∀ u v, S u → E u v → S v) → S b
theorem Rch_r {E : Nat → Nat → Prop} (a : Nat) : Rch E a a := fun _ h _ => h
theorem Rch_s {E : Nat → Nat → Prop} {a u v : Nat} (h : Rch E a u) (he : E u v) : Rch E a v := fun S h1 h2 => h2 u v (h S h1 h2) he
theorem Rch_cg {E F : Nat → Nat → Prop} (h : ∀ u v, E u v ↔ F u v) (a b : Nat) : Rch E a b ↔ Rch F a b :=
  ⟨fun k S h1 h2 => k S h1 (fun u v hu he => h2 u v hu ((h u v).mp he)), fun k S h1 h2 => k S h1 (fun u v hu he => h2 u v hu ((h u v).mpr he))⟩
/-- sets that grow below n stand still before step n -/
theorem grow_still {S : Nat → Nat → Prop} {n a : Nat} (ha : a < n) (h0 : S 0 a) (hm : ∀ t v, S t v → S (t + 1) v) (hn : ∀ t v, S t v → v < n) : ∃ t, t < n ∧ ∀ v, S (t + 1) v → S t v := by
  apply Classical.byContradiction
  intro hno
  have step : ∀ t, t < n → ct (S t) n + 1 ≤ ct (S (t + 1)) n := by
    intro t ht
    have h1 : ∃ v, S (t + 1) v ∧ ¬ S t v := by
      apply Classical.byContradiction
      intro h2
      exact hno ⟨t, ht, fun v hv => Classical.byContradiction (fun h3 => h2 ⟨v, hv, h3⟩)⟩
    obtain ⟨v, h3, h4⟩ := h1
    have e := ct_one (p := S t) (q := fun i => S t i ∨ i = v) (u := v) h4 (Or.inr rfl) (hn _ _ h3) (fun i _ hi => ⟨Or.inl, fun z => z.elim id (fun z => absurd z hi)⟩)
    rw [← e]
    exact ct_sub (fun i _ hi => hi.elim (hm t i) (fun z => by rw [z]; exact h3))
  have all : ∀ t, t ≤ n → t + 1 ≤ ct (S t) n := by
    intro t
    induction t with
    | zero =>
      intro _
      have e := ct_one (p := fun _ => False) (q := fun i => i = a) (u := a) (fun z => z) rfl ha (fun i _ hi => ⟨fun z => z.elim, fun z => hi z⟩)
      have h2 : ct (fun i => i = a) n ≤ ct (S 0) n := ct_sub (fun i _ hi => by rw [hi]; exact h0)
      omega
    | succ t ih =>
      intro ht
      have h1 := ih (by omega)
      have h2 := step t (by omega)
      omega
  have h1 := all n (Nat.le_refl n)
  have h2 := ct_le (p := S n) n
  omega
/-! THE CLASS'S STEPS -/
def BC1 (c : Nat → Nat → Nat) : Prop := BC c ∧ c 20 1 ≤ 20
/-- edges: needs, and kept wishes where fl isn't 0 -/
def eC (c : Nat → Nat → Nat) (fl u v : Nat) : Prop := u < c 20 1 ∧ ((c 7 u).testBit v = true ∨ (fl ≠ 0 ∧ (c 8 u).testBit v = true))
def rsE (c : Nat → Nat → Nat) (fl u : Nat) : Nat := c 7 u ||| (if fl = 0 then 0 else c 8 u)
def rsI (c : Nat → Nat → Nat) (fl f : Nat) : Nat → Nat
  | 0 => f
  | k + 1 => if (rsI c fl f k).testBit k = true then rsI c fl f k ||| rsE c fl k else rsI c fl f k
def rdI (c : Nat → Nat → Nat) (fl a : Nat) : Nat → Nat
  | 0 => 2 ^ a
  | i + 1 => rsI c fl (rdI c fl a i) (c 20 1)
def rdB (c : Nat → Nat → Nat) (fl a : Nat) : Nat → Nat
  | 0 => 0
  | i + 1 => rdI c fl a i
theorem rsE_bit {c : Nat → Nat → Nat} {fl u v : Nat} (hu : u < c 20 1) : (rsE c fl u).testBit v = true ↔ eC c fl u v := by
  unfold rsE eC
  rw [Nat.testBit_or, Bool.or_eq_true]
  by_cases h : fl = 0
  · simp [h, hu]
  · simp [h, hu]
theorem rsI_mono {c : Nat → Nat → Nat} {fl f v : Nat} : ∀ {k m : Nat}, k ≤ m → (rsI c fl f k).testBit v = true → (rsI c fl f m).testBit v = true := by
  intro k m h
  induction h with
  | refl => exact id
  | @step m _ ih =>
    intro h1
    have h2 := ih h1
    rw [rsI]
    split
    · rw [Nat.testBit_or, h2]; rfl
    · exact h2
theorem rsI_sound {c : Nat → Nat → Nat} {fl f a : Nat} (h : ∀ v, f.testBit v = true → Rch (eC c fl) a v) : ∀ k, k ≤ c 20 1 → ∀ v, (rsI c fl f k).testBit v = true → Rch (eC c fl) a v
  | 0, _, v, hv => h v hv
  | k + 1, hk, v, hv => by
    have ih := rsI_sound h k (by omega)
    rw [rsI] at hv
    split at hv
    · rename_i hc
      rw [Nat.testBit_or, Bool.or_eq_true] at hv
      rcases hv with hv | hv
      · exact ih v hv
      · exact Rch_s (ih k hc) ((rsE_bit (by omega)).mp hv)
    · exact ih v hv
theorem rsI_lt {c : Nat → Nat → Nat} {fl f N : Nat} (h7 : ∀ u, c 7 u < 2 ^ N) (h8 : ∀ u, c 8 u < 2 ^ N) (hf : f < 2 ^ N) : ∀ k, rsI c fl f k < 2 ^ N
  | 0 => hf
  | k + 1 => by
    have ih := rsI_lt (fl := fl) h7 h8 hf k
    rw [rsI]
    split
    · refine Nat.or_lt_two_pow ih (Nat.or_lt_two_pow (h7 k) ?_)
      split
      · exact Nat.two_pow_pos N
      · exact h8 k
    · exact ih
theorem rdI_lt {c : Nat → Nat → Nat} {fl a N : Nat} (h7 : ∀ u, c 7 u < 2 ^ N) (h8 : ∀ u, c 8 u < 2 ^ N) (ha : a < N) : ∀ i, rdI c fl a i < 2 ^ N
  | 0 => Nat.pow_lt_pow_right (by decide) ha
  | i + 1 => rsI_lt h7 h8 (rdI_lt h7 h8 ha i) _
theorem rdI_sound {c : Nat → Nat → Nat} {fl a : Nat} : ∀ i v, (rdI c fl a i).testBit v = true → Rch (eC c fl) a v
  | 0, v, h => by
    have e : a = v := by simpa [rdI, Nat.testBit_two_pow] using h
    rw [← e]; exact Rch_r a
  | i + 1, v, h => rsI_sound (fun w hw => rdI_sound i w hw) _ (Nat.le_refl _) v h
theorem rdI_closed {c : Nat → Nat → Nat} {fl a i : Nat} (h : rdI c fl a (i + 1) = rdI c fl a i) {u v : Nat} (hu : (rdI c fl a i).testBit u = true) (he : eC c fl u v) : (rdI c fl a i).testBit v = true := by
  rw [← h]
  show (rsI c fl (rdI c fl a i) (c 20 1)).testBit v = true
  have h1 : (rsI c fl (rdI c fl a i) u).testBit u = true := rsI_mono (k := 0) (Nat.zero_le u) hu
  refine rsI_mono (k := u + 1) he.1 ?_
  rw [rsI, if_pos h1, Nat.testBit_or, (rsE_bit he.1).mpr he, Bool.or_true]
theorem rdI_const {c : Nat → Nat → Nat} {fl a i : Nat} (h : rdI c fl a (i + 1) = rdI c fl a i) : ∀ k, rdI c fl a (i + k) = rdI c fl a i
  | 0 => rfl
  | k + 1 => by
    have ih := rdI_const h k
    show rsI c fl (rdI c fl a (i + k)) (c 20 1) = _
    rw [ih]
    exact h
/-- what the class's rounds find -/
theorem reach_fin {c : Nat → Nat → Nat} {fl a b i : Nat} (h7 : ∀ u, c 7 u < 2 ^ c 20 1) (h8 : ∀ u, c 8 u < 2 ^ c 20 1) (ha : a < c 20 1) (hi : c 20 1 < i ∨ rdI c fl a i = rdB c fl a i) : (rdI c fl a i).testBit b = true ↔ Rch (eC c fl) a b := by
  have hcl : ∃ j, rdI c fl a (j + 1) = rdI c fl a j ∧ rdI c fl a i = rdI c fl a j := by
    rcases hi with hi | hi
    · obtain ⟨t, ht, hs⟩ := grow_still (S := fun t v => (rdI c fl a t).testBit v = true) ha (by simp [rdI]) (fun t v hv => rsI_mono (k := 0) (Nat.zero_le _) hv)
        (fun t v hv => by
          apply Classical.byContradiction
          intro hn
          have h1 := rdI_lt (fl := fl) h7 h8 ha t
          have h2 := Nat.testBit_lt_two_pow (Nat.lt_of_lt_of_le h1 (Nat.pow_le_pow_right (by decide) (Nat.not_lt.mp hn)))
          rw [h2] at hv
          cases hv)
      have e : rdI c fl a (t + 1) = rdI c fl a t := by
        apply Nat.eq_of_testBit_eq
        intro v
        cases h1 : (rdI c fl a t).testBit v
        · cases h2 : (rdI c fl a (t + 1)).testBit v
          · rfl
          · rw [hs v h2] at h1; cases h1
        · exact rsI_mono (k := 0) (Nat.zero_le _) h1
      refine ⟨t, e, ?_⟩
      have := rdI_const e (i - t)
      rwa [show t + (i - t) = i by omega] at this
    · cases i with
      | zero =>
        have : (2 : Nat) ^ a = 0 := hi
        exact absurd this (Nat.ne_of_gt (Nat.two_pow_pos a))
      | succ j => exact ⟨j, hi, hi⟩
  obtain ⟨j, h1, h2⟩ := hcl
  constructor
  · exact rdI_sound i b
  · intro h
    rw [h2]
    refine h (fun v => (rdI c fl a j).testBit v = true) ?_ (fun u v hu he => rdI_closed h1 hu he)
    have : ∀ k, (rdI c fl a k).testBit a = true := by
      intro k
      induction k with
      | zero => simp [rdI]
      | succ k ih => exact rsI_mono (k := 0) (Nat.zero_le _) ih
    exact this j
end
section
/-! THE CLASS'S STATE: bounds that always hold, and the steps of a tick -/
def UB (c : Nat → Nat → Nat) (u : Nat) : Prop := c 1 u ≤ 100 ∧ c 2 u ≤ 3 ∧ 1 ≤ c 3 u ∧ c 3 u ≤ 100 ∧ c 4 u ≤ 10 ∧ c 5 u ≤ 1 ∧ c 9 u ≤ 4 ∧ c 10 u ≤ 100 ∧ (c 9 u = 1 → c 10 u ≤ 99) ∧ c 11 u ≤ 3 ∧ c 12 u ≤ 100
def WB (c : Nat → Nat → Nat) : Prop := ∀ j, j < c 30 0 → c 31 j < c 20 1 ∧ c 32 j < c 20 1 ∧ 1 ≤ c 33 j ∧ c 33 j ≤ 100
def IC (c : Nat → Nat → Nat) : Prop := BC c ∧ c 20 1 ≤ 20 ∧ (∀ u, c 6 u ≤ c 20 1) ∧ (∀ u, c 7 u < 2 ^ c 20 1) ∧ (∀ u, c 8 u < 2 ^ c 20 1) ∧ (∀ u, UB c u) ∧ (c 20 3 ≤ 1 ∧ c 20 4 ≤ 20 ∧ c 20 5 ≤ 2000 ∧ c 20 6 ≤ 2000000) ∧ WB c ∧ (c 30 0 ≤ c 36 0 ∧ c 36 0 ≤ 2 * c 30 0 + 10)
theorem IC_B {c : Nat → Nat → Nat} (h : IC c) : BC c := h.1
theorem IC_n {c : Nat → Nat → Nat} (h : IC c) : c 20 1 ≤ 20 := h.2.1
theorem IC_s {c : Nat → Nat → Nat} (h : IC c) : ∀ u, c 6 u ≤ 20 := fun u => Nat.le_trans (h.2.2.1 u) h.2.1
theorem IC_7 {c : Nat → Nat → Nat} (h : IC c) : ∀ u, c 7 u < 2 ^ c 20 1 := h.2.2.2.1
theorem IC_8 {c : Nat → Nat → Nat} (h : IC c) : ∀ u, c 8 u < 2 ^ c 20 1 := h.2.2.2.2.1
theorem p20 {x n : Nat} (h : x < 2 ^ n) (hn : n ≤ 20) : x < 2 ^ 20 := Nat.lt_of_lt_of_le h (Nat.pow_le_pow_right (by decide) hn)
theorem IC_U {c : Nat → Nat → Nat} (h : IC c) : ∀ u, UB c u := h.2.2.2.2.2.1
theorem IC_o {c : Nat → Nat → Nat} (h : IC c) : c 20 3 ≤ 1 ∧ c 20 4 ≤ 20 ∧ c 20 5 ≤ 2000 ∧ c 20 6 ≤ 2000000 := h.2.2.2.2.2.2.1
theorem IC_W {c : Nat → Nat → Nat} (h : IC c) : WB c := h.2.2.2.2.2.2.2.1
theorem IC_L {c : Nat → Nat → Nat} (h : IC c) : c 30 0 ≤ c 36 0 ∧ c 36 0 ≤ 2 * c 30 0 + 10 := h.2.2.2.2.2.2.2.2
/-- columns of a unit that a start writes -/
def uc (a : Nat) : Prop := 1 ≤ a ∧ a ≤ 12 ∧ a ≠ 6 ∧ a ≠ 7 ∧ a ≠ 8
theorem IC_unit {c c' : Nat → Nat → Nat} {u : Nat} (h : IC c) (hk : ∀ a i, ¬ (uc a ∧ i = u) → c' a i = c a i) (hU : UB c' u) : IC c' := by
  have k0 : ∀ a i, (a = 6 ∨ a = 7 ∨ a = 8 ∨ 12 < a) → c' a i = c a i := fun a i ha => hk a i (fun z => by obtain ⟨⟨_, _, _, _, _⟩, _⟩ := z; omega)
  obtain ⟨h1, h2, h3, h4, h5, h6, h7, h8, h9⟩ := h
  refine ⟨?_, by rw [k0 20 1 (by omega)]; exact h2, fun w => by rw [k0 6 w (by omega), k0 20 1 (by omega)]; exact h3 w, fun w => by rw [k0 7 w (by omega), k0 20 1 (by omega)]; exact h4 w, fun w => by rw [k0 8 w (by omega), k0 20 1 (by omega)]; exact h5 w, ?_, by rw [k0 20 3 (by omega), k0 20 4 (by omega), k0 20 5 (by omega), k0 20 6 (by omega)]; exact h7, ?_, by rw [k0 30 0 (by omega), k0 36 0 (by omega)]; exact h9⟩
  · intro a i ha
    by_cases hz : uc a ∧ i = u
    · obtain ⟨⟨z1, z2, z3, z4, z5⟩, z6⟩ := hz
      subst z6
      obtain ⟨u1, u2, u3, u4, u5, u6, u7, u8, u9, u10, u11⟩ := hU
      have : a = 1 ∨ a = 2 ∨ a = 3 ∨ a = 4 ∨ a = 5 ∨ a = 9 ∨ a = 10 ∨ a = 11 ∨ a = 12 := by omega
      rcases this with e | e | e | e | e | e | e | e | e <;> subst e <;> omega
    · rw [hk a i hz]; exact h1 a i ha
  · intro w
    by_cases hw : w = u
    · subst hw; exact hU
    · have k1 : ∀ a, c' a w = c a w := fun a => hk a w (fun z => hw z.2)
      unfold UB
      simp only [k1]
      exact h6 w
  · intro j hj
    rw [k0 30 0 (by omega)] at hj
    rw [k0 31 j (by omega), k0 32 j (by omega), k0 33 j (by omega), k0 20 1 (by omega)]
    exact h8 j hj
def c_end1 (c : Nat → Nat → Nat) (u : Nat) : Nat → Nat → Nat :=
  if c 9 u = 1 then (if c 10 u + 1 < c 1 u then up2 c 10 u (c 10 u + 1) else c_come (up2 c 10 u (c 10 u + 1)) u) else c
def c_endI (c : Nat → Nat → Nat) : Nat → Nat → Nat → Nat
  | 0 => c
  | k + 1 => c_end1 (c_endI c k) k
noncomputable def c_fail1 (c : Nat → Nat → Nat) (u : Nat) : Nat → Nat → Nat :=
  if c 9 u = 0 ∧ c 7 u &&& mk (lostP (c 9) (c 6)) (c 20 1) ≠ 0 then up2 c 9 u 3 else c
noncomputable def c_failI (c : Nat → Nat → Nat) : Nat → Nat → Nat → Nat
  | 0 => c
  | k + 1 => c_fail1 (c_failI c k) k
/-- how many are STARTING -/
noncomputable def c_cnt (c : Nat → Nat → Nat) : Nat := ct (fun w => c 9 w = 1) (c 20 1)
noncomputable def c_st1 (met dn : Nat) (c : Nat → Nat → Nat) (u : Nat) : Nat → Nat → Nat :=
  if c_cnt c < c 20 4 ∧ c 9 u = 0 ∧ anN (c 7 u) met = 0 ∧ anN (c 8 u) dn = 0 then up2 (up2 c 9 u 1) 10 u 0 else c
noncomputable def c_stI (met dn : Nat) (c : Nat → Nat → Nat) : Nat → Nat → Nat → Nat
  | 0 => c
  | k + 1 => c_st1 met dn (c_stI met dn c k) k
noncomputable def c_start (c : Nat → Nat → Nat) : Nat → Nat → Nat := c_stI (mk (metP (c 9) (c 6)) (c 20 1)) (mk (doneP (c 9)) (c 20 1)) c (c 20 1)
def c_bar (c : Nat → Nat → Nat) : Nat → Nat → Nat := up2 c 20 6 (max (c 20 6) (if c 20 3 ≠ 0 ∧ 0 < c 20 5 then 1000 * sm (c_part c) (c 20 1) / c 20 5 else 1000))
noncomputable def c_go (c : Nat → Nat → Nat) : Nat → Nat → Nat := up2 (c_start c) 20 3 (bN (0 < c_cnt (c_start c)))
noncomputable def c_tick1 (c : Nat → Nat → Nat) : Nat → Nat → Nat := c_bar (c_go (c_failI (c_endI c (c 20 1)) (c_endI c (c 20 1) 20 1)))
theorem up_off {c : Nat → Nat → Nat} {a i v b j : Nat} (h : ¬ (b = a ∧ j = i)) : up2 c a i v b j = c b j := by simp [up2, h]
/-- c' is c but for the start's columns of u -/
def Offu (c c' : Nat → Nat → Nat) (u : Nat) : Prop := ∀ a i, ¬ (uc a ∧ i = u) → c' a i = c a i
theorem Off_up {c c' : Nat → Nat → Nat} {u a v : Nat} (h : Offu c c' u) (ha : uc a) : Offu c (up2 c' a u v) u := fun b j hb => by
  have hz : ¬ (b = a ∧ j = u) := fun z => hb ⟨by rw [z.1]; exact ha, z.2⟩
  rw [up_off hz]
  exact h b j hb
theorem Off_r {c : Nat → Nat → Nat} {u : Nat} : Offu c c u := fun _ _ _ => rfl
theorem Off_come {c c' : Nat → Nat → Nat} {u : Nat} (h : Offu c c' u) : Offu c (c_come c' u) u := by
  unfold c_come
  split
  · exact Off_up (Off_up h ⟨by decide, by decide, by decide, by decide, by decide⟩) ⟨by decide, by decide, by decide, by decide, by decide⟩
  · split
    · exact Off_up (Off_up (Off_up h ⟨by decide, by decide, by decide, by decide, by decide⟩) ⟨by decide, by decide, by decide, by decide, by decide⟩) ⟨by decide, by decide, by decide, by decide, by decide⟩
    · exact Off_up (Off_up h ⟨by decide, by decide, by decide, by decide, by decide⟩) ⟨by decide, by decide, by decide, by decide, by decide⟩
theorem Off_end1 (c : Nat → Nat → Nat) (u : Nat) : Offu c (c_end1 c u) u := by
  unfold c_end1
  split
  · split
    · exact Off_up Off_r ⟨by decide, by decide, by decide, by decide, by decide⟩
    · exact Off_come (Off_up Off_r ⟨by decide, by decide, by decide, by decide, by decide⟩)
  · exact Off_r
theorem Off_fail1 (c : Nat → Nat → Nat) (u : Nat) : Offu c (c_fail1 c u) u := by
  unfold c_fail1
  split
  · exact Off_up Off_r ⟨by decide, by decide, by decide, by decide, by decide⟩
  · exact Off_r
theorem Off_st1 (met dn : Nat) (c : Nat → Nat → Nat) (u : Nat) : Offu c (c_st1 met dn c u) u := by
  unfold c_st1
  split
  · exact Off_up (Off_up Off_r ⟨by decide, by decide, by decide, by decide, by decide⟩) ⟨by decide, by decide, by decide, by decide, by decide⟩
  · exact Off_r
theorem UB_come {c : Nat → Nat → Nat} {u : Nat} (h : UB c u ∨ (c 1 u ≤ 100 ∧ c 2 u ≤ 3 ∧ 1 ≤ c 3 u ∧ c 3 u ≤ 100 ∧ c 4 u ≤ 10 ∧ c 5 u ≤ 1 ∧ c 10 u ≤ 100 ∧ c 11 u ≤ 3 ∧ c 12 u ≤ 100)) : UB (c_come c u) u := by
  have h : c 1 u ≤ 100 ∧ c 2 u ≤ 3 ∧ 1 ≤ c 3 u ∧ c 3 u ≤ 100 ∧ c 4 u ≤ 10 ∧ c 5 u ≤ 1 ∧ c 10 u ≤ 100 ∧ c 11 u ≤ 3 ∧ c 12 u ≤ 100 := by
    rcases h with h | h
    · obtain ⟨u1, u2, u3, u4, u5, u6, u7, u8, u9, u10, u11⟩ := h
      exact ⟨u1, u2, u3, u4, u5, u6, u8, u10, u11⟩
    · exact h
  obtain ⟨u1, u2, u3, u4, u5, u6, u8, u10, u11⟩ := h
  unfold c_come UB
  split
  · simp [up2]; omega
  · split
    · simp [up2]; omega
    · simp [up2]; omega
theorem IC_end1 {c : Nat → Nat → Nat} (h : IC c) (u : Nat) : IC (c_end1 c u) := by
  refine IC_unit h (Off_end1 c u) ?_
  have hu := IC_U h u
  obtain ⟨u1, u2, u3, u4, u5, u6, u7, u8, u9, u10, u11⟩ := id hu
  unfold c_end1
  split
  · rename_i h1
    have h9 := u9 h1
    split
    · unfold UB; simp [up2]; omega
    · refine UB_come (Or.inr ?_)
      simp [up2]; omega
  · exact hu
theorem IC_endI {c : Nat → Nat → Nat} (h : IC c) : ∀ k, IC (c_endI c k)
  | 0 => h
  | k + 1 => IC_end1 (IC_endI h k) k
theorem IC_fail1 {c : Nat → Nat → Nat} (h : IC c) (u : Nat) : IC (c_fail1 c u) := by
  refine IC_unit h (Off_fail1 c u) ?_
  have hu := IC_U h u
  obtain ⟨u1, u2, u3, u4, u5, u6, u7, u8, u9, u10, u11⟩ := id hu
  unfold c_fail1
  split
  · unfold UB; simp [up2]; omega
  · exact hu
theorem IC_failI {c : Nat → Nat → Nat} (h : IC c) : ∀ k, IC (c_failI c k)
  | 0 => h
  | k + 1 => IC_fail1 (IC_failI h k) k
theorem IC_st1 {met dn : Nat} {c : Nat → Nat → Nat} (h : IC c) (u : Nat) : IC (c_st1 met dn c u) := by
  refine IC_unit h (Off_st1 met dn c u) ?_
  have hu := IC_U h u
  obtain ⟨u1, u2, u3, u4, u5, u6, u7, u8, u9, u10, u11⟩ := id hu
  unfold c_st1
  split
  · unfold UB; simp [up2]; omega
  · exact hu
theorem IC_stI {met dn : Nat} {c : Nat → Nat → Nat} (h : IC c) : ∀ k, IC (c_stI met dn c k)
  | 0 => h
  | k + 1 => IC_st1 (IC_stI h k) k
theorem IC_start {c : Nat → Nat → Nat} (h : IC c) : IC (c_start c) := IC_stI h _
theorem Off_n {c c' : Nat → Nat → Nat} {u : Nat} (h : Offu c c' u) (a i : Nat) (ha : a = 6 ∨ a = 7 ∨ a = 8 ∨ 12 < a) : c' a i = c a i := h a i (fun z => by obtain ⟨⟨_, _, _, _, _⟩, _⟩ := z; omega)
theorem endI_n (c : Nat → Nat → Nat) (a i : Nat) (ha : a = 6 ∨ a = 7 ∨ a = 8 ∨ 12 < a) : ∀ k, c_endI c k a i = c a i
  | 0 => rfl
  | k + 1 => (Off_n (Off_end1 _ k) a i ha).trans (endI_n c a i ha k)
theorem failI_n (c : Nat → Nat → Nat) (a i : Nat) (ha : a = 6 ∨ a = 7 ∨ a = 8 ∨ 12 < a) : ∀ k, c_failI c k a i = c a i
  | 0 => rfl
  | k + 1 => (Off_n (Off_fail1 _ k) a i ha).trans (failI_n c a i ha k)
theorem stI_n (met dn : Nat) (c : Nat → Nat → Nat) (a i : Nat) (ha : a = 6 ∨ a = 7 ∨ a = 8 ∨ 12 < a) : ∀ k, c_stI met dn c k a i = c a i
  | 0 => rfl
  | k + 1 => (Off_n (Off_st1 met dn _ k) a i ha).trans (stI_n met dn c a i ha k)
/-- a full bound stays full -/
theorem stI_stay {met dn : Nat} {c : Nat → Nat → Nat} {i : Nat} (h : c 20 4 ≤ c_cnt (c_stI met dn c i)) : ∀ k, c_stI met dn c (i + k) = c_stI met dn c i
  | 0 => rfl
  | k + 1 => by
    have ih := stI_stay h k
    show c_st1 met dn (c_stI met dn c (i + k)) (i + k) = _
    rw [ih]
    unfold c_st1
    rw [if_neg]
    rintro ⟨z, -⟩
    rw [stI_n met dn c 20 4 (by omega)] at z
    omega
theorem cnt_up {c : Nat → Nat → Nat} {u : Nat} (hu : u < c 20 1) (h : c 9 u = 0) : c_cnt (up2 (up2 c 9 u 1) 10 u 0) = c_cnt c + 1 := by
  unfold c_cnt
  have e : up2 (up2 c 9 u 1) 10 u 0 20 1 = c 20 1 := by simp [up2]
  rw [e]
  exact ct_one (u := u) (by omega) (by simp [up2]) hu (fun i _ hi => by simp [up2, hi])
theorem IC_obj {c : Nat → Nat → Nat} {k v : Nat} (h : IC c) (hk : k = 3 ∧ v ≤ 1 ∨ k = 4 ∧ v ≤ 20 ∨ k = 5 ∧ v ≤ 2000 ∨ k = 6 ∧ v ≤ 2000000) : IC (up2 c 20 k v) := by
  obtain ⟨h1, h2, h3, h4, h5, h6, h7, h8, h9⟩ := h
  have k1 : up2 c 20 k v 20 1 = c 20 1 := up2_i (by omega)
  refine ⟨?_, by rw [k1]; exact h2, fun w => by rw [k1]; exact h3 w, fun w => by rw [k1]; exact h4 w, fun w => by rw [k1]; exact h5 w, h6, ?_, fun j hj => by rw [k1]; exact h8 j hj, h9⟩
  · intro a i ha
    by_cases hz : a = 20 ∧ i = k
    · rw [hz.1, hz.2, up2_s]; omega
    · rw [up_off hz]; exact h1 a i ha
  · rcases hk with ⟨e, hv⟩ | ⟨e, hv⟩ | ⟨e, hv⟩ | ⟨e, hv⟩ <;> subst e <;> simp [up2] <;> omega
theorem BC_up {c : Nat → Nat → Nat} {a i v : Nat} (h : BC c) (hv : v < 2 ^ 31) : BC (up2 c a i v) := fun b j hb => by
  by_cases hz : b = a ∧ j = i
  · rw [hz.1, hz.2, up2_s]; exact hv
  · rw [up_off hz]; exact h b j hb
theorem part1_le {c : Nat → Nat → Nat} (h : IC c) (u : Nat) : c_part c u ≤ 100 := by
  obtain ⟨u1, u2, u3, u4, u5, u6, u7, u8, u9, u10, u11⟩ := IC_U h u
  unfold c_part
  split
  · exact u11
  · split
    · exact Nat.le_trans (Nat.min_le_right _ _) u11
    · exact Nat.zero_le _
theorem part_le {c : Nat → Nat → Nat} (h : IC c) : sm (c_part c) (c 20 1) ≤ 2000 := by
  have h1 := sm_le (f := c_part c) (k := 100) (n := c 20 1) (fun i _ => part1_le h i)
  have h2 := IC_n h
  omega
theorem IC_failw {c : Nat → Nat → Nat} {u : Nat} (h : IC c) (h0 : c 9 u = 0) (h1 : 0 < c 7 u &&& mk (lostP (c 9) (c 6)) (c 20 1)) : IC (up2 c 9 u 3) := by
  have h9 := IC_fail1 h u
  unfold c_fail1 at h9
  rw [if_pos ⟨h0, Nat.ne_of_gt h1⟩] at h9
  exact h9
theorem IC_bar {c : Nat → Nat → Nat} (h : IC c) : IC (c_bar c) := by
  refine IC_obj h (Or.inr (Or.inr (Or.inr ⟨rfl, ?_⟩)))
  have h1 := part_le h
  have h2 := (IC_o h).2.2.2
  have h3 : 1000 * sm (c_part c) (c 20 1) / c 20 5 ≤ 2000000 := Nat.le_trans (Nat.div_le_self _ _) (by omega)
  refine Nat.max_le.mpr ⟨h2, ?_⟩
  split
  · exact h3
  · decide
theorem IC_tick1 {c : Nat → Nat → Nat} (h : IC c) : IC (c_tick1 c) := IC_bar (IC_obj (IC_start (IC_failI (IC_endI h _) _)) (Or.inl ⟨rfl, bN_le _⟩))
noncomputable def c_tkI (c : Nat → Nat → Nat) : Nat → Nat → Nat → Nat
  | 0 => c
  | k + 1 => c_tick1 (c_tkI c k)
theorem IC_tkI {c : Nat → Nat → Nat} (h : IC c) : ∀ k, IC (c_tkI c k)
  | 0 => h
  | k + 1 => IC_tick1 (IC_tkI h k)
/-- the first place of P below n, and 1; 0 without one -/
noncomputable def fP (P : Nat → Prop) : Nat → Nat
  | 0 => 0
  | n + 1 => if fP P n = 0 then bN (P n) * (n + 1) else fP P n
theorem fP_stay {P : Nat → Prop} {i : Nat} (h : fP P i ≠ 0) : ∀ k, fP P (i + k) = fP P i
  | 0 => rfl
  | k + 1 => by
    have ih := fP_stay h k
    show (if fP P (i + k) = 0 then bN (P (i + k)) * (i + k + 1) else fP P (i + k)) = _
    rw [if_neg (by rw [ih]; exact h), ih]
theorem fP_hit {P : Nat → Prop} {i n : Nat} (h : fP P i = 0) (hp : P i) (hi : i < n) : fP P n = i + 1 := by
  have h1 : fP P (i + 1) = i + 1 := by rw [fP, if_pos h, bN_t hp, Nat.one_mul]
  have h2 := fP_stay (P := P) (i := i + 1) (by rw [h1]; exact Nat.succ_ne_zero i) (n - (i + 1))
  rw [show i + 1 + (n - (i + 1)) = n by omega, h1] at h2
  exact h2
theorem fP_miss {P : Nat → Prop} {i : Nat} (h : fP P i = 0) (hp : ¬ P i) : fP P (i + 1) = 0 := by rw [fP, if_pos h, bN_f hp, Nat.zero_mul]
theorem siI_s (w : Nat) : siI (w + 1) = nI w := nI_pred w
theorem siI_0 : siI 0 = -1 := by decide
end
section
/-! WHAT CAN RUN, AND WHAT IS AWAITED, as the class finds them -/
noncomputable def keepS (c : Nat → Nat → Nat) (f : Nat) : Nat := mk (fun u => f.testBit u = true ∧ anN (c 7 u) (f ||| mk (fun w => c 6 w ≠ 0 ∧ f.testBit (c 6 w - 1) = true) (c 20 1)) = 0) (c 20 1)
noncomputable def kpI (c : Nat → Nat → Nat) : Nat → Nat
  | 0 => mk (fun w => c 5 w = 0 ∧ c 4 w ≤ c 2 w) (c 20 1)
  | i + 1 => keepS c (kpI c i)
noncomputable def kpB (c : Nat → Nat → Nat) : Nat → Nat
  | 0 => 0
  | i + 1 => kpI c i
noncomputable def canC (c : Nat → Nat → Nat) : Nat := kpI c (c 20 1 + 1)
theorem kpI_lt {c : Nat → Nat → Nat} (hn : c 20 1 ≤ 20) : ∀ i, kpI c i < 2 ^ 20
  | 0 => p20 (mk_lt _) hn
  | _ + 1 => p20 (mk_lt _) hn
theorem kpB_lt {c : Nat → Nat → Nat} (hn : c 20 1 ≤ 20) : ∀ i, kpB c i < 2 ^ 20
  | 0 => (by decide : (0 : Nat) < 2 ^ 20)
  | i + 1 => kpI_lt hn i
theorem keepS_0 (c : Nat → Nat → Nat) : keepS c 0 = 0 := by
  apply Nat.eq_of_testBit_eq
  intro i
  rw [Nat.zero_testBit]
  cases h : (keepS c 0).testBit i
  · rfl
  · have h1 := (mk_bit.mp h).2.1
    rw [Nat.zero_testBit] at h1
    cases h1
theorem keepS_sub {c : Nat → Nat → Nat} {f v : Nat} (h : (keepS c f).testBit v = true) : f.testBit v = true := (mk_bit.mp h).2.1
theorem kpI_const {c : Nat → Nat → Nat} {i : Nat} (h : keepS c (kpI c i) = kpI c i) : ∀ k, kpI c (i + k) = kpI c i
  | 0 => rfl
  | k + 1 => by
    show keepS c (kpI c (i + k)) = _
    rw [kpI_const h k]
    exact h
theorem canC_still (c : Nat → Nat → Nat) : keepS c (canC c) = canC c := by
  have h1 := grow_still (S := fun t v => v < c 20 1 + 1 ∧ (v = c 20 1 ∨ ¬ (kpI c t).testBit v = true)) (n := c 20 1 + 1) (a := c 20 1) (by omega) ⟨by omega, Or.inl rfl⟩
    (fun t v h => ⟨h.1, h.2.elim Or.inl (fun z => Or.inr (fun z2 => z (keepS_sub z2)))⟩) (fun t v h => h.1)
  obtain ⟨t, ht, hs⟩ := h1
  have e : keepS c (kpI c t) = kpI c t := by
    apply Nat.eq_of_testBit_eq
    intro v
    cases h2 : (kpI c t).testBit v
    · cases h3 : (keepS c (kpI c t)).testBit v
      · rfl
      · rw [keepS_sub h3] at h2; cases h2
    · have hv : v < c 20 1 := by
        cases t with
        | zero => exact (mk_bit.mp h2).1
        | succ t => exact (mk_bit.mp h2).1
      cases h3 : (keepS c (kpI c t)).testBit v
      · have h4 := hs v ⟨by omega, Or.inr (fun z => by rw [show kpI c (t + 1) = keepS c (kpI c t) from rfl, h3] at z; cases z)⟩
        rcases h4.2 with z | z
        · omega
        · exact absurd h2 z
      · rfl
  have h5 := kpI_const e (c 20 1 + 1 - t)
  rw [show t + (c 20 1 + 1 - t) = c 20 1 + 1 by omega] at h5
  show keepS c (kpI c (c 20 1 + 1)) = kpI c (c 20 1 + 1)
  rw [h5]
  exact e
theorem canC_fin {c : Nat → Nat → Nat} {i : Nat} (h : c 20 1 < i ∨ kpI c i = kpB c i) : kpI c i = canC c := by
  rcases h with h | h
  · have e := kpI_const (c := c) (i := c 20 1 + 1) (canC_still c) (i - (c 20 1 + 1))
    rw [show c 20 1 + 1 + (i - (c 20 1 + 1)) = i by omega] at e
    exact e
  · have e : keepS c (kpI c i) = kpI c i := by
      cases i with
      | zero => rw [h]; exact keepS_0 c
      | succ j =>
        have h2 : keepS c (kpI c j) = kpI c j := h
        show keepS c (keepS c (kpI c j)) = keepS c (kpI c j)
        rw [h2, h2]
    rcases Nat.le_total i (c 20 1 + 1) with hl | hl
    · have e2 := kpI_const e (c 20 1 + 1 - i)
      rw [show i + (c 20 1 + 1 - i) = c 20 1 + 1 by omega] at e2
      exact e2.symm
    · have e2 := kpI_const (c := c) (i := c 20 1 + 1) (canC_still c) (i - (c 20 1 + 1))
      rw [show c 20 1 + 1 + (i - (c 20 1 + 1)) = i by omega] at e2
      exact e2
/-- u waits for v -/
def awC (c : Nat → Nat → Nat) (u v : Nat) : Prop := ((c 7 u).testBit v = true ∧ ¬ metP (c 9) (c 6) v ∧ ¬ lostP (c 9) (c 6) v) ∨ ((c 8 u).testBit v = true ∧ ¬ doneP (c 9) v)
end
section
/-! METHODS THAT THROW -/
abbrev exN : List String := ["java/lang/RuntimeException", "java/lang/Exception"]
abbrev exB (cls : String) : List Cond := [.declares (Bundle.initS "java/lang/RuntimeException"), .declares (Bundle.initS "java/lang/Exception"), .declares (Bundle.initS Bundle.tN), .castable cls cls]
/-- what a throw leaves: the class by its name as PX has it, the world as it was -/
def xw (D : va_G) (G : Nat → Nat) (h0 : Nat) (c r : Nat → Nat → Nat) (o : Nat) (PX : String → Prop) : String → State → State → Prop := vx_X (fun _ : Unit => True) (fun E _ t => PX E ∧ Wr D G h0 c r o t) (fun q => h0 ≤ q)
section XR
variable {p : Program} {l : Launch} {e : Env} {R : Room} {s : State} {m : MethodId} {args : Array Value} {below : List Frame} {meth : Method} {cd : Code} {H : Heap} {locs : List Loc} {cells slots : Nat} {Q : State → Prop}
variable {cc : ByteArray} {pc : Nat} {ls : Array Slot} {rest : List Value}
variable {D : va_G} {G : Nat → Nat} {h0 : Nat} {c r : Nat → Nat → Nat} {o : Nat} {wl : va_W} {Qc : Array Value → State → Outcome → State → Prop} {mc ms : Nat}
theorem x_throw (hexec : p.tables.exec = Jvm.exec) (hb : cd.code = cc) (hl : l.stackTraces = false) {cls text : String} {ik is ic sa : Nat} (hown : s.vm.findClass RX2 = some m.cls) (hcls : Bundle.fit cls = true)
    (hk : (Cond.classLink RX2 ik cls).before args s = true) (hini : (Cond.initialized cls).before args s = true) (hstr : vk_R RX2 is text sa s)
    (hgw : ∀ w ∈ (vx_atS RX2 ic cls exN).filter goodWord, w.before args s = true) (hbw : ∀ w ∈ (vx_atS RX2 ic cls exN).filter (fun w => !goodWord w), w ∈ exB cls)
    (hgood : ∀ w ∈ Cond.classLink RX2 ik cls :: Cond.initialized cls :: vx_atS RX2 ic cls exN, vx_ot w = true)
    (hE : Ev D G h0 s) (hca : va_Nw (.castable cls cls) s) (hS : va_S (fun q => h0 ≤ q) s.heap H locs) (hsize : ls.size = cd.maxLocals)
    (d0 : decode cc pc = .ok (.new ik, 3)) (d3 : decode cc (pc + 3) = .ok (.dup, 1)) (d4 : decode cc (pc + 4) = .ok (.ldc is, 2)) (d6 : decode cc (pc + 6) = .ok (.invokespecial ic, 3)) (d9 : decode cc (pc + 9) = .ok (.athrow, 1))
    (hout : ∀ x ∈ cd.exceptionTable.toList, False) (hlocks : meth.locks = false) (hRf : 5 < R.frames) (hRl : (rest.map fun v => v.category).sum + 82 ≤ R.locals) (hRc1 : cells + 1 ≤ R.cells) (hRs : slots + 6 ≤ R.slots)
    (hRc : Rc G c wl) (hRr : Rr G r wl) (hRo : Ro G o wl) (hP : va_P D vwCl wl H) (hD : va_D (fun q => h0 ≤ q) wl) {PX : String → Prop} (hpx : PX cls) (hc : cells + 1 ≤ mc) (hs : slots + 6 ≤ ms) :
    W p l e R s m args below meth cd H locs cells slots (vx_MQ below Qc (xw D G h0 c r o PX) args s mc ms (fun q => h0 ≤ q)) (F0 m pc ls rest) := by
  obtain ⟨z1, z2, -, ⟨w1, w2, w3, -⟩, -⟩ := hE.2.2.1
  have hat : ∀ w ∈ vx_atS RX2 ic cls exN, w.before args s = true := vx_hat hgw hbw (vx_c (va_Nw.use rfl w1) (vx_c (va_Nw.use rfl w2) (vx_c (va_Nw.use rfl w3) (vx_c (va_Nw.use rfl hca) vx_n))))
  exact vx_throwS (A := fun q => h0 ≤ q) hexec hb hl hown hcls (by decide +kernel) hk hini hstr hat hgood z1 z2 hS hsize d0 d3 d4 d6 d9 (fun x hx => (hout x hx).elim) hRf hRl hRc1 hRs hlocks
    (fun t _ hz hq => ⟨(), trivial, ⟨hpx, wl, hRc, hRr, hRo, hP.kept (fun k q hkq => hq q.1 (hP k q hkq).lt), hD⟩, Nat.le_trans hS.1 hz, fun q h1 h2 => (hq q (Nat.lt_of_lt_of_le h1 hS.1)).trans (hS.2.1 q h1 h2)⟩) hS.2.2 hc hs
variable {mcc msc : Nat} {st0 : List Value} {av : Array Value} {PX PXc : String → Prop}
theorem yx_out (hout : ∀ x ∈ cd.exceptionTable.toList, False) (hlocks : meth.locks = false) {E : String} {ce : Cell} {q9 : Addr} {t : State} {H1 : Heap} {locs1 : List Loc} (ht : t.heap = H1) (hB : PX E ∧ Wr D G h0 c r o t) (hS1 : va_S (fun q => h0 ≤ q) s.heap H1 locs1) (hce : H1[q9]? = some ce) (hcv : ce.vm = .none) (hcl : s.vm.findClass E = some ce.cls) (hpx : ∀ E, PX E → PXc E) (hc : cells ≤ mc) (hs : slots ≤ ms) :
    vx_W p l e R s m args below meth cd H1 locs1 cells slots (vx_MQ below Qc (xw D G h0 c r o PXc) args s mc ms (fun q => h0 ≤ q)) (F0 m pc ls rest) q9 :=
  vx_out (fun x hx => (hout x hx).elim) hlocks hce hcv hcl (fun t' ht' _ => ⟨(), trivial, ⟨hpx E hB.1, by
    obtain ⟨wl1, b1, b2, b3, b4, b5⟩ := hB.2
    rw [ht] at b4
    exact Wr_mk b1 b2 b3 b4 b5 ht'⟩, hS1.F ht'⟩) hS1.2.2 hc hs
theorem yx_callv {S : Type} {post : S → Prop} {cf rf : S → Nat → Nat → Nat} {of : S → Nat} (hr : vx_Run p l e R s m args below meth cd H locs cells slots mcc msc (F0 m pc ls st0) rest (va_Qv post (fun u t => Wr D G h0 (cf u) (rf u) (of u) t) (fun q => h0 ≤ q) av) (xw D G h0 c r o PX) (fun q => h0 ≤ q)) (hS : va_S (fun q => h0 ≤ q) s.heap H locs) (hout : ∀ x ∈ cd.exceptionTable.toList, False) (hlocks : meth.locks = false) (hpx : ∀ E, PX E → PXc E) (hc : cells + mcc ≤ mc) (hs : slots + msc ≤ ms)
    (kk : ∀ (u : S) (H1 : Heap) (locs1 : List Loc) (wl1 : va_W), post u → Rc G (cf u) wl1 → Rr G (rf u) wl1 → Ro G (of u) wl1 → va_P D vwCl wl1 H1 → va_D (fun q => h0 ≤ q) wl1 → va_S (fun q => h0 ≤ q) s.heap H1 locs1 → W p l e R s m args below meth cd H1 locs1 (cells + mcc) (slots + msc) (vx_MQ below Qc (xw D G h0 c r o PXc) args s mc ms (fun q => h0 ≤ q)) (F0 m (pc + 3) ls rest)) : W p l e R s m args below meth cd H locs cells slots (vx_MQ below Qc (xw D G h0 c r o PXc) args s mc ms (fun q => h0 ≤ q)) (F0 m pc ls st0) :=
  vx_callv hr hS (fun _ _ h => h) (fun _ h => h) (fun _ _ h => h) (fun E ce q9 u t H1 locs1 ht _ _ hB _ _ hS1 hce hcv hcl => yx_out hout hlocks ht hB hS1 hce hcv hcl hpx hc hs) (fun u t H1 locs1 ht _ hp hB _ _ hS1 => by
    obtain ⟨wl1, b1, b2, b3, b4, b5⟩ := hB
    rw [ht] at b4
    exact kk u H1 locs1 wl1 hp b1 b2 b3 b4 b5 hS1)
theorem yx_callr {S : Type} {post : S → Prop} {ad : S → Nat} {cf rf : S → Nat → Nat → Nat} {of : S → Nat} (hr : vx_Run p l e R s m args below meth cd H locs cells slots mcc msc (F0 m pc ls st0) rest (va_Qr post (fun u a t => a = ad u ∧ Wr D G h0 (cf u) (rf u) (of u) t) (fun q => h0 ≤ q) av) (xw D G h0 c r o PX) (fun q => h0 ≤ q)) (hS : va_S (fun q => h0 ≤ q) s.heap H locs) (hout : ∀ x ∈ cd.exceptionTable.toList, False) (hlocks : meth.locks = false) (hpx : ∀ E, PX E → PXc E) (hc : cells + mcc ≤ mc) (hs : slots + msc ≤ ms)
    (kk : ∀ (u : S) (H1 : Heap) (locs1 : List Loc) (wl1 : va_W), post u → Rc G (cf u) wl1 → Rr G (rf u) wl1 → Ro G (of u) wl1 → va_P D vwCl wl1 H1 → va_D (fun q => h0 ≤ q) wl1 → va_S (fun q => h0 ≤ q) s.heap H1 locs1 → W p l e R s m args below meth cd H1 locs1 (cells + mcc) (slots + msc) (vx_MQ below Qc (xw D G h0 c r o PXc) args s mc ms (fun q => h0 ≤ q)) (F0 m (pc + 3) ls (.ref (ad u) :: rest))) : W p l e R s m args below meth cd H locs cells slots (vx_MQ below Qc (xw D G h0 c r o PXc) args s mc ms (fun q => h0 ≤ q)) (F0 m pc ls st0) := by
  intro T hT X
  rcases hr T hT X with ⟨v, st₀, t, T', L, h9, X', hL, e1, e2, ⟨⟨u, a, hv, hp, ha, hB⟩, hF⟩, st⟩ | ⟨q, st₀, t, T', L, E, ce, h9, X', hL, e1, e2, ⟨u, hp, hB, hF⟩, hce, hcv, hcl, st⟩
  · cases hv
    subst ha
    obtain ⟨wl1, b1, b2, b3, b4, b5⟩ := hB
    rw [← e1] at b4
    obtain ⟨k1, k2, k3⟩ := vx_keep h9 e1 hS (fun _ _ h => h) (fun _ h => h) hL hF
    obtain ⟨t2, a1, q1⟩ := kk u T'.heap (locs ++ L) wl1 hp b1 b2 b3 b4 b5 k3 T' rfl X'
    exact ⟨t2, st t2 a1, q1⟩
  · obtain ⟨k1, k2, k3⟩ := vx_keep h9 e1 hS (fun _ _ h => h) (fun _ h => h) hL hF
    obtain ⟨t2, a1, q1⟩ := yx_out (Qc := Qc) (mc := mc) (ms := ms) (PXc := PXc) (pc := pc) (ls := ls) (rest := rest) hout hlocks e1.symm hB k3 (by rw [e1]; exact hce) hcv hcl hpx hc hs T' rfl X'
    exact ⟨t2, st.trans a1, q1⟩
end XR
def inR (x : Int32) (lo hi : Nat) : Prop := ¬ x < nI lo ∧ x ≤ nI hi
theorem inR_nI {x : Int32} {lo hi : Nat} (h : inR x lo hi) (h1 : lo < 2 ^ 31) (h2 : hi < 2 ^ 31) : ∃ t, (lo ≤ t ∧ t ≤ hi) ∧ x = nI t := by
  obtain ⟨a, b⟩ := h
  have a1 : (nI lo).toInt ≤ x.toInt := by
    rw [Int32.lt_iff_toInt_lt] at a
    omega
  rw [nI_toInt h1] at a1
  obtain ⟨j, hj, e⟩ := nI_of (x := x) (by rw [Int32.lt_iff_toInt_lt]; show ¬ x.toInt < 0; omega)
  subst e
  rw [nI_toInt hj] at a1
  exact ⟨j, ⟨by omega, (nI_leI hj h2).mp b⟩, rfl⟩
theorem inR_of {t lo hi : Nat} (h1 : lo ≤ t) (h2 : t ≤ hi) (h : hi < 2 ^ 31) : inR (nI t) lo hi := ⟨nI_nlt h1 (by omega), nI_le h2 h⟩
def okU (c : Nat → Nat → Nat) (x : Int32) : Prop := ∃ j, j < c 20 1 ∧ x = nI j
end
section
/-! THE LIST'S CELLS: what its writes do -/
theorem P_l0 {G : Nat → Nat} {c : Nat → Nat → Nat} {wl : va_W} (v : Nat) (h : Rc G c wl) : Rc G (up2 c 37 0 v) (wl.set 2 (G 2, .inr (0, (lF c).set 0 (.int (nI v))))) := by
  obtain ⟨a0, a1, a2, a3, a4, a5, a6, a7, a8⟩ := h
  refine ⟨by rw [ws_ne (by decide)]; exact a0, by rw [ws_ne (by decide)]; exact a1, by rw [ws_eq a2]; simp [lF, up2], fun u hu => by rw [ws_ne (by omega)]; exact a3 u hu, fun j hj => ?_, a5, a6, fun hc => ?_, fun hc => ?_⟩
  · obtain ⟨k, hk, hq⟩ := a4 j hj
    exact ⟨k, hk, by rw [ws_ne (by omega)]; exact hq⟩
  · obtain ⟨k, hk, hq⟩ := a7 hc
    exact ⟨k, hk, by rw [ws_ne (by omega)]; exact hq⟩
  · obtain ⟨k, hk, hq, hz⟩ := a8 hc
    exact ⟨k, hk, by rw [ws_ne (by omega)]; exact hq, hz⟩
/-- the object that is being made -/
theorem Q_x {G : Nat → Nat} {c : Nat → Nat → Nat} {wl : va_W} (h : Rc G c wl) (hf : c 38 0 = 1) : ∃ i, 40 ≤ i ∧ wl[i]? = some (c 38 1, .inr (2, xF G c)) := by
  obtain ⟨k, hk, hq, -⟩ := h.2.2.2.2.2.2.2.2 hf
  exact ⟨k, hk, hq⟩
theorem P_x {G : Nat → Nat} {c : Nat → Nat → Nat} {wl : va_W} {i k v : Nat} {val : Value} (hk : k = 0 ∨ k = 1 ∨ k = 2) (hv : k < 2 → val = sbV G v) (hv2 : k = 2 → val = .int (nI v)) (hf : c 38 0 = 1) (hi : 40 ≤ i) (hq : wl[i]? = some (c 38 1, .inr (2, xF G c))) (h : Rc G c wl) : Rc G (up2 c 38 (k + 2) v) (wl.set i (c 38 1, .inr (2, (xF G c).set k val))) := by
  obtain ⟨a0, a1, a2, a3, a4, a5, a6, a7, a8⟩ := h
  obtain ⟨i2, hi2, hq2, hz⟩ := a8 hf
  refine ⟨by rw [ws_ne (by omega)]; exact a0, by rw [ws_ne (by omega)]; exact a1, by rw [ws_ne (by omega)]; exact a2, fun w hw => by rw [ws_ne (by omega)]; exact a3 w hw, fun j hj => ?_, a5, a6, fun hc => ?_, fun _ => ?_⟩
  · obtain ⟨m, hm, e⟩ := a4 j hj
    have hne : i ≠ m := fun z => by
      subst z
      have e2 := hq.symm.trans e
      exact hz j hj (congrArg Prod.fst (Option.some.inj e2)).symm
    exact ⟨m, hm, by rw [ws_ne hne]; exact e⟩
  · obtain ⟨m, hm, e⟩ := a7 hc
    have hne : i ≠ m := fun z => by
      subst z
      have e2 := hq.symm.trans e
      have e3 := congrArg Prod.snd (Option.some.inj e2)
      cases e3
    exact ⟨m, hm, by rw [ws_ne hne]; exact e⟩
  · have e1 : up2 c 38 (k + 2) v 38 1 = c 38 1 := up2_i (by omega)
    refine ⟨i, hi, ?_, fun j hj => by rw [e1]; exact hz j hj⟩
    rw [ws_eq hq, e1]
    rcases hk with e | e | e <;> subst e
    · rw [hv (by decide)]; simp [xF, up2]
    · rw [hv (by decide)]; simp [xF, up2]
    · rw [hv2 rfl]; simp [xF, up2]
/-- a wish is made: no fields yet -/
def c_raw (c : Nat → Nat → Nat) (q : Nat) : Nat → Nat → Nat := up2 (up2 (up2 (up2 (up2 c 38 0 1) 38 1 q) 38 2 0) 38 3 0) 38 4 0
theorem P_new {G : Nat → Nat} {c : Nat → Nat → Nat} {wl : va_W} {A : Nat → Prop} {q : Nat} (hD : va_D A (wl ++ [(q, .inr (2, [.null, .null, .int 0]))])) (h : Rc G c wl) : Rc G (c_raw c q) (wl ++ [(q, .inr (2, [.null, .null, .int 0]))]) := by
  have h' : Rc G c (wl ++ [(q, .inr (2, [.null, .null, .int 0]))]) := Rc_ap h
  obtain ⟨a0, a1, a2, a3, a4, a5, a6, a7, -⟩ := h'
  have hlast : (wl ++ [(q, (.inr (2, [.null, .null, .int 0]) : va_E))])[wl.length]? = some (q, .inr (2, [.null, .null, .int 0])) := by simp
  have hlen : 40 ≤ wl.length := by
    have := (List.getElem?_eq_some_iff.mp (Q_u h (show 19 < 20 by decide))).1
    omega
  refine ⟨a0, a1, a2, a3, a4, a5, a6, a7, fun _ => ⟨wl.length, hlen, ?_, fun j hj => ?_⟩⟩
  · rw [hlast]
    simp [xF, c_raw, up2, sbV, nI_0]
  · intro e
    obtain ⟨k, hk, hq⟩ := Q_w h hj
    have e2 : c 34 j = q := e
    have := hD.1 k wl.length _ _ (ws_ap hq) hlast e2
    have := (List.getElem?_eq_some_iff.mp hq).1
    omega
/-- the list with the new wish -/
def c_app (c : Nat → Nat → Nat) (a b w : Nat) : Nat → Nat → Nat := up2 (up2 (up2 (up2 (up2 (up2 c 31 (c 30 0) a) 32 (c 30 0) b) 33 (c 30 0) w) 34 (c 30 0) (c 38 1)) 30 0 (c 30 0 + 1)) 38 0 0
theorem P_fin {G : Nat → Nat} {c : Nat → Nat → Nat} {wl : va_W} {k a b w : Nat} (hf : c 38 0 = 1) (ha : c 38 2 = a + 1) (hb : c 38 3 = b + 1) (hw : c 38 4 = w) (hcap : c 30 0 < c 36 0) (hk : 40 ≤ k)
    (hq : wl[k]? = some (c 35 0, .inl (G 61, c 36 0, .inr (.inr (.inr (.inr (fun j => if j < c 30 0 then some (c 34 j) else none))))))) (h : Rc G c wl) :
    Rc G (c_app c a b w) ((wl.set k (c 35 0, .inl (G 61, c 36 0, .inr (.inr (.inr (.inr (va_up (fun j => if j < c 30 0 then some (c 34 j) else none) (c 30 0) (some (c 38 1))))))))).set 2 (G 2, .inr (0, (lF c).set 2 (.int (nI (c 30 0 + 1)))))) := by
  obtain ⟨a0, a1, a2, a3, a4, a5, a6, a7, a8⟩ := h
  obtain ⟨i, hi, hx, hz⟩ := a8 hf
  have hik : k ≠ i := fun z => by
    subst z
    have e2 := hq.symm.trans hx
    have e3 := congrArg Prod.snd (Option.some.inj e2)
    cases e3
  have e0 : c_app c a b w 30 0 = c 30 0 + 1 := by simp [c_app, up2]
  have eo : ∀ j, j ≠ c 30 0 → c_app c a b w 34 j = c 34 j ∧ wF G (c_app c a b w) j = wF G c j := fun j hj => by simp [c_app, up2, wF, hj]
  have en : c_app c a b w 34 (c 30 0) = c 38 1 ∧ wF G (c_app c a b w) (c 30 0) = xF G c := by
    constructor
    · simp [c_app, up2]
    · simp only [wF, xF]
      rw [ha, hb, hw, sbV_s G rfl, sbV_s G rfl]
      simp [c_app, up2]
  refine ⟨by rw [ws_ne (by omega), ws_ne (by omega)]; exact a0, by rw [ws_ne (by omega), ws_ne (by omega)]; exact a1, ?_, fun u hu => by rw [ws_ne (by omega), ws_ne (by omega)]; exact a3 u hu, fun j hj => ?_, fun x y hxx hyy e => ?_, fun hc => ?_, fun hc => ?_, fun hc => ?_⟩
  · rw [ws_eq (by rw [ws_ne (by omega)]; exact a2)]
    simp [lF, c_app, up2]
  · rw [e0] at hj
    by_cases hjn : j = c 30 0
    · subst hjn
      refine ⟨i, hi, ?_⟩
      rw [ws_ne (by omega), ws_ne hik, en.1, en.2]
      exact hx
    · obtain ⟨m, hm, e⟩ := a4 j (by omega)
      have hne : k ≠ m := fun z => by
        subst z
        have e2 := hq.symm.trans e
        have e3 := congrArg Prod.snd (Option.some.inj e2)
        cases e3
      refine ⟨m, hm, ?_⟩
      rw [ws_ne (by omega), ws_ne hne, (eo j hjn).1, (eo j hjn).2]
      exact e
  · rw [e0] at hxx hyy
    by_cases h1 : x = c 30 0 <;> by_cases h2 : y = c 30 0
    · omega
    · rw [h1, en.1, (eo y h2).1] at e
      exact absurd e.symm (hz y (by omega))
    · rw [h2, en.1, (eo x h1).1] at e
      exact absurd e (hz x (by omega))
    · rw [(eo x h1).1, (eo y h2).1] at e
      exact a5 x y (by omega) (by omega) e
  · have : c_app c a b w 36 0 = c 36 0 := by simp [c_app, up2]
    omega
  · refine ⟨k, hk, ?_⟩
    rw [ws_ne (by omega), ws_eq hq]
    have e1 : c_app c a b w 35 0 = c 35 0 := by simp [c_app, up2]
    have e2 : c_app c a b w 36 0 = c 36 0 := by simp [c_app, up2]
    rw [e0, e1, e2]
    have ef : va_up (fun j => if j < c 30 0 then some (c 34 j) else none) (c 30 0) (some (c 38 1)) = fun j => if j < c 30 0 + 1 then some (c_app c a b w 34 j) else none := by
      funext j
      by_cases hjn : j = c 30 0
      · subst hjn
        rw [va_up_self, if_pos (Nat.lt_succ_self _), en.1]
      · rw [va_up_ne _ _ hjn, (eo j hjn).1]
        by_cases hj : j < c 30 0
        · rw [if_pos hj, if_pos (by omega)]
        · rw [if_neg hj, if_neg (by omega)]
    rw [ef]
  · have : c_app c a b w 38 0 = 0 := by simp [c_app, up2]
    omega
/-- another array under the list -/
theorem P_grow {G : Nat → Nat} {c : Nat → Nat → Nat} {wl : va_W} {k q N : Nat} (hN : 0 < N) (hk : 40 ≤ k) (hq : wl[k]? = some (q, .inl (G 61, N, .inr (.inr (.inr (.inr (fun j => if j < c 30 0 then some (c 34 j) else none))))))) (h : Rc G c wl) :
    Rc G (up2 (up2 c 35 0 q) 36 0 N) (wl.set 2 (G 2, .inr (0, (lF c).set 1 (.ref q)))) := by
  obtain ⟨a0, a1, a2, a3, a4, a5, a6, a7, a8⟩ := h
  refine ⟨by rw [ws_ne (by decide)]; exact a0, by rw [ws_ne (by decide)]; exact a1, by rw [ws_eq a2]; simp [lF, up2], fun u hu => by rw [ws_ne (by omega)]; exact a3 u hu, fun j hj => ?_, a5, fun hc => ?_, fun hc => ?_, fun hc => ?_⟩
  · obtain ⟨k, hk, hq⟩ := a4 j hj
    exact ⟨k, hk, by rw [ws_ne (by omega)]; exact hq⟩
  · have : up2 (up2 c 35 0 q) 36 0 N 36 0 = N := up2_s ..
    omega
  · exact ⟨k, hk, by rw [ws_ne (by omega), hq]; simp [up2]⟩
  · obtain ⟨k, hk, hq, hz⟩ := a8 hc
    exact ⟨k, hk, by rw [ws_ne (by omega)]; exact hq, hz⟩
theorem Q_b {G : Nat → Nat} {c : Nat → Nat → Nat} {wl : va_W} (h : Rc G c wl) (hc : 0 < c 36 0) : ∃ k, 40 ≤ k ∧ wl[k]? = some (c 35 0, .inl (G 61, c 36 0, .inr (.inr (.inr (.inr (fun j => if j < c 30 0 then some (c 34 j) else none)))))) := h.2.2.2.2.2.2.2.1 hc
theorem Q_0 {G : Nat → Nat} {c : Nat → Nat → Nat} {wl : va_W} (h : Rc G c wl) (hc : c 36 0 = 0) : c 35 0 = G 70 ∧ c 30 0 = 0 := h.2.2.2.2.2.2.1 hc
end
section
/-! THE JDK'S LIST -/
def Wq (D : va_G) (G : Nat → Nat) (h0 : Nat) (c r : Nat → Nat → Nat) (o N a : Nat) (U : State) : Prop := ∃ wl : va_W, Rc G c wl ∧ Rr G r wl ∧ Ro G o wl ∧ va_P D vwCl wl U.heap ∧ va_D (fun q => h0 ≤ q) wl ∧ ∃ i, 40 ≤ i ∧ wl[i]? = some (a, .inl (G 61, N, .inr (.inr (.inr (.inr (fun j => if j < c 30 0 then some (c 34 j) else none))))))
theorem K_eq {D : va_G} {G : Nat → Nat} {s : State} {cA : ClassId} (h : va_K D vwCl (tyL G ++ [(cA, .object "java/lang/Object")]) s) : cA = G 61 := by
  obtain ⟨_, _, _, _, _, e1⟩ := (h.2 1 (G 61, .object "java/lang/Object") rfl).2
  obtain ⟨_, _, _, _, _, e2⟩ := (h.2 5 (cA, .object "java/lang/Object") rfl).2
  exact Option.some.inj (e2.symm.trans e1)
theorem obj_asg {s : State} (h : va_Nw (.castable RX1 "java/lang/Object") s) : ∀ comp c0 : ClassId, s.vm.findClass "java/lang/Object" = some comp → s.vm.findClass RX1 = some c0 → s.vm.assignable c0 comp = true := by
  intro comp c0 h1 h2
  obtain ⟨c3, c4, e1, e2, e3⟩ := Cond.castable_spec (va_Nw.use (A := #[]) rfl h)
  cases Option.some.inj (e1.symm.trans h2)
  cases Option.some.inj (e2.symm.trans h1)
  exact e3
theorem arr_recv {D : va_G} {G : Nat → Nat} {s : State} {H : Heap} {wl : va_W} {k a n : Nat} {f : Nat → Option Nat} (hK : va_K D vwCl (tyL G) s) (hP : va_P D vwCl wl H) (hq : wl[k]? = some (a, .inl (G 61, n, .inr (.inr (.inr (.inr f)))))) : ∃ cell : Cell, H[a]? = some cell ∧ cell.vm.isStatics = false ∧ s.vm.findClass "[Ljava/lang/Object;" = some cell.cls := by
  obtain ⟨_, _, _, _, _, e1⟩ := (hK.2 1 (G 61, .object "java/lang/Object") rfl).2
  exact ⟨_, hP k _ hq, rfl, e1⟩
section YR
variable {p : Program} {l : Launch} {e : Env} {R : Room} {s : State} {m : MethodId} {args : Array Value} {below : List Frame} {meth : Method} {cd : Code} {H : Heap} {locs : List Loc} {cells slots : Nat} {Q : State → Prop}
variable {pc : Nat} {ls : Array Slot} {rest st0 : List Value} {D : va_G} {G : Nat → Nat} {h0 : Nat} {c r : Nat → Nat → Nat} {o : Nat} {H0 : Heap} {mc ms : Nat} {av : Array Value}
theorem y_callr {S : Type} {post : S → Prop} {ad : S → Nat} {cf rf : S → Nat → Nat → Nat} {of : S → Nat} (hr : va_Run p l e R s m args below meth cd H locs cells slots mc ms (F0 m pc ls st0) rest (va_Qr post (fun u a t => a = ad u ∧ Wr D G h0 (cf u) (rf u) (of u) t) (fun q => h0 ≤ q) av) (fun q => h0 ≤ q)) (hS : va_S (fun q => h0 ≤ q) H0 H locs)
    (kk : ∀ (u : S) (H1 : Heap) (locs1 : List Loc) (wl1 : va_W), post u → Rc G (cf u) wl1 → Rr G (rf u) wl1 → Ro G (of u) wl1 → va_P D vwCl wl1 H1 → va_D (fun q => h0 ≤ q) wl1 → va_S (fun q => h0 ≤ q) H0 H1 locs1 → W p l e R s m args below meth cd H1 locs1 (cells + mc) (slots + ms) Q (F0 m (pc + 3) ls (.ref (ad u) :: rest))) : W p l e R s m args below meth cd H locs cells slots Q (F0 m pc ls st0) :=
  va_callr hr hS (fun _ _ h => h) (fun _ h => h) (fun u a t H1 locs1 ht _ hp hB _ _ hS1 => by
    obtain ⟨ha, wl1, b1, b2, b3, b4, b5⟩ := hB
    rw [ht] at b4
    subst ha
    exact kk u H1 locs1 wl1 hp b1 b2 b3 b4 b5 hS1)
end YR
set_option maxHeartbeats 4000000 in
set_option maxRecDepth 100000 in
theorem k_Jx4a65c_size_8abf5 (l : Launch) (D : va_G) (G : Nat → Nat) (h0 : Nat) (c r : Nat → Nat → Nat) (o : Nat)  : Met l yJx4a65c_size_8abf5 wsJx4a65c_size_8abf5 ({ frames := 0, cells := 0, slots := 0, locals := 0 } : Room) (va_Pc [.ref (G 2)] (fun U => Pr D G h0 c r o U)) (va_Qi (fun (v9 : Int32) (_ : Unit) => v9 = nI (c 30 0)) (fun _ t => Wr D G h0 c r o t) (fun q => h0 ≤ q)) 0 0 (fun q => h0 ≤ q) := by
  refine Met.ofW (cc := cJx4a65c_size_8abf5) (maxL := 1) (ret := (some .int)) (by decide) rfl ?_
  intro p e s m args below meth cd s₁ B hml hv
  obtain ⟨rfl, hE, wl, hRc, hRr, hRo, hP, hD⟩ := hv
  have hx := B.exec
  have hb := B.bytes
  have hr := B.returns
  have hts := atoms_spec (ws := wsJx4a65c_size_8abf5) B.pre
  have hown : s.vm.findClass RJx4a65c = some m.cls := findClass_of_methodNamed B.named
  have hlocks := B.notSynchronized
  have hK := hE.2.1
  have hS : va_S (fun q => h0 ≤ q) s.heap s.heap [] := va_S.rf
  have hA : ∀ q : Nat, s.heap.size ≤ q → h0 ≤ q := fun q h => Nat.le_trans hE.1 h
  have hl := lv_entry ([.ref (G 2)]) (n := 1) (Nat.le_of_ble_eq_true rfl)
  rw [lg_entry_eq]
  generalize (lg_sl ([.ref (G 2)]) ++ List.replicate (1 - (lg_sl ([.ref (G 2)])).length) Slot.unset).toArray = ls at hl ⊢
  have hl : lv_has ls 1 [(0, .ref (G 2))] := hl
  have inL : ∀ w ∈ wsJx4a65c0, w ∈ wsJx4a65c_size_8abf5 := by decide +kernel
  refine lv_aload_n hx hb dJx4a65c_size_8abf5_0 rfl (lv_at hl 0 rfl) ?_
  refine va_get (D := D) (ci := 0) (v := .int (nI (c 30 0))) (C := RJx4a65c) (T := TJx4a65c) (N := 3) hx hb hts inL hown hK hP 2 (Q_l hRc) rfl 2 (by decide) (hts (.fieldLink RJx4a65c 48 "java/util/ArrayList" "size" "I") (by decide +kernel)) (fun _ h9 => h9) rfl dJx4a65c_size_8abf5_1 ?_
  exact W.iret (v := nI (c 30 0)) hx hb hr (fun t ht hW => ⟨⟨_, (), rfl, rfl, Wr_mk hRc hRr hRo hP hD ht⟩, hS.F ht⟩) hS.2.2 dJx4a65c_size_8abf5_4
set_option maxHeartbeats 4000000 in
set_option maxRecDepth 100000 in
theorem k_J3_checkIndex_8e157 (l : Launch) (D : va_G) (G : Nat → Nat) (h0 : Nat) (c r : Nat → Nat → Nat) (o : Nat) (i n : Nat) (hi : i < n) (hn : n < 2 ^ 31) : Met l yJ3_checkIndex_8e157 wsJ3_checkIndex_8e157 ({ frames := 0, cells := 0, slots := 0, locals := 0 } : Room) (va_Pc [.int (nI i), .int (nI n), .null] (fun U => Pr D G h0 c r o U)) (va_Qi (fun (v9 : Int32) (_ : Unit) => v9 = nI i) (fun _ t => Wr D G h0 c r o t) (fun q => h0 ≤ q)) 0 0 (fun q => h0 ≤ q) := by
  refine Met.ofW (cc := cJ3_checkIndex_8e157) (maxL := 3) (ret := (some .int)) (by decide) rfl ?_
  intro p e s m args below meth cd s₁ B hml hv
  obtain ⟨rfl, hE, wl, hRc, hRr, hRo, hP, hD⟩ := hv
  have hx := B.exec
  have hb := B.bytes
  have hr := B.returns
  have hts := atoms_spec (ws := wsJ3_checkIndex_8e157) B.pre
  have hown : s.vm.findClass RJ3 = some m.cls := findClass_of_methodNamed B.named
  have hlocks := B.notSynchronized
  have hK := hE.2.1
  have hS : va_S (fun q => h0 ≤ q) s.heap s.heap [] := va_S.rf
  have hA : ∀ q : Nat, s.heap.size ≤ q → h0 ≤ q := fun q h => Nat.le_trans hE.1 h
  have hl := lv_entry ([.int (nI i), .int (nI n), .null]) (n := 3) (Nat.le_of_ble_eq_true rfl)
  rw [lg_entry_eq]
  generalize (lg_sl ([.int (nI i), .int (nI n), .null]) ++ List.replicate (3 - (lg_sl ([.int (nI i), .int (nI n), .null])).length) Slot.unset).toArray = ls at hl ⊢
  have hl : lv_has ls 3 [(0, .int (nI i)), (1, .int (nI n)), (2, .null)] := hl
  refine lv_iload_n hx hb dJ3_checkIndex_8e157_0 rfl (lv_at hl 0 rfl) ?_
  refine lv_if_lt (tgt := 9) hx hb dJ3_checkIndex_8e157_1 (by decide) (fun c_1 => ?_) (fun c_1 => ?_)
  · exact absurd c_1 (nI_pos (by omega))
  refine lv_iload_n hx hb dJ3_checkIndex_8e157_4 rfl (lv_at hl 0 rfl) ?_
  refine lv_iload_n hx hb dJ3_checkIndex_8e157_5 rfl (lv_at hl 1 rfl) ?_
  refine n_icmp_lt (tgt := 16) hx hb dJ3_checkIndex_8e157_6 (by decide) (by omega) hn (fun c_6 => ?_) (fun c_6 => ?_)
  · refine lv_iload_n hx hb dJ3_checkIndex_8e157_16 rfl (lv_at hl 0 rfl) ?_
    exact W.iret (v := nI i) hx hb hr (fun t ht hW => ⟨⟨_, (), rfl, rfl, Wr_mk hRc hRr hRo hP hD ht⟩, hS.F ht⟩) hS.2.2 dJ3_checkIndex_8e157_17
  · exfalso; omega
set_option maxHeartbeats 4000000 in
set_option maxRecDepth 100000 in
theorem k_J15_checkIndex_7cf53 (l : Launch) (D : va_G) (G : Nat → Nat) (h0 : Nat) (c r : Nat → Nat → Nat) (o : Nat) (i n : Nat) (hi : i < n) (hn : n < 2 ^ 31) : Met l yJ15_checkIndex_7cf53 wsJ15_checkIndex_7cf53 ({ frames := 1, cells := 0, slots := 0, locals := 22 } : Room) (va_Pc [.int (nI i), .int (nI n)] (fun U => Pr D G h0 c r o U)) (va_Qi (fun (v9 : Int32) (_ : Unit) => v9 = nI i) (fun _ t => Wr D G h0 c r o t) (fun q => h0 ≤ q)) 0 0 (fun q => h0 ≤ q) := by
  refine Met.ofW (cc := cJ15_checkIndex_7cf53) (maxL := 2) (ret := (some .int)) (by decide) rfl ?_
  intro p e s m args below meth cd s₁ B hml hv
  obtain ⟨rfl, hE, wl, hRc, hRr, hRo, hP, hD⟩ := hv
  have hx := B.exec
  have hb := B.bytes
  have hr := B.returns
  have hts := atoms_spec (ws := wsJ15_checkIndex_7cf53) B.pre
  have hown : s.vm.findClass RJ15 = some m.cls := findClass_of_methodNamed B.named
  have hlocks := B.notSynchronized
  have hK := hE.2.1
  have hS : va_S (fun q => h0 ≤ q) s.heap s.heap [] := va_S.rf
  have hA : ∀ q : Nat, s.heap.size ≤ q → h0 ≤ q := fun q h => Nat.le_trans hE.1 h
  have hl := lv_entry ([.int (nI i), .int (nI n)]) (n := 2) (Nat.le_of_ble_eq_true rfl)
  rw [lg_entry_eq]
  generalize (lg_sl ([.int (nI i), .int (nI n)]) ++ List.replicate (2 - (lg_sl ([.int (nI i), .int (nI n)])).length) Slot.unset).toArray = ls at hl ⊢
  have hl : lv_has ls 2 [(0, .int (nI i)), (1, .int (nI n))] := hl
  refine lv_iload_n hx hb dJ15_checkIndex_7cf53_0 rfl (lv_at hl 0 rfl) ?_
  refine lv_iload_n hx hb dJ15_checkIndex_7cf53_1 rfl (lv_at hl 1 rfl) ?_
  refine lv_null hx hb dJ15_checkIndex_7cf53_2 ?_
  refine y_calli (va_runS (As := [.int (nI i), .int (nI n), .null]) (rest := []) ⟨hx, hb, hml, hown, hts⟩ (k_J3_checkIndex_8e157 l D G h0 c r o i n hi hn) (va_cwS 3 hts gJ15_checkIndex_7cf53_J3_checkIndex_8e157 rfl rfl rfl (by decide +kernel) ⟨(Nat.le_of_ble_eq_true rfl), (Nat.le_of_ble_eq_true rfl)⟩) ⟨fun a U g mk q => ⟨q.1, Pr_cg q.2⟩, fun U hU hW => ⟨rfl, Pr_mk hE hRc hRr hRo hP hD hS hU hW⟩⟩ rfl rfl hl.1 rfl (lv_room (Nat.le_of_ble_eq_true rfl)) dJ15_checkIndex_7cf53_3 ⟨(Nat.le_of_ble_eq_true rfl), (Nat.le_of_ble_eq_true rfl)⟩) hS (fun v9 _ H locs wl hv9 hRc hRr hRo hP hD hS => ?_)
  have hv9 : v9 = nI i := hv9
  subst hv9
  exact W.iret (v := nI i) hx hb hr (fun t ht hW => ⟨⟨_, (), rfl, rfl, Wr_mk hRc hRr hRo hP hD ht⟩, hS.F ht⟩) hS.2.2 dJ15_checkIndex_7cf53_6
set_option maxHeartbeats 4000000 in
set_option maxRecDepth 100000 in
theorem k_Jx4a65c_elementData_915e3 (l : Launch) (D : va_G) (G : Nat → Nat) (h0 : Nat) (c r : Nat → Nat → Nat) (o : Nat) (i : Nat) (hi : i < c 30 0) (h1 : c 30 0 ≤ c 36 0) (h2 : c 36 0 < 2 ^ 31) : Met l yJx4a65c_elementData_915e3 wsJx4a65c_elementData_915e3 ({ frames := 0, cells := 0, slots := 0, locals := 0 } : Room) (va_Pc [.ref (G 2), .int (nI i)] (fun U => Pr D G h0 c r o U)) (va_Qr (fun (_ : Unit) => True) (fun _ a9 t => a9 = c 34 i ∧ Wr D G h0 c r o t) (fun q => h0 ≤ q)) 0 0 (fun q => h0 ≤ q) := by
  refine Met.ofW (cc := cJx4a65c_elementData_915e3) (maxL := 2) (ret := (some (.object "java/lang/Object"))) (by decide) rfl ?_
  intro p e s m args below meth cd s₁ B hml hv
  obtain ⟨rfl, hE, wl, hRc, hRr, hRo, hP, hD⟩ := hv
  have hx := B.exec
  have hb := B.bytes
  have hr := B.returns
  have hts := atoms_spec (ws := wsJx4a65c_elementData_915e3) B.pre
  have hown : s.vm.findClass RJx4a65c = some m.cls := findClass_of_methodNamed B.named
  have hlocks := B.notSynchronized
  have hK := hE.2.1
  have hS : va_S (fun q => h0 ≤ q) s.heap s.heap [] := va_S.rf
  have hA : ∀ q : Nat, s.heap.size ≤ q → h0 ≤ q := fun q h => Nat.le_trans hE.1 h
  have hl := lv_entry ([.ref (G 2), .int (nI i)]) (n := 2) (Nat.le_of_ble_eq_true rfl)
  rw [lg_entry_eq]
  generalize (lg_sl ([.ref (G 2), .int (nI i)]) ++ List.replicate (2 - (lg_sl ([.ref (G 2), .int (nI i)])).length) Slot.unset).toArray = ls at hl ⊢
  have hl : lv_has ls 2 [(0, .ref (G 2)), (1, .int (nI i))] := hl
  have inL : ∀ w ∈ wsJx4a65c0, w ∈ wsJx4a65c_elementData_915e3 := by decide +kernel
  refine lv_aload_n hx hb dJx4a65c_elementData_915e3_0 rfl (lv_at hl 0 rfl) ?_
  refine va_get (D := D) (ci := 0) (v := .ref (c 35 0)) (C := RJx4a65c) (T := TJx4a65c) (N := 3) hx hb hts inL hown hK hP 2 (Q_l hRc) rfl 1 (by decide) (hts (.fieldLink RJx4a65c 9 "java/util/ArrayList" "elementData" "[Ljava/lang/Object;") (by decide +kernel)) (fun _ h9 => h9) rfl dJx4a65c_elementData_915e3_1 ?_
  refine lv_iload_n hx hb dJx4a65c_elementData_915e3_4 rfl (lv_at hl 1 rfl) ?_
  obtain ⟨k, hk, hq⟩ := Q_b hRc (by omega)
  refine va_aldq hx hb hK hP k 1 hq rfl (vp_in_nI (by omega) h2) dJx4a65c_elementData_915e3_5 ?_
  refine n_top (y := .ref (c 34 i)) (by rw [nI_clamp (by omega), if_pos hi]; rfl) ?_
  exact W.aret (v := .ref (c 34 i)) (rt := .object "java/lang/Object") hx hb hr (Or.inl ⟨_, rfl⟩) (Or.inr ⟨_, rfl⟩) (fun t ht hW => ⟨⟨(), _, rfl, trivial, rfl, Wr_mk hRc hRr hRo hP hD ht⟩, hS.F ht⟩) hS.2.2 dJx4a65c_elementData_915e3_6
set_option maxHeartbeats 4000000 in
set_option maxRecDepth 100000 in
theorem k_Jx4a65c_get_915e3 (l : Launch) (D : va_G) (G : Nat → Nat) (h0 : Nat) (c r : Nat → Nat → Nat) (o : Nat) (i : Nat) (hi : i < c 30 0) (h1 : c 30 0 ≤ c 36 0) (h2 : c 36 0 < 2 ^ 31) : Met l yJx4a65c_get_915e3 wsJx4a65c_get_915e3 ({ frames := 2, cells := 0, slots := 0, locals := 43 } : Room) (va_Pc [.ref (G 2), .int (nI i)] (fun U => Pr D G h0 c r o U)) (va_Qr (fun (_ : Unit) => True) (fun _ a9 t => a9 = c 34 i ∧ Wr D G h0 c r o t) (fun q => h0 ≤ q)) 0 0 (fun q => h0 ≤ q) := by
  refine Met.ofW (cc := cJx4a65c_get_915e3) (maxL := 2) (ret := (some (.object "java/lang/Object"))) (by decide) rfl ?_
  intro p e s m args below meth cd s₁ B hml hv
  obtain ⟨rfl, hE, wl, hRc, hRr, hRo, hP, hD⟩ := hv
  have hx := B.exec
  have hb := B.bytes
  have hr := B.returns
  have hts := atoms_spec (ws := wsJx4a65c_get_915e3) B.pre
  have hown : s.vm.findClass RJx4a65c = some m.cls := findClass_of_methodNamed B.named
  have hlocks := B.notSynchronized
  have hK := hE.2.1
  have hS : va_S (fun q => h0 ≤ q) s.heap s.heap [] := va_S.rf
  have hA : ∀ q : Nat, s.heap.size ≤ q → h0 ≤ q := fun q h => Nat.le_trans hE.1 h
  have hl := lv_entry ([.ref (G 2), .int (nI i)]) (n := 2) (Nat.le_of_ble_eq_true rfl)
  rw [lg_entry_eq]
  generalize (lg_sl ([.ref (G 2), .int (nI i)]) ++ List.replicate (2 - (lg_sl ([.ref (G 2), .int (nI i)])).length) Slot.unset).toArray = ls at hl ⊢
  have hl : lv_has ls 2 [(0, .ref (G 2)), (1, .int (nI i))] := hl
  have inL : ∀ w ∈ wsJx4a65c0, w ∈ wsJx4a65c_get_915e3 := by decide +kernel
  refine lv_iload_n hx hb dJx4a65c_get_915e3_0 rfl (lv_at hl 1 rfl) ?_
  refine lv_aload_n hx hb dJx4a65c_get_915e3_1 rfl (lv_at hl 0 rfl) ?_
  refine va_get (D := D) (ci := 0) (v := .int (nI (c 30 0))) (C := RJx4a65c) (T := TJx4a65c) (N := 3) hx hb hts inL hown hK hP 2 (Q_l hRc) rfl 2 (by decide) (hts (.fieldLink RJx4a65c 48 "java/util/ArrayList" "size" "I") (by decide +kernel)) (fun _ h9 => h9) rfl dJx4a65c_get_915e3_2 ?_
  refine y_calli (va_runS (As := [.int (nI i), .int (nI (c 30 0))]) (rest := []) ⟨hx, hb, hml, hown, hts⟩ (k_J15_checkIndex_7cf53 l D G h0 c r o i (c 30 0) hi (by omega)) (va_cwS 2 hts gJx4a65c_get_915e3_J15_checkIndex_7cf53 rfl rfl rfl (by decide +kernel) ⟨(Nat.le_of_ble_eq_true rfl), (Nat.le_of_ble_eq_true rfl)⟩) ⟨fun a U g mk q => ⟨q.1, Pr_cg q.2⟩, fun U hU hW => ⟨rfl, Pr_mk hE hRc hRr hRo hP hD hS hU hW⟩⟩ rfl rfl hl.1 rfl (lv_room (Nat.le_of_ble_eq_true rfl)) dJx4a65c_get_915e3_5 ⟨(Nat.le_of_ble_eq_true rfl), (Nat.le_of_ble_eq_true rfl)⟩) hS (fun v9 _ H locs wl hv9 hRc hRr hRo hP hD hS => ?_)
  refine lv_pop hx hb dJx4a65c_get_915e3_8 rfl ?_
  refine lv_aload_n hx hb dJx4a65c_get_915e3_9 rfl (lv_at hl 0 rfl) ?_
  refine lv_iload_n hx hb dJx4a65c_get_915e3_10 rfl (lv_at hl 1 rfl) ?_
  refine y_callr (va_runV (As := [.int (nI i)]) (rest := []) ⟨hx, hb, hml, hown, hts⟩ (k_Jx4a65c_elementData_915e3 l D G h0 c r o i hi h1 h2) (cwV 1 hts gJx4a65c_get_915e3_Jx4a65c_elementData_915e3 rfl rfl rfl (by decide +kernel) ⟨(Nat.le_of_ble_eq_true rfl), (Nat.le_of_ble_eq_true rfl)⟩) ⟨fun a U g mk q => ⟨q.1, Pr_cg q.2⟩, va_recv (ci := 0) (q0 := 2) hK hP rfl (Q_l hRc), fun U hU hW => ⟨rfl, Pr_mk hE hRc hRr hRo hP hD hS hU hW⟩⟩ rfl rfl hl.1 rfl (lv_room (Nat.le_of_ble_eq_true rfl)) dJx4a65c_get_915e3_11 ⟨(Nat.le_of_ble_eq_true rfl), (Nat.le_of_ble_eq_true rfl)⟩) hS (fun _ H locs wl _ hRc hRr hRo hP hD hS => ?_)
  exact W.aret (v := .ref (c 34 i)) (rt := .object "java/lang/Object") hx hb hr (Or.inl ⟨_, rfl⟩) (Or.inr ⟨_, rfl⟩) (fun t ht hW => ⟨⟨(), _, rfl, trivial, rfl, Wr_mk hRc hRr hRo hP hD ht⟩, hS.F ht⟩) hS.2.2 dJx4a65c_get_915e3_14
set_option maxHeartbeats 4000000 in
set_option maxRecDepth 100000 in
theorem k_J8_newLength_cabcc (l : Launch) (D : va_G) (G : Nat → Nat) (h0 : Nat) (c r : Nat → Nat → Nat) (o : Nat) (n k : Nat) (hn : n < 2 ^ 20) (hk : k < 2 ^ 20) : Met l yJ8_newLength_cabcc wsJ8_newLength_cabcc ({ frames := 1, cells := 0, slots := 0, locals := 21 } : Room) (va_Pc [.int (nI n), .int (nI 1), .int (nI k)] (fun U => Pr D G h0 c r o U)) (va_Qi (fun (v9 : Int32) (_ : Unit) => v9 = nI (n + max 1 k)) (fun _ t => Wr D G h0 c r o t) (fun q => h0 ≤ q)) 0 0 (fun q => h0 ≤ q) := by
  refine Met.ofW (cc := cJ8_newLength_cabcc) (maxL := 4) (ret := (some .int)) (by decide) rfl ?_
  intro p e s m args below meth cd s₁ B hml hv
  obtain ⟨rfl, hE, wl, hRc, hRr, hRo, hP, hD⟩ := hv
  have hx := B.exec
  have hb := B.bytes
  have hr := B.returns
  have hts := atoms_spec (ws := wsJ8_newLength_cabcc) B.pre
  have hown : s.vm.findClass RJ8 = some m.cls := findClass_of_methodNamed B.named
  have hlocks := B.notSynchronized
  have hK := hE.2.1
  have hS : va_S (fun q => h0 ≤ q) s.heap s.heap [] := va_S.rf
  have hA : ∀ q : Nat, s.heap.size ≤ q → h0 ≤ q := fun q h => Nat.le_trans hE.1 h
  have hl := lv_entry ([.int (nI n), .int (nI 1), .int (nI k)]) (n := 4) (Nat.le_of_ble_eq_true rfl)
  rw [lg_entry_eq]
  generalize (lg_sl ([.int (nI n), .int (nI 1), .int (nI k)]) ++ List.replicate (4 - (lg_sl ([.int (nI n), .int (nI 1), .int (nI k)])).length) Slot.unset).toArray = ls at hl ⊢
  have hl : lv_has ls 4 [(0, .int (nI n)), (1, .int (nI 1)), (2, .int (nI k))] := hl
  refine lv_iload_n hx hb dJ8_newLength_cabcc_0 rfl (lv_at hl 0 rfl) ?_
  refine lv_iload_n hx hb dJ8_newLength_cabcc_1 rfl (lv_at hl 1 rfl) ?_
  refine lv_iload_n hx hb dJ8_newLength_cabcc_2 rfl (lv_at hl 2 rfl) ?_
  refine va_mmax hx hb (hml.trans hl.1.symm) hown (hts (.methodLink RJ8 194 Lib.Math.max.name) (by decide +kernel)) (hts (.static Lib.Math.max.name) (by decide +kernel)) (hts (.initialized "java/lang/Math") (by decide +kernel)) (hts (.code Lib.Math.max.name Lib.Math.max.code 2 (some .int)) (by decide +kernel)) (Nat.le_of_ble_eq_true rfl) (Nat.le_of_ble_eq_true rfl) (by first | exact (Nat.le_of_ble_eq_true rfl) | (simp only [Nat.zero_add]; omega)) (by first | exact (Nat.le_of_ble_eq_true rfl) | (show _ ≤ 2000; omega)) dJ8_newLength_cabcc_3 ?_
  refine n_top (y := .int (nI (max 1 k))) (congrArg Value.int (nI_max (by decide) (by omega))) ?_
  refine n_iadd hx hb dJ8_newLength_cabcc_6 ?_
  refine lv_istore_n (lv' := [(3, .int (nI (n + max 1 k))), (0, .int (nI n)), (1, .int (nI 1)), (2, .int (nI k))]) hx hb dJ8_newLength_cabcc_7 rfl hl (by decide) rfl (fun ls hl => ?_)
  have hm : 1 ≤ max 1 k ∧ max 1 k < 2 ^ 20 + 1 := by
    rcases Nat.le_total 1 k with z | z
    · rw [Nat.max_eq_right z]; omega
    · rw [Nat.max_eq_left z]; omega
  refine lv_iconst (v := nI 0) hx hb dJ8_newLength_cabcc_8 (by decide) ?_
  refine lv_iload_n hx hb dJ8_newLength_cabcc_9 rfl (lv_at hl 0 rfl) ?_
  refine n_icmp_ge (tgt := 21) hx hb dJ8_newLength_cabcc_10 (by decide) (by decide) (by omega) (fun c_10 => ?_) (fun c_10 => ?_)
  · exfalso; omega
  refine lv_iload_n hx hb dJ8_newLength_cabcc_13 rfl (lv_at hl 0 rfl) ?_
  refine lv_ldc (v := 2147483639) hx hb hown (hts (.constant RJ8 200 (2147483639)) (by decide +kernel)) dJ8_newLength_cabcc_14 ?_
  refine n_top (y := .int (nI 2147483639)) rfl ?_
  refine n_icmp_gt (tgt := 21) hx hb dJ8_newLength_cabcc_16 (by decide) (by omega) (by decide) (fun c_16 => ?_) (fun c_16 => ?_)
  · exfalso; omega
  refine lv_iload_n hx hb dJ8_newLength_cabcc_19 rfl (lv_at hl 0 rfl) ?_
  exact W.iret (v := nI (n + max 1 k)) hx hb hr (fun t ht hW => ⟨⟨_, (), rfl, rfl, Wr_mk hRc hRr hRo hP hD ht⟩, hS.F ht⟩) hS.2.2 dJ8_newLength_cabcc_20
set_option maxHeartbeats 4000000 in
set_option maxRecDepth 100000 in
theorem k_J7_copyOf_6403c (l : Launch) (D : va_G) (G : Nat → Nat) (h0 : Nat) (c r : Nat → Nat → Nat) (o : Nat) (N : Nat) (hN : N ≤ 2000) (h1 : c 30 0 ≤ c 36 0) (h2 : c 36 0 ≤ N) (h3 : 0 < c 36 0) : Met l yJ7_copyOf_6403c wsJ7_copyOf_6403c ({ frames := 1, cells := 1, slots := 2000, locals := 60 } : Room) (va_Pc [.ref (c 35 0), .int (nI N), .ref (G 80)] (fun U => Pr D G h0 c r o U)) (va_Qr (fun (_ : Unit) => True) (fun _ a9 t => Wq D G h0 c r o N a9 t) (fun q => h0 ≤ q)) 1 2000 (fun q => h0 ≤ q) := by
  refine Met.ofW (cc := cJ7_copyOf_6403c) (maxL := 4) (ret := (some (.array (.object "java/lang/Object")))) (by decide) rfl ?_
  intro p e s m args below meth cd s₁ B hml hv
  obtain ⟨rfl, hE, wl, hRc, hRr, hRo, hP, hD⟩ := hv
  have hx := B.exec
  have hb := B.bytes
  have hr := B.returns
  have hts := atoms_spec (ws := wsJ7_copyOf_6403c) B.pre
  have hown : s.vm.findClass RJ7 = some m.cls := findClass_of_methodNamed B.named
  have hlocks := B.notSynchronized
  have hK := hE.2.1
  have hS : va_S (fun q => h0 ≤ q) s.heap s.heap [] := va_S.rf
  have hA : ∀ q : Nat, s.heap.size ≤ q → h0 ≤ q := fun q h => Nat.le_trans hE.1 h
  have hl := lv_entry ([.ref (c 35 0), .int (nI N), .ref (G 80)]) (n := 4) (Nat.le_of_ble_eq_true rfl)
  rw [lg_entry_eq]
  generalize (lg_sl ([.ref (c 35 0), .int (nI N), .ref (G 80)]) ++ List.replicate (4 - (lg_sl ([.ref (c 35 0), .int (nI N), .ref (G 80)])).length) Slot.unset).toArray = ls at hl ⊢
  have hl : lv_has ls 4 [(0, .ref (c 35 0)), (1, .int (nI N)), (2, .ref (G 80))] := hl
  obtain ⟨k, hk, hq⟩ := Q_b hRc h3
  refine lv_aload_n hx hb dJ7_copyOf_6403c_0 rfl (lv_at hl 2 rfl) ?_
  refine va_ldcM hx hb hown (hts (.classLink RJ7 110 "[Ljava/lang/Object;") (by decide +kernel)) hE.2.2.2.2.2.2.2.1 dJ7_copyOf_6403c_1 ?_
  refine lv_acmp_ne (rx := some (G 80)) (ry := some (G 80)) (tgt := 13) hx hb dJ7_copyOf_6403c_3 (by decide) (fun c_3 => absurd rfl c_3) (fun _ => ?_)
  refine lv_iload_n hx hb dJ7_copyOf_6403c_6 rfl (lv_at hl 1 rfl) ?_
  refine va_newq (C := "java/lang/Object") (N' := N) hx hb hown (hts (.classLink RJ7 2 "java/lang/Object") (by decide +kernel)) hE.2.2.2.2.2.1 hK hP hD hS hA (nI_pos (by omega)) (nI_clamp (by omega)) (by omega) (Nat.le_of_ble_eq_true rfl) (by show 0 + N ≤ 2000; omega) dJ7_copyOf_6403c_7 (fun q cA H hK2 hP hD hS => ?_)
  have hcA := K_eq hK2
  subst hcA
  have hq2 := ws_ap (l := [(q, (.inl (G 61, N, .inr (.inr (.inr (.inr (fun _ => none))))) : va_E))]) hq
  have hqN : (wl ++ [(q, (.inl (G 61, N, .inr (.inr (.inr (.inr (fun _ => none))))) : va_E))])[wl.length]? = some (q, .inl (G 61, N, .inr (.inr (.inr (.inr (fun _ => none)))))) := by simp
  refine lv_goto (tgt := 24) hx hb dJ7_copyOf_6403c_10 (by decide) ?_
  refine lv_astore_n (lv' := [(3, .ref q), (0, .ref (c 35 0)), (1, .int (nI N)), (2, .ref (G 80))]) hx hb dJ7_copyOf_6403c_24 rfl hl (by decide) rfl (fun ls hl => ?_)
  refine lv_aload_n hx hb dJ7_copyOf_6403c_25 rfl (lv_at hl 1 rfl) ?_
  refine lv_iconst (v := nI 0) hx hb dJ7_copyOf_6403c_26 (by decide) ?_
  refine lv_aload_n hx hb dJ7_copyOf_6403c_27 rfl (lv_at hl 0 rfl) ?_
  refine lv_iconst (v := nI 0) hx hb dJ7_copyOf_6403c_28 (by decide) ?_
  refine lv_aload_n hx hb dJ7_copyOf_6403c_29 rfl (lv_at hl 1 rfl) ?_
  refine va_alen (v := nI (c 36 0)) hx hb hK hP k 1 hq2 rfl rfl dJ7_copyOf_6403c_30 ?_
  refine lv_iload_n hx hb dJ7_copyOf_6403c_31 rfl (lv_at hl 2 rfl) ?_
  refine va_mmin hx hb (hml.trans hl.1.symm) hown (hts (.methodLink RJ7 304 Lib.Math.min.name) (by decide +kernel)) (hts (.static Lib.Math.min.name) (by decide +kernel)) (hts (.initialized "java/lang/Math") (by decide +kernel)) (hts (.code Lib.Math.min.name Lib.Math.min.code 2 (some .int)) (by decide +kernel)) (Nat.le_of_ble_eq_true rfl) (Nat.le_of_ble_eq_true rfl) (by first | exact (Nat.le_of_ble_eq_true rfl) | (simp only [Nat.zero_add]; omega)) (by first | exact (Nat.le_of_ble_eq_true rfl) | (show _ ≤ 2000; omega)) dJ7_copyOf_6403c_32 ?_
  refine n_top (y := .int (nI (c 36 0))) (by rw [nI_min (by omega) (by omega), Nat.min_eq_left h2]) ?_
  have hcl : (nI (c 36 0)).toNatClampNeg = c 36 0 := nI_clamp (by omega)
  have hc0 : (nI 0).toNatClampNeg = 0 := nI_clamp (by decide)
  refine va_copyM hx hb (hml.trans hl.1.symm) hown (hts (.methodLink RJ7 150 arraycopyName) (by decide +kernel)) (hts (.native arraycopyName) (by decide +kernel)) (hts (.static arraycopyName) (by decide +kernel)) (hts (.initialized "java/lang/System") (by decide +kernel)) hK hP hD hS k wl.length 1 1 hq2 hqN rfl rfl (by rw [nI_0]; decide) (by rw [nI_0]; decide) (nI_pos (by omega)) (by rw [hcl, hc0]; omega) (by rw [hcl, hc0]; omega) (fun i hi y hy => ?_) (Nat.le_of_ble_eq_true rfl) (Nat.le_of_ble_eq_true rfl) dJ7_copyOf_6403c_35 (fun H locs hP hD hS => ?_)
  · rw [hc0, Nat.zero_add] at hy
    have hj : i < c 30 0 := by
      apply Classical.byContradiction
      intro z
      rw [if_neg z] at hy
      cases hy
    rw [if_pos hj] at hy
    obtain ⟨i2, hi2, e2⟩ := Q_w hRc hj
    cases hy
    exact va_rAny hK hP (ws_ap e2) rfl (obj_asg hE.2.2.2.2.2.2.2.2.2.1)
  rw [hcl, hc0] at hP hD
  have ef : va_cpy (fun j => if j < c 30 0 then some (c 34 j) else none) (fun _ => none) 0 0 (c 36 0) = (fun j => if j < c 30 0 then some (c 34 j) else none) := by
    funext j
    unfold va_cpy
    by_cases hj : j < c 36 0
    · rw [if_pos ⟨Nat.zero_le j, by omega⟩, Nat.zero_add, Nat.sub_zero]
    · rw [if_neg (fun z => hj (by omega)), if_neg (by omega)]
  have es : ∀ x y : Nat × va_E, (wl ++ [x]).set wl.length y = wl ++ [y] := fun x y => by simp
  rw [ef, es] at hP hD
  have hqL : (wl ++ [(q, (.inl (G 61, N, .inr (.inr (.inr (.inr (fun j => if j < c 30 0 then some (c 34 j) else none))))) : va_E))])[wl.length]? = some (q, .inl (G 61, N, .inr (.inr (.inr (.inr (fun j => if j < c 30 0 then some (c 34 j) else none)))))) := by simp
  have h40 : 40 ≤ wl.length := by
    have := (List.getElem?_eq_some_iff.mp (Q_u hRc (show 19 < 20 by decide))).1
    omega
  refine W.widen (k := 1) (n := 2000) (Nat.le_of_ble_eq_true rfl) (by omega) ?_
  refine lv_aload_n hx hb dJ7_copyOf_6403c_38 rfl (lv_at hl 0 rfl) ?_
  exact W.aret (v := .ref q) (rt := .array (.object "java/lang/Object")) hx hb hr (Or.inr ⟨_, rfl⟩) (Or.inr ⟨_, rfl⟩) (fun t ht hW => ⟨⟨(), _, rfl, trivial, _, Rc_ap hRc, Rr_ap hRr, Ro_ap hRo, by rw [ht]; exact hP, hD, _, h40, hqL⟩, hS.F ht⟩) hS.2.2 dJ7_copyOf_6403c_39
set_option maxHeartbeats 4000000 in
set_option maxRecDepth 100000 in
theorem k_J7_copyOf_1904c (l : Launch) (D : va_G) (G : Nat → Nat) (h0 : Nat) (c r : Nat → Nat → Nat) (o : Nat) (N : Nat) (hN : N ≤ 2000) (h1 : c 30 0 ≤ c 36 0) (h2 : c 36 0 ≤ N) (h3 : 0 < c 36 0) : Met l yJ7_copyOf_1904c wsJ7_copyOf_1904c ({ frames := 2, cells := 1, slots := 2000, locals := 83 } : Room) (va_Pc [.ref (c 35 0), .int (nI N)] (fun U => Pr D G h0 c r o U)) (va_Qr (fun (_ : Unit) => True) (fun _ a9 t => Wq D G h0 c r o N a9 t) (fun q => h0 ≤ q)) 1 2000 (fun q => h0 ≤ q) := by
  refine Met.ofW (cc := cJ7_copyOf_1904c) (maxL := 2) (ret := (some (.array (.object "java/lang/Object")))) (by decide) rfl ?_
  intro p e s m args below meth cd s₁ B hml hv
  obtain ⟨rfl, hE, wl, hRc, hRr, hRo, hP, hD⟩ := hv
  have hx := B.exec
  have hb := B.bytes
  have hr := B.returns
  have hts := atoms_spec (ws := wsJ7_copyOf_1904c) B.pre
  have hown : s.vm.findClass RJ7 = some m.cls := findClass_of_methodNamed B.named
  have hlocks := B.notSynchronized
  have hK := hE.2.1
  have hS : va_S (fun q => h0 ≤ q) s.heap s.heap [] := va_S.rf
  have hA : ∀ q : Nat, s.heap.size ≤ q → h0 ≤ q := fun q h => Nat.le_trans hE.1 h
  have hl := lv_entry ([.ref (c 35 0), .int (nI N)]) (n := 2) (Nat.le_of_ble_eq_true rfl)
  rw [lg_entry_eq]
  generalize (lg_sl ([.ref (c 35 0), .int (nI N)]) ++ List.replicate (2 - (lg_sl ([.ref (c 35 0), .int (nI N)])).length) Slot.unset).toArray = ls at hl ⊢
  have hl : lv_has ls 2 [(0, .ref (c 35 0)), (1, .int (nI N))] := hl
  obtain ⟨k, hk, hq⟩ := Q_b hRc h3
  refine lv_aload_n hx hb dJ7_copyOf_1904c_0 rfl (lv_at hl 0 rfl) ?_
  refine lv_iload_n hx hb dJ7_copyOf_1904c_1 rfl (lv_at hl 1 rfl) ?_
  refine lv_aload_n hx hb dJ7_copyOf_1904c_2 rfl (lv_at hl 0 rfl) ?_
  refine va_getC (C := "[Ljava/lang/Object;") hx hb (hml.trans hl.1.symm) hown (hts (.methodLink RJ7 86 ⟨"java/lang/Object", "getClass", "()Ljava/lang/Class;"⟩) (by decide +kernel)) (va_Dc.use hE.2.2.2.2.2.2.2.2.1) (hts (.selects "[Ljava/lang/Object;" ⟨"java/lang/Object", "getClass", "()Ljava/lang/Class;"⟩ ⟨"java/lang/Object", "getClass", "()Ljava/lang/Class;"⟩) (by decide +kernel)) (hts (.instanceMethod ⟨"java/lang/Object", "getClass", "()Ljava/lang/Class;"⟩) (by decide +kernel)) (hts (.native ⟨"java/lang/Object", "getClass", "()Ljava/lang/Class;"⟩) (by decide +kernel)) hE.2.2.2.2.2.2.2.1 (arr_recv hK hP hq) (Nat.le_of_ble_eq_true rfl) (Nat.le_of_ble_eq_true rfl) dJ7_copyOf_1904c_3 ?_
  refine va_callr (va_runS (As := [.ref (c 35 0), .int (nI N), .ref (G 80)]) (rest := []) ⟨hx, hb, hml, hown, hts⟩ (k_J7_copyOf_6403c l D G h0 c r o N hN h1 h2 h3) (va_cwS 3 hts gJ7_copyOf_1904c_J7_copyOf_6403c rfl rfl rfl (by decide +kernel) ⟨(Nat.le_of_ble_eq_true rfl), (Nat.le_of_ble_eq_true rfl)⟩) ⟨fun a U g mk q => ⟨q.1, Pr_cg q.2⟩, fun U hU hW => ⟨rfl, Pr_mk hE hRc hRr hRo hP hD hS hU hW⟩⟩ rfl rfl hl.1 rfl (lv_room (Nat.le_of_ble_eq_true rfl)) dJ7_copyOf_1904c_6 ⟨(Nat.le_of_ble_eq_true rfl), (Nat.le_of_ble_eq_true rfl)⟩) hS (fun _ _ h => h) (fun _ h => h) (fun _ q t H locs ht hvm _ hB _ _ hS => ?_)
  obtain ⟨wl, hRc, hRr, hRo, hP, hD, i, hi, hq⟩ := hB
  rw [ht] at hP
  exact W.aret (v := .ref q) (rt := .array (.object "java/lang/Object")) hx hb hr (Or.inr ⟨_, rfl⟩) (Or.inr ⟨_, rfl⟩) (fun t ht hW => ⟨⟨(), _, rfl, trivial, wl, hRc, hRr, hRo, by rw [ht]; exact hP, hD, i, hi, hq⟩, hS.F ht⟩) hS.2.2 dJ7_copyOf_1904c_9
end
