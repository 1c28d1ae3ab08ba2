/-! the law's words are among the tables' -/
set_option maxRecDepth 20000 in
theorem wsL_law_c1 : ∀ w ∈ wsL_law0_r1, w ∈ lw_tbl := by decide +kernel
set_option maxRecDepth 20000 in
theorem wsL_law_c2 : ∀ w ∈ wsL_law0_r2, w ∈ lw_tbl := by decide +kernel
set_option maxRecDepth 20000 in
theorem wsL_law_c3_0 : Cond.fieldLink RX0 32 "BootStage$Unit" "needs" "I" ∈ lw_tbl := by decide +kernel
set_option maxRecDepth 20000 in
theorem wsL_law_c3_1 : Cond.fieldLink RX0 35 "BootStage$Unit" "keptWishes" "I" ∈ lw_tbl := by decide +kernel
set_option maxRecDepth 20000 in
theorem wsL_law_c3_2 : Cond.fieldLink RX0 38 "BootStage$Unit" "state" "I" ∈ lw_tbl := by decide +kernel
set_option maxRecDepth 20000 in
theorem wsL_law_c3_3 : Cond.fieldLink RX0 41 "BootStage$Unit" "ticksStarting" "I" ∈ lw_tbl := by decide +kernel
set_option maxRecDepth 20000 in
theorem wsL_law_c3_4 : Cond.fieldLink RX0 44 "BootStage$Unit" "retriesUsed" "I" ∈ lw_tbl := by decide +kernel
set_option maxRecDepth 20000 in
theorem wsL_law_c3_5 : Cond.fieldLink RX0 47 "BootStage$Unit" "learnedAtBegin" "I" ∈ lw_tbl := by decide +kernel
set_option maxRecDepth 20000 in
theorem wsL_law_c3_6 : Cond.fieldLink RX0 50 "BootStage$Unit" "number" "I" ∈ lw_tbl := by decide +kernel
set_option maxRecDepth 20000 in
theorem wsL_law_c3_7 : Cond.methodLink RL 133 yL_isRefused ∈ lw_tbl := by decide +kernel
set_option maxRecDepth 20000 in
theorem wsL_law_c3_8 : Cond.static yL_isRefused ∈ lw_tbl := by decide +kernel
set_option maxRecDepth 20000 in
theorem wsL_law_c3_9 : Cond.initialized RL ∈ lw_tbl := by decide +kernel
set_option maxRecDepth 20000 in
theorem wsL_law_c3_10 : Cond.code yL_isRefused cL_isRefused 10 (some .boolean) ∈ lw_tbl := List.mem_append_right _ (List.mem_of_getElem? (i := 568) rfl)
set_option maxRecDepth 20000 in
theorem wsL_law_c3_11 : Cond.methodLink RL 61 yX2_units ∈ lw_tbl := by decide +kernel
set_option maxRecDepth 20000 in
theorem wsL_law_c3_12 : Cond.instanceMethod yX2_units ∈ lw_tbl := by decide +kernel
set_option maxRecDepth 20000 in
theorem wsL_law_c3_13 : Cond.selects RX2 yX2_units yX2_units ∈ lw_tbl := by decide +kernel
set_option maxRecDepth 20000 in
theorem wsL_law_c3_14 : Cond.code yX2_units cX2_units 1 (some .int) ∈ lw_tbl := by decide +kernel
set_option maxRecDepth 20000 in
theorem wsL_law_c3_15 : Cond.methodLink RL 124 yL_all ∈ lw_tbl := by decide +kernel
set_option maxRecDepth 20000 in
theorem wsL_law_c3_16 : Cond.static yL_all ∈ lw_tbl := by decide +kernel
set_option maxRecDepth 20000 in
theorem wsL_law_c3_17 : Cond.code yL_all cL_all 4 (some .long) ∈ lw_tbl := by decide +kernel
set_option maxRecDepth 20000 in
theorem wsL_law_c3_18 : Cond.constantLong RL 65 (31) ∈ lw_tbl := by decide +kernel
set_option maxRecDepth 20000 in
theorem wsL_law_c3_19 : Cond.constantLong RL 70 (1009) ∈ lw_tbl := by decide +kernel
set_option maxRecDepth 20000 in
theorem wsL_law_c3_20 : Cond.constantLong RL 75 (65537) ∈ lw_tbl := by decide +kernel
set_option maxRecDepth 20000 in
theorem wsL_law_c3_21 : Cond.constantLong RL 84 (3) ∈ lw_tbl := by decide +kernel
set_option maxRecDepth 20000 in
theorem wsL_law_c3_22 : Cond.constantLong RL 86 (1000003) ∈ lw_tbl := by decide +kernel
set_option maxRecDepth 20000 in
theorem wsL_law_c3_23 : Cond.constantLong RL 88 (7) ∈ lw_tbl := by decide +kernel
theorem wsL_law_c3 : ∀ w ∈ wsL_law0_r3, w ∈ lw_tbl := by
  unfold wsL_law0_r3
  exact List.forall_mem_cons.mpr ⟨wsL_law_c3_0, List.forall_mem_cons.mpr ⟨wsL_law_c3_1, List.forall_mem_cons.mpr ⟨wsL_law_c3_2, List.forall_mem_cons.mpr ⟨wsL_law_c3_3, List.forall_mem_cons.mpr ⟨wsL_law_c3_4, List.forall_mem_cons.mpr ⟨wsL_law_c3_5, List.forall_mem_cons.mpr ⟨wsL_law_c3_6, List.forall_mem_cons.mpr ⟨wsL_law_c3_7, List.forall_mem_cons.mpr ⟨wsL_law_c3_8, List.forall_mem_cons.mpr ⟨wsL_law_c3_9, List.forall_mem_cons.mpr ⟨wsL_law_c3_10, List.forall_mem_cons.mpr ⟨wsL_law_c3_11, List.forall_mem_cons.mpr ⟨wsL_law_c3_12, List.forall_mem_cons.mpr ⟨wsL_law_c3_13, List.forall_mem_cons.mpr ⟨wsL_law_c3_14, List.forall_mem_cons.mpr ⟨wsL_law_c3_15, List.forall_mem_cons.mpr ⟨wsL_law_c3_16, List.forall_mem_cons.mpr ⟨wsL_law_c3_17, List.forall_mem_cons.mpr ⟨wsL_law_c3_18, List.forall_mem_cons.mpr ⟨wsL_law_c3_19, List.forall_mem_cons.mpr ⟨wsL_law_c3_20, List.forall_mem_cons.mpr ⟨wsL_law_c3_21, List.forall_mem_cons.mpr ⟨wsL_law_c3_22, List.forall_mem_cons.mpr ⟨wsL_law_c3_23, fun _ h => absurd h List.not_mem_nil⟩⟩⟩⟩⟩⟩⟩⟩⟩⟩⟩⟩⟩⟩⟩⟩⟩⟩⟩⟩⟩⟩⟩⟩
set_option maxRecDepth 20000 in
theorem wsL_law_c4 : ∀ w ∈ wsL_law0_r4, w ∈ lw_tbl := by decide +kernel
set_option maxRecDepth 20000 in
theorem wsL_law_c5 : ∀ w ∈ wsL_law0_r5, w ∈ lw_tbl := by decide +kernel
set_option maxRecDepth 20000 in
theorem wsL_law_c6 : ∀ w ∈ wsL_law0_r6, w ∈ lw_tbl := by decide +kernel
set_option maxRecDepth 20000 in
theorem wsL_law_c7 : ∀ w ∈ wsL_law0_r7, w ∈ lw_tbl := by decide +kernel
set_option maxRecDepth 20000 in
theorem wsL_law_c8 : ∀ w ∈ wsL_law0_r8, w ∈ lw_tbl := by decide +kernel
set_option maxRecDepth 20000 in
theorem wsL_law_c9 : ∀ w ∈ wsL_law0_r9, w ∈ lw_tbl := by decide +kernel
set_option maxRecDepth 20000 in
theorem wsL_law_c10 : ∀ w ∈ wsL_law0_r10, w ∈ lw_tbl := by decide +kernel
set_option maxRecDepth 20000 in
theorem wsL_law_c11 : ∀ w ∈ wsL_law0_r11, w ∈ lw_tbl := by decide +kernel
set_option maxRecDepth 20000 in
theorem wsL_law_c12 : ∀ w ∈ wsL_law0_r12, w ∈ lw_tbl := by decide +kernel
set_option maxRecDepth 20000 in
theorem wsL_law_c13 : ∀ w ∈ wsL_law0_r13, w ∈ lw_tbl := by decide +kernel
set_option maxRecDepth 20000 in
theorem wsL_law_c14 : ∀ w ∈ wsL_law0_r14, w ∈ lw_tbl := by decide +kernel
set_option maxRecDepth 20000 in
theorem wsL_law_c15 : ∀ w ∈ wsL_law0_r15, w ∈ lw_tbl := by decide +kernel
set_option maxRecDepth 20000 in
theorem wsL_law_c16 : ∀ w ∈ wsL_law0_r16, w ∈ lw_tbl := by decide +kernel
set_option maxRecDepth 20000 in
theorem wsL_law_c17_0 : Cond.code yL_isTicked cL_isTicked 17 (some .boolean) ∈ lw_tbl := List.mem_append_right _ (List.mem_of_getElem? (i := 551) rfl)
set_option maxRecDepth 20000 in
theorem wsL_law_c17_1 : Cond.methodLink RL 116 yL_hasLost ∈ lw_tbl := by decide +kernel
set_option maxRecDepth 20000 in
theorem wsL_law_c17_2 : Cond.static yL_hasLost ∈ lw_tbl := by decide +kernel
set_option maxRecDepth 20000 in
theorem wsL_law_c17_3 : Cond.code yL_hasLost cL_hasLost 5 (some .boolean) ∈ lw_tbl := by decide +kernel
set_option maxRecDepth 20000 in
theorem wsL_law_c17_4 : Cond.methodLink RL 104 yL_met ∈ lw_tbl := by decide +kernel
set_option maxRecDepth 20000 in
theorem wsL_law_c17_5 : Cond.static yL_met ∈ lw_tbl := by decide +kernel
set_option maxRecDepth 20000 in
theorem wsL_law_c17_6 : Cond.code yL_met cL_met 6 (some .int) ∈ lw_tbl := by decide +kernel
set_option maxRecDepth 20000 in
theorem wsL_law_c17_7 : Cond.methodLink RL 100 yL_isOff ∈ lw_tbl := by decide +kernel
set_option maxRecDepth 20000 in
theorem wsL_law_c17_8 : Cond.static yL_isOff ∈ lw_tbl := by decide +kernel
set_option maxRecDepth 20000 in
theorem wsL_law_c17_9 : Cond.code yL_isOff cL_isOff 1 (some .boolean) ∈ lw_tbl := by decide +kernel
set_option maxRecDepth 20000 in
theorem wsL_law_c17_10 : Cond.methodLink RL 145 yL_isTold ∈ lw_tbl := by decide +kernel
set_option maxRecDepth 20000 in
theorem wsL_law_c17_11 : Cond.static yL_isTold ∈ lw_tbl := by decide +kernel
set_option maxRecDepth 20000 in
theorem wsL_law_c17_12 : Cond.code yL_isTold cL_isTold 12 (some .boolean) ∈ lw_tbl := by decide +kernel
set_option maxRecDepth 20000 in
theorem wsL_law_c17_13 : Cond.methodLink RL 149 yL_isBegun ∈ lw_tbl := by decide +kernel
set_option maxRecDepth 20000 in
theorem wsL_law_c17_14 : Cond.static yL_isBegun ∈ lw_tbl := by decide +kernel
set_option maxRecDepth 20000 in
theorem wsL_law_c17_15 : Cond.code yL_isBegun cL_isBegun 9 (some .boolean) ∈ lw_tbl := by decide +kernel
set_option maxRecDepth 20000 in
theorem wsL_law_c17_16 : Cond.methodLink RL 120 yL_cut ∈ lw_tbl := by decide +kernel
set_option maxRecDepth 20000 in
theorem wsL_law_c17_17 : Cond.static yL_cut ∈ lw_tbl := by decide +kernel
set_option maxRecDepth 20000 in
theorem wsL_law_c17_18 : Cond.code yL_cut cL_cut 8 (some .int) ∈ lw_tbl := by decide +kernel
set_option maxRecDepth 20000 in
theorem wsL_law_c17_19 : Cond.constant RL 92 (1048575) ∈ lw_tbl := by decide +kernel
set_option maxRecDepth 20000 in
theorem wsL_law_c17_20 : Cond.constant RL 99 (1048576) ∈ lw_tbl := by decide +kernel
set_option maxRecDepth 20000 in
theorem wsL_law_c17_21 : Cond.methodLink RL 93 yL_isReached ∈ lw_tbl := by decide +kernel
set_option maxRecDepth 20000 in
theorem wsL_law_c17_22 : Cond.static yL_isReached ∈ lw_tbl := by decide +kernel
set_option maxRecDepth 20000 in
theorem wsL_law_c17_23 : Cond.code yL_isReached cL_isReached 9 (some .boolean) ∈ lw_tbl := by decide +kernel
theorem wsL_law_c17 : ∀ w ∈ wsL_law0_r17, w ∈ lw_tbl := by
  unfold wsL_law0_r17
  exact List.forall_mem_cons.mpr ⟨wsL_law_c17_0, List.forall_mem_cons.mpr ⟨wsL_law_c17_1, List.forall_mem_cons.mpr ⟨wsL_law_c17_2, List.forall_mem_cons.mpr ⟨wsL_law_c17_3, List.forall_mem_cons.mpr ⟨wsL_law_c17_4, List.forall_mem_cons.mpr ⟨wsL_law_c17_5, List.forall_mem_cons.mpr ⟨wsL_law_c17_6, List.forall_mem_cons.mpr ⟨wsL_law_c17_7, List.forall_mem_cons.mpr ⟨wsL_law_c17_8, List.forall_mem_cons.mpr ⟨wsL_law_c17_9, List.forall_mem_cons.mpr ⟨wsL_law_c17_10, List.forall_mem_cons.mpr ⟨wsL_law_c17_11, List.forall_mem_cons.mpr ⟨wsL_law_c17_12, List.forall_mem_cons.mpr ⟨wsL_law_c17_13, List.forall_mem_cons.mpr ⟨wsL_law_c17_14, List.forall_mem_cons.mpr ⟨wsL_law_c17_15, List.forall_mem_cons.mpr ⟨wsL_law_c17_16, List.forall_mem_cons.mpr ⟨wsL_law_c17_17, List.forall_mem_cons.mpr ⟨wsL_law_c17_18, List.forall_mem_cons.mpr ⟨wsL_law_c17_19, List.forall_mem_cons.mpr ⟨wsL_law_c17_20, List.forall_mem_cons.mpr ⟨wsL_law_c17_21, List.forall_mem_cons.mpr ⟨wsL_law_c17_22, List.forall_mem_cons.mpr ⟨wsL_law_c17_23, fun _ h => absurd h List.not_mem_nil⟩⟩⟩⟩⟩⟩⟩⟩⟩⟩⟩⟩⟩⟩⟩⟩⟩⟩⟩⟩⟩⟩⟩⟩
set_option maxRecDepth 20000 in
theorem wsL_law_c18 : ∀ w ∈ wsL_law0_r18, w ∈ lw_tbl := by decide +kernel
theorem wsL_law_c_wsX20 : ∀ w ∈ wsX20, w ∈ lw_tbl := by decide +kernel
theorem wsL_law_c_wsJx4a65c0 : ∀ w ∈ wsJx4a65c0, w ∈ lw_tbl := by decide +kernel
theorem wsL_law_c_wsX00 : ∀ w ∈ wsX00, w ∈ lw_tbl := by decide +kernel
theorem wsL_law_c_wsX10 : ∀ w ∈ wsX10, w ∈ lw_tbl := by decide +kernel
theorem wsL_law_in0 : ∀ w ∈ wsL_law0, w ∈ lw_tbl := fun w h => (List.mem_append.mp h).elim (fun h => (List.mem_append.mp h).elim (fun h => (List.mem_append.mp h).elim (fun h => (List.mem_append.mp h).elim (fun h => (List.mem_append.mp h).elim (fun h => (List.mem_append.mp h).elim (fun h => wsL_law_c1 w h) (fun h => (List.mem_append.mp h).elim (fun h => wsL_law_c2 w h) (fun h => (List.mem_append.mp h).elim (fun h => wsL_law_c3 w h) (fun h => (List.mem_append.mp h).elim (fun h => wsL_law_c4 w h) (fun h => (List.mem_append.mp h).elim (fun h => wsL_law_c5 w h) (fun h => (List.mem_append.mp h).elim (fun h => wsL_law_c6 w h) (fun h => (List.mem_append.mp h).elim (fun h => wsL_law_c7 w h) (fun h => (List.mem_append.mp h).elim (fun h => wsL_law_c8 w h) (fun h => (List.mem_append.mp h).elim (fun h => wsL_law_c9 w h) (fun h => (List.mem_append.mp h).elim (fun h => wsL_law_c10 w h) (fun h => (List.mem_append.mp h).elim (fun h => wsL_law_c11 w h) (fun h => (List.mem_append.mp h).elim (fun h => wsL_law_c12 w h) (fun h => (List.mem_append.mp h).elim (fun h => wsL_law_c13 w h) (fun h => (List.mem_append.mp h).elim (fun h => wsL_law_c14 w h) (fun h => (List.mem_append.mp h).elim (fun h => wsL_law_c15 w h) (fun h => (List.mem_append.mp h).elim (fun h => wsL_law_c16 w h) (fun h => (List.mem_append.mp h).elim (fun h => wsL_law_c17 w h) (fun h => wsL_law_c18 w h)))))))))))))))))) (fun h => wsL_law_c_wsX20 w h)) (fun h => wsL_law_c_wsJx4a65c0 w h)) (fun h => wsL_law_c_wsX00 w h)) (fun h => wsL_law_c_wsX10 w h)) (fun h => absurd h List.not_mem_nil)
theorem wsL_law_x0 : ∀ w ∈ (vx_atS RX2 154 "java/lang/IndexOutOfBoundsException" ["java/lang/RuntimeException", "java/lang/Exception"]).filter goodWord, w ∈ lw_tbl := by decide +kernel
theorem wsL_law_x1 : ∀ w ∈ (vx_atS RX2 50 "java/lang/IllegalStateException" ["java/lang/RuntimeException", "java/lang/Exception"]).filter goodWord, w ∈ lw_tbl := by decide +kernel
theorem wsL_law_x2 : ∀ w ∈ (vx_atS RX2 159 "java/lang/IllegalArgumentException" ["java/lang/RuntimeException", "java/lang/Exception"]).filter goodWord, w ∈ lw_tbl := by decide +kernel
theorem wsL_law_in : ∀ w ∈ wsL_law, w ∈ lw_tbl := fun w h => (List.mem_append.mp h).elim (fun h => (List.mem_append.mp h).elim (fun h => (List.mem_append.mp h).elim (fun h => wsL_law_in0 w h) (fun h => wsL_law_x0 w h)) (fun h => wsL_law_x1 w h)) (fun h => wsL_law_x2 w h)
