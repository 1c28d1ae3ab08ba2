/-- what act answers for an exception -/
def xcode (E : String) : Int32 := if E = exO then -1031 else if E = exA then -1032 else -1033
theorem xc_O : xcode exO = -1031 := if_pos rfl
theorem xc_A : xcode exA = -1032 := (if_neg (by decide)).trans (if_pos rfl)
theorem xc_S : xcode exS = -1033 := (if_neg (by decide)).trans (if_neg (by decide))
set_option maxHeartbeats 4000000 in
set_option maxRecDepth 100000 in
theorem k_L_act_add (l : Launch) (hlt : l.stackTraces = false) (D : va_G) (G : Nat → Nat) (h0 : Nat) (c r : Nat → Nat → Nat) (o : Nat) (x y z : Int32) (hI : IC c) : Met l yL_act wsL_act ({ frames := 8, cells := 3, slots := 18, locals := 128 } : Room) (va_Pc [.ref (G 0), .int (nI 0), .int x, .int y, .int z] (fun U => Pr D G h0 c r o U)) (va_Qi (fun (v9 : Int32) (u9 : Nat → Nat → Nat) => (∃ E, (fun E => (E = exA ∧ ¬ (inR x 1 100 ∧ inR y 0 3)) ∨ (E = exS ∧ (inR x 1 100 ∧ inR y 0 3) ∧ ¬ (c 20 1 < 20 ∧ c 20 3 = 0))) E ∧ v9 = xcode E ∧ u9 = c) ∨ (∃ t k, (1 ≤ t ∧ t ≤ 100) ∧ (0 ≤ k ∧ k ≤ 3) ∧ x = nI t ∧ y = nI k ∧ c 20 1 < 20 ∧ c 20 3 = 0 ∧ v9 = nI (c 20 1) ∧ u9 = up2 (up2 (up2 c 1 (c 20 1) t) 2 (c 20 1) k) 20 1 (c 20 1 + 1))) (fun (u9 : Nat → Nat → Nat) t => Wr D G h0 u9 r o t) (fun q => h0 ≤ q)) 3 18 (fun q => h0 ≤ q) := by
  refine va_MetW (cc := cL_act) (maxL := 6) (ret := (some .int)) (hh := [(0, 144, 145, 43), (0, 144, 151, 45), (0, 144, 157, 47)]) (by decide) rfl ?_
  intro p e s m args below meth cd s₁ B hml hv
  obtain ⟨rfl, hE, wl, hRc, hRr, hRo, hP, hD⟩ := hv
  have hx := B.exec
  have hb := B.bytes
  have hr := B.returns
  have hts := atoms_spec (ws := wsL_act) B.pre
  have htab := vx_table (x := yL_act) B (hts _ List.mem_cons_self)
  have hown : s.vm.findClass RL = some m.cls := findClass_of_methodNamed B.named
  have hlocks := B.notSynchronized
  have hK := hE.2.1
  have hS : va_S (fun q => h0 ≤ q) s.heap s.heap [] := va_S.rf
  have hl := lv_entry ([.ref (G 0), .int (nI 0), .int x, .int y, .int z]) (n := 6) (Nat.le_of_ble_eq_true rfl)
  rw [lg_entry_eq]
  generalize (lg_sl ([.ref (G 0), .int (nI 0), .int x, .int y, .int z]) ++ List.replicate (6 - (lg_sl ([.ref (G 0), .int (nI 0), .int x, .int y, .int z])).length) Slot.unset).toArray = ls at hl ⊢
  have hl : lv_has ls 6 [(0, .ref (G 0)), (1, .int (nI 0)), (2, .int x), (3, .int y), (4, .int z)] := hl
  refine lv_iload_n hx hb dL_act_0 rfl (lv_at hl 1 rfl) ?_
  refine lv_if_ne (tgt := 13) hx hb dL_act_1 (by decide) (fun z => absurd (by decide) z) (fun _ => ?_)
  refine lv_aload_n hx hb dL_act_4 rfl (lv_at hl 0 rfl) ?_
  refine lv_iload_n hx hb dL_act_5 rfl (lv_at hl 2 rfl) ?_
  refine lv_iload_n hx hb dL_act_6 rfl (lv_at hl 3 rfl) ?_
  refine yx_tryi (vx_runV (As := [.int x, .int y]) (rest := []) ⟨hx, hb, hml, hown, hts⟩ (k_X2_add l hlt D G h0 c r o x y hI) (cwV 2 hts gL_act_X2_add rfl rfl rfl (by decide +kernel) ⟨(Nat.le_of_ble_eq_true rfl), (Nat.le_of_ble_eq_true rfl)⟩) ⟨fun a U g mk q => ⟨q.1, Pr_cg q.2⟩, va_recv (ci := 3) (q0 := 0) hK hP rfl (Q_o hRc), fun U hU hW => ⟨rfl, Pr_mk hE hRc hRr hRo hP hD hS hU hW⟩⟩ rfl rfl hl.1 rfl (lv_room (Nat.le_of_ble_eq_true rfl)) dL_act_7 ⟨(Nat.le_of_ble_eq_true rfl), (Nat.le_of_ble_eq_true rfl)⟩) hS (fun E ce q9 H locs wl hpx hRc hRr hRo hP hD hS hce hcv hcl => ?_) (fun v9 u9 H locs wl hv9 hRc hRr hRo hP hD hS => ?_)
  · have hpx0 : (fun E => (E = exA ∧ ¬ (inR x 1 100 ∧ inR y 0 3)) ∨ (E = exS ∧ (inR x 1 100 ∧ inR y 0 3) ∧ ¬ (c 20 1 < 20 ∧ c 20 3 = 0))) E := hpx
    rcases hpx0 with hp0 | hp1
    · obtain ⟨rfl, hq0⟩ := hp0
      refine vx_catch hown [(⟨0, 144, 145, 43⟩ : ExceptionTableEntry)] (⟨0, 144, 151, 45⟩ : ExceptionTableEntry) [(⟨0, 144, 157, 47⟩ : ExceptionTableEntry)] htab (fun z hz => by simp only [List.mem_cons, List.not_mem_nil, or_false] at hz; subst hz; exact Or.inr ⟨by decide, exO, hts (.classLink RL 43 exO) (by decide +kernel), hE.2.2.1.2.2.2.2.2.2.1⟩) rfl (by decide) (hts (.classLink RL 45 exA) (by decide +kernel)) (va_Nw.use rfl hE.2.2.1.2.2.2.1.2.2.2.2.1) hce hcv hcl ?_
      refine lv_astore (lv' := [(5, .ref q9), (0, .ref (G 0)), (1, .int (nI 0)), (2, .int x), (3, .int y), (4, .int z)]) hx hb dL_act_151 hl (by decide) rfl (fun ls hl => ?_)
      refine lv_sipush (v := (-1032)) hx hb dL_act_153 (by decide) ?_
      exact W.iret (v := (-1032)) hx hb hr (fun t ht hW => ⟨⟨_, c, rfl, Or.inl ⟨exA, Or.inl ⟨rfl, hq0⟩, xc_A.symm, rfl⟩, Wr_mk hRc hRr hRo hP hD ht⟩, hS.F ht⟩) hS.2.2 dL_act_156
    · obtain ⟨rfl, hq1⟩ := hp1
      refine vx_catch hown [(⟨0, 144, 145, 43⟩ : ExceptionTableEntry), (⟨0, 144, 151, 45⟩ : ExceptionTableEntry)] (⟨0, 144, 157, 47⟩ : ExceptionTableEntry) [] htab (fun z hz => by simp only [List.mem_cons, List.not_mem_nil, or_false] at hz; rcases hz with rfl | rfl; exact Or.inr ⟨by decide, exO, hts (.classLink RL 43 exO) (by decide +kernel), hE.2.2.1.2.2.2.2.2.2.2.2.1⟩; exact Or.inr ⟨by decide, exA, hts (.classLink RL 45 exA) (by decide +kernel), hE.2.2.1.2.2.2.2.2.2.2.2.2⟩) rfl (by decide) (hts (.classLink RL 47 exS) (by decide +kernel)) (va_Nw.use rfl hE.2.2.1.2.2.2.1.2.2.2.2.2) hce hcv hcl ?_
      refine lv_astore (lv' := [(5, .ref q9), (0, .ref (G 0)), (1, .int (nI 0)), (2, .int x), (3, .int y), (4, .int z)]) hx hb dL_act_157 hl (by decide) rfl (fun ls hl => ?_)
      refine lv_sipush (v := (-1033)) hx hb dL_act_159 (by decide) ?_
      exact W.iret (v := (-1033)) hx hb hr (fun t ht hW => ⟨⟨_, c, rfl, Or.inl ⟨exS, Or.inr (⟨rfl, hq1⟩), xc_S.symm, rfl⟩, Wr_mk hRc hRr hRo hP hD ht⟩, hS.F ht⟩) hS.2.2 dL_act_162
  · skip
    refine lv_goto (tgt := 144) hx hb dL_act_10 (by decide) ?_
    exact W.iret (v := v9) hx hb hr (fun t ht hW => ⟨⟨_, u9, rfl, Or.inr (hv9), Wr_mk hRc hRr hRo hP hD ht⟩, hS.F ht⟩) hS.2.2 dL_act_144
set_option maxHeartbeats 4000000 in
set_option maxRecDepth 100000 in
theorem k_L_act_need (l : Launch) (hlt : l.stackTraces = false) (D : va_G) (G : Nat → Nat) (h0 : Nat) (c r : Nat → Nat → Nat) (o : Nat) (x y z : Int32) (hI : IC c) : Met l yL_act wsL_act ({ frames := 8, cells := 3, slots := 18, locals := 128 } : Room) (va_Pc [.ref (G 0), .int (nI 1), .int x, .int y, .int z] (fun U => Pr D G h0 c r o U)) (va_Qi (fun (v9 : Int32) (u9 : Nat → Nat → Nat) => (∃ E, (fun E => (E = exO ∧ ¬ (okU c x ∧ okU c y)) ∨ (E = exS ∧ ∃ a b, a < c 20 1 ∧ b < c 20 1 ∧ x = nI a ∧ y = nI b ∧ ¬ (¬ Rch (eC c 0) b a ∧ c 20 3 = 0))) E ∧ v9 = xcode E ∧ u9 = c) ∨ (∃ a b, a < c 20 1 ∧ b < c 20 1 ∧ x = nI a ∧ y = nI b ∧ ¬ Rch (eC c 0) b a ∧ c 20 3 = 0 ∧ v9 = nI (bN ((c 7 a).testBit b = true)) ∧ u9 = up2 c 7 a (c 7 a ||| 2 ^ b))) (fun (u9 : Nat → Nat → Nat) t => Wr D G h0 u9 r o t) (fun q => h0 ≤ q)) 3 18 (fun q => h0 ≤ q) := by
  refine va_MetW (cc := cL_act) (maxL := 6) (ret := (some .int)) (hh := [(0, 144, 145, 43), (0, 144, 151, 45), (0, 144, 157, 47)]) (by decide) rfl ?_
  intro p e s m args below meth cd s₁ B hml hv
  obtain ⟨rfl, hE, wl, hRc, hRr, hRo, hP, hD⟩ := hv
  have hx := B.exec
  have hb := B.bytes
  have hr := B.returns
  have hts := atoms_spec (ws := wsL_act) B.pre
  have htab := vx_table (x := yL_act) B (hts _ List.mem_cons_self)
  have hown : s.vm.findClass RL = some m.cls := findClass_of_methodNamed B.named
  have hlocks := B.notSynchronized
  have hK := hE.2.1
  have hS : va_S (fun q => h0 ≤ q) s.heap s.heap [] := va_S.rf
  have hl := lv_entry ([.ref (G 0), .int (nI 1), .int x, .int y, .int z]) (n := 6) (Nat.le_of_ble_eq_true rfl)
  rw [lg_entry_eq]
  generalize (lg_sl ([.ref (G 0), .int (nI 1), .int x, .int y, .int z]) ++ List.replicate (6 - (lg_sl ([.ref (G 0), .int (nI 1), .int x, .int y, .int z])).length) Slot.unset).toArray = ls at hl ⊢
  have hl : lv_has ls 6 [(0, .ref (G 0)), (1, .int (nI 1)), (2, .int x), (3, .int y), (4, .int z)] := hl
  refine lv_iload_n hx hb dL_act_0 rfl (lv_at hl 1 rfl) ?_
  refine lv_if_ne (tgt := 13) hx hb dL_act_1 (by decide) (fun _ => ?_) (fun z => absurd z (by decide))
  refine lv_iload_n hx hb dL_act_13 rfl (lv_at hl 1 rfl) ?_
  refine lv_iconst (v := nI 1) hx hb dL_act_14 (by decide) ?_
  refine lv_icmp_ne (tgt := 35) hx hb dL_act_15 (by decide) (fun z => absurd (by decide) z) (fun _ => ?_)
  refine lv_aload_n hx hb dL_act_18 rfl (lv_at hl 0 rfl) ?_
  refine lv_iload_n hx hb dL_act_19 rfl (lv_at hl 2 rfl) ?_
  refine lv_iload_n hx hb dL_act_20 rfl (lv_at hl 3 rfl) ?_
  refine yx_tryi (vx_runV (As := [.int x, .int y]) (rest := []) ⟨hx, hb, hml, hown, hts⟩ (k_X2_need l hlt D G h0 c r o x y hI) (cwV 2 hts gL_act_X2_need rfl rfl rfl (by decide +kernel) ⟨(Nat.le_of_ble_eq_true rfl), (Nat.le_of_ble_eq_true rfl)⟩) ⟨fun a U g mk q => ⟨q.1, Pr_cg q.2⟩, va_recv (ci := 3) (q0 := 0) hK hP rfl (Q_o hRc), fun U hU hW => ⟨rfl, Pr_mk hE hRc hRr hRo hP hD hS hU hW⟩⟩ rfl rfl hl.1 rfl (lv_room (Nat.le_of_ble_eq_true rfl)) dL_act_21 ⟨(Nat.le_of_ble_eq_true rfl), (Nat.le_of_ble_eq_true rfl)⟩) hS (fun E ce q9 H locs wl hpx hRc hRr hRo hP hD hS hce hcv hcl => ?_) (fun v9 u9 H locs wl hv9 hRc hRr hRo hP hD hS => ?_)
  · have hpx0 : (fun E => (E = exO ∧ ¬ (okU c x ∧ okU c y)) ∨ (E = exS ∧ ∃ a b, a < c 20 1 ∧ b < c 20 1 ∧ x = nI a ∧ y = nI b ∧ ¬ (¬ Rch (eC c 0) b a ∧ c 20 3 = 0))) E := hpx
    rcases hpx0 with hp0 | hp1
    · obtain ⟨rfl, hq0⟩ := hp0
      refine vx_catch hown [] (⟨0, 144, 145, 43⟩ : ExceptionTableEntry) [(⟨0, 144, 151, 45⟩ : ExceptionTableEntry), (⟨0, 144, 157, 47⟩ : ExceptionTableEntry)] htab (fun z hz => absurd hz List.not_mem_nil) rfl (by decide) (hts (.classLink RL 43 exO) (by decide +kernel)) (va_Nw.use rfl hE.2.2.1.2.2.2.1.2.2.2.1) hce hcv hcl ?_
      refine lv_astore (lv' := [(5, .ref q9), (0, .ref (G 0)), (1, .int (nI 1)), (2, .int x), (3, .int y), (4, .int z)]) hx hb dL_act_145 hl (by decide) rfl (fun ls hl => ?_)
      refine lv_sipush (v := (-1031)) hx hb dL_act_147 (by decide) ?_
      exact W.iret (v := (-1031)) hx hb hr (fun t ht hW => ⟨⟨_, c, rfl, Or.inl ⟨exO, Or.inl ⟨rfl, hq0⟩, xc_O.symm, rfl⟩, Wr_mk hRc hRr hRo hP hD ht⟩, hS.F ht⟩) hS.2.2 dL_act_150
    · obtain ⟨rfl, hq1⟩ := hp1
      refine vx_catch hown [(⟨0, 144, 145, 43⟩ : ExceptionTableEntry), (⟨0, 144, 151, 45⟩ : ExceptionTableEntry)] (⟨0, 144, 157, 47⟩ : ExceptionTableEntry) [] htab (fun z hz => by simp only [List.mem_cons, List.not_mem_nil, or_false] at hz; rcases hz with rfl | rfl; exact Or.inr ⟨by decide, exO, hts (.classLink RL 43 exO) (by decide +kernel), hE.2.2.1.2.2.2.2.2.2.2.2.1⟩; exact Or.inr ⟨by decide, exA, hts (.classLink RL 45 exA) (by decide +kernel), hE.2.2.1.2.2.2.2.2.2.2.2.2⟩) rfl (by decide) (hts (.classLink RL 47 exS) (by decide +kernel)) (va_Nw.use rfl hE.2.2.1.2.2.2.1.2.2.2.2.2) hce hcv hcl ?_
      refine lv_astore (lv' := [(5, .ref q9), (0, .ref (G 0)), (1, .int (nI 1)), (2, .int x), (3, .int y), (4, .int z)]) hx hb dL_act_157 hl (by decide) rfl (fun ls hl => ?_)
      refine lv_sipush (v := (-1033)) hx hb dL_act_159 (by decide) ?_
      exact W.iret (v := (-1033)) hx hb hr (fun t ht hW => ⟨⟨_, c, rfl, Or.inl ⟨exS, Or.inr (⟨rfl, hq1⟩), xc_S.symm, rfl⟩, Wr_mk hRc hRr hRo hP hD ht⟩, hS.F ht⟩) hS.2.2 dL_act_162
  · skip
    refine lv_if_eq (tgt := 31) hx hb dL_act_24 (by decide) (fun c0 => ?_) (fun c0 => ?_)
    · have e9 : v9 = nI 0 := c0.trans nI_0.symm
      rw [e9] at hv9
      refine lv_iconst (v := nI 0) hx hb dL_act_31 (by decide) ?_
      refine lv_goto (tgt := 144) hx hb dL_act_32 (by decide) ?_
      exact W.iret (v := (nI 0)) hx hb hr (fun t ht hW => ⟨⟨_, u9, rfl, Or.inr (hv9), Wr_mk hRc hRr hRo hP hD ht⟩, hS.F ht⟩) hS.2.2 dL_act_144
    · have e9 : v9 = nI 1 := by obtain ⟨a, b, -, -, -, -, -, -, e, -⟩ := id hv9; rcases Classical.em ((c 7 a).testBit b = true) with q | q; (rw [e, bN_t q]); exact absurd (by rw [e, bN_f q]; exact nI_0) c0
      rw [e9] at hv9
      refine lv_iconst (v := nI 1) hx hb dL_act_27 (by decide) ?_
      refine lv_goto (tgt := 144) hx hb dL_act_28 (by decide) ?_
      exact W.iret (v := (nI 1)) hx hb hr (fun t ht hW => ⟨⟨_, u9, rfl, Or.inr (hv9), Wr_mk hRc hRr hRo hP hD ht⟩, hS.F ht⟩) hS.2.2 dL_act_144
set_option maxHeartbeats 4000000 in
set_option maxRecDepth 100000 in
theorem k_L_act_wish (l : Launch) (hlt : l.stackTraces = false) (D : va_G) (G : Nat → Nat) (h0 : Nat) (c r : Nat → Nat → Nat) (o : Nat) (x y z : Int32) (hI : IC c) (hW5 : c 30 0 ≤ 512) : Met l yL_act wsL_act ({ frames := 8, cells := 7, slots := 2033, locals := 218 } : Room) (va_Pc [.ref (G 0), .int (nI 2), .int x, .int y, .int z] (fun U => Pr D G h0 c r o U)) (va_Qi (fun (v9 : Int32) (u9 : Nat → Nat → Nat) => (∃ E, (fun E => (E = exO ∧ ¬ (okU c x ∧ okU c y)) ∨ (E = exA ∧ okU c x ∧ okU c y ∧ ¬ (inR z 1 100 ∧ x ≠ y)) ∨ (E = exS ∧ okU c x ∧ okU c y ∧ (inR z 1 100 ∧ x ≠ y) ∧ c 20 3 ≠ 0)) E ∧ v9 = xcode E ∧ u9 = c) ∨ (∃ a b t, a < c 20 1 ∧ b < c 20 1 ∧ x = nI a ∧ y = nI b ∧ a ≠ b ∧ (1 ≤ t ∧ t ≤ 100) ∧ z = nI t ∧ c 20 3 = 0 ∧ ((wfK c a b = 0 ∧ v9 = nI 0 ∧ ∃ q p N ca, ca = c_app (up2 (up2 (up2 (up2 (up2 (up2 (c_raw c q) 38 2 (a + 1)) 38 3 (b + 1)) 38 4 t) 37 0 (c 37 0 + 1)) 35 0 p) 36 0 N) a b t ∧ c 30 0 < N ∧ N ≤ 2 * (c 30 0 + 1) + 10 ∧ u9 = up2 ca 8 a (ca 8 a ||| 2 ^ b)) ∨ (∃ j, wfK c a b = j + 1 ∧ v9 = nI (c 33 j) ∧ u9 = up2 c 33 j t)))) (fun (u9 : Nat → Nat → Nat) t => Wr D G h0 u9 r o t) (fun q => h0 ≤ q)) 7 2033 (fun q => h0 ≤ q) := by
  refine va_MetW (cc := cL_act) (maxL := 6) (ret := (some .int)) (hh := [(0, 144, 145, 43), (0, 144, 151, 45), (0, 144, 157, 47)]) (by decide) rfl ?_
  intro p e s m args below meth cd s₁ B hml hv
  obtain ⟨rfl, hE, wl, hRc, hRr, hRo, hP, hD⟩ := hv
  have hx := B.exec
  have hb := B.bytes
  have hr := B.returns
  have hts := atoms_spec (ws := wsL_act) B.pre
  have htab := vx_table (x := yL_act) B (hts _ List.mem_cons_self)
  have hown : s.vm.findClass RL = some m.cls := findClass_of_methodNamed B.named
  have hlocks := B.notSynchronized
  have hK := hE.2.1
  have hS : va_S (fun q => h0 ≤ q) s.heap s.heap [] := va_S.rf
  have hl := lv_entry ([.ref (G 0), .int (nI 2), .int x, .int y, .int z]) (n := 6) (Nat.le_of_ble_eq_true rfl)
  rw [lg_entry_eq]
  generalize (lg_sl ([.ref (G 0), .int (nI 2), .int x, .int y, .int z]) ++ List.replicate (6 - (lg_sl ([.ref (G 0), .int (nI 2), .int x, .int y, .int z])).length) Slot.unset).toArray = ls at hl ⊢
  have hl : lv_has ls 6 [(0, .ref (G 0)), (1, .int (nI 2)), (2, .int x), (3, .int y), (4, .int z)] := hl
  refine lv_iload_n hx hb dL_act_0 rfl (lv_at hl 1 rfl) ?_
  refine lv_if_ne (tgt := 13) hx hb dL_act_1 (by decide) (fun _ => ?_) (fun z => absurd z (by decide))
  refine lv_iload_n hx hb dL_act_13 rfl (lv_at hl 1 rfl) ?_
  refine lv_iconst (v := nI 1) hx hb dL_act_14 (by decide) ?_
  refine lv_icmp_ne (tgt := 35) hx hb dL_act_15 (by decide) (fun _ => ?_) (fun z => absurd z (by decide))
  refine lv_iload_n hx hb dL_act_35 rfl (lv_at hl 1 rfl) ?_
  refine lv_iconst (v := nI 2) hx hb dL_act_36 (by decide) ?_
  refine lv_icmp_ne (tgt := 51) hx hb dL_act_37 (by decide) (fun z => absurd (by decide) z) (fun _ => ?_)
  refine lv_aload_n hx hb dL_act_40 rfl (lv_at hl 0 rfl) ?_
  refine lv_iload_n hx hb dL_act_41 rfl (lv_at hl 2 rfl) ?_
  refine lv_iload_n hx hb dL_act_42 rfl (lv_at hl 3 rfl) ?_
  refine lv_iload hx hb dL_act_43 (lv_at hl 4 rfl) ?_
  refine yx_tryi (vx_runV (As := [.int x, .int y, .int z]) (rest := []) ⟨hx, hb, hml, hown, hts⟩ (k_X2_wish l hlt D G h0 c r o x y z hI hW5) (cwV 3 hts gL_act_X2_wish rfl rfl rfl (by decide +kernel) ⟨(Nat.le_of_ble_eq_true rfl), (Nat.le_of_ble_eq_true rfl)⟩) ⟨fun a U g mk q => ⟨q.1, Pr_cg q.2⟩, va_recv (ci := 3) (q0 := 0) hK hP rfl (Q_o hRc), fun U hU hW => ⟨rfl, Pr_mk hE hRc hRr hRo hP hD hS hU hW⟩⟩ rfl rfl hl.1 rfl (lv_room (Nat.le_of_ble_eq_true rfl)) dL_act_45 ⟨(Nat.le_of_ble_eq_true rfl), (Nat.le_of_ble_eq_true rfl)⟩) hS (fun E ce q9 H locs wl hpx hRc hRr hRo hP hD hS hce hcv hcl => ?_) (fun v9 u9 H locs wl hv9 hRc hRr hRo hP hD hS => ?_)
  · have hpx0 : (fun E => (E = exO ∧ ¬ (okU c x ∧ okU c y)) ∨ (E = exA ∧ okU c x ∧ okU c y ∧ ¬ (inR z 1 100 ∧ x ≠ y)) ∨ (E = exS ∧ okU c x ∧ okU c y ∧ (inR z 1 100 ∧ x ≠ y) ∧ c 20 3 ≠ 0)) E := hpx
    rcases hpx0 with hp0 | hp1 | hp2
    · obtain ⟨rfl, hq0⟩ := hp0
      refine vx_catch hown [] (⟨0, 144, 145, 43⟩ : ExceptionTableEntry) [(⟨0, 144, 151, 45⟩ : ExceptionTableEntry), (⟨0, 144, 157, 47⟩ : ExceptionTableEntry)] htab (fun z hz => absurd hz List.not_mem_nil) rfl (by decide) (hts (.classLink RL 43 exO) (by decide +kernel)) (va_Nw.use rfl hE.2.2.1.2.2.2.1.2.2.2.1) hce hcv hcl ?_
      refine lv_astore (lv' := [(5, .ref q9), (0, .ref (G 0)), (1, .int (nI 2)), (2, .int x), (3, .int y), (4, .int z)]) hx hb dL_act_145 hl (by decide) rfl (fun ls hl => ?_)
      refine lv_sipush (v := (-1031)) hx hb dL_act_147 (by decide) ?_
      exact W.iret (v := (-1031)) hx hb hr (fun t ht hW => ⟨⟨_, c, rfl, Or.inl ⟨exO, Or.inl ⟨rfl, hq0⟩, xc_O.symm, rfl⟩, Wr_mk hRc hRr hRo hP hD ht⟩, hS.F ht⟩) hS.2.2 dL_act_150
    · obtain ⟨rfl, hq1⟩ := hp1
      refine vx_catch hown [(⟨0, 144, 145, 43⟩ : ExceptionTableEntry)] (⟨0, 144, 151, 45⟩ : ExceptionTableEntry) [(⟨0, 144, 157, 47⟩ : ExceptionTableEntry)] htab (fun z hz => by simp only [List.mem_cons, List.not_mem_nil, or_false] at hz; subst hz; exact Or.inr ⟨by decide, exO, hts (.classLink RL 43 exO) (by decide +kernel), hE.2.2.1.2.2.2.2.2.2.1⟩) rfl (by decide) (hts (.classLink RL 45 exA) (by decide +kernel)) (va_Nw.use rfl hE.2.2.1.2.2.2.1.2.2.2.2.1) hce hcv hcl ?_
      refine lv_astore (lv' := [(5, .ref q9), (0, .ref (G 0)), (1, .int (nI 2)), (2, .int x), (3, .int y), (4, .int z)]) hx hb dL_act_151 hl (by decide) rfl (fun ls hl => ?_)
      refine lv_sipush (v := (-1032)) hx hb dL_act_153 (by decide) ?_
      exact W.iret (v := (-1032)) hx hb hr (fun t ht hW => ⟨⟨_, c, rfl, Or.inl ⟨exA, Or.inr (Or.inl ⟨rfl, hq1⟩), xc_A.symm, rfl⟩, Wr_mk hRc hRr hRo hP hD ht⟩, hS.F ht⟩) hS.2.2 dL_act_156
    · obtain ⟨rfl, hq2⟩ := hp2
      refine vx_catch hown [(⟨0, 144, 145, 43⟩ : ExceptionTableEntry), (⟨0, 144, 151, 45⟩ : ExceptionTableEntry)] (⟨0, 144, 157, 47⟩ : ExceptionTableEntry) [] htab (fun z hz => by simp only [List.mem_cons, List.not_mem_nil, or_false] at hz; rcases hz with rfl | rfl; exact Or.inr ⟨by decide, exO, hts (.classLink RL 43 exO) (by decide +kernel), hE.2.2.1.2.2.2.2.2.2.2.2.1⟩; exact Or.inr ⟨by decide, exA, hts (.classLink RL 45 exA) (by decide +kernel), hE.2.2.1.2.2.2.2.2.2.2.2.2⟩) rfl (by decide) (hts (.classLink RL 47 exS) (by decide +kernel)) (va_Nw.use rfl hE.2.2.1.2.2.2.1.2.2.2.2.2) hce hcv hcl ?_
      refine lv_astore (lv' := [(5, .ref q9), (0, .ref (G 0)), (1, .int (nI 2)), (2, .int x), (3, .int y), (4, .int z)]) hx hb dL_act_157 hl (by decide) rfl (fun ls hl => ?_)
      refine lv_sipush (v := (-1033)) hx hb dL_act_159 (by decide) ?_
      exact W.iret (v := (-1033)) hx hb hr (fun t ht hW => ⟨⟨_, c, rfl, Or.inl ⟨exS, Or.inr (Or.inr (⟨rfl, hq2⟩)), xc_S.symm, rfl⟩, Wr_mk hRc hRr hRo hP hD ht⟩, hS.F ht⟩) hS.2.2 dL_act_162
  · skip
    refine lv_goto (tgt := 144) hx hb dL_act_48 (by decide) ?_
    exact W.iret (v := v9) hx hb hr (fun t ht hW => ⟨⟨_, u9, rfl, Or.inr (hv9), Wr_mk hRc hRr hRo hP hD ht⟩, hS.F ht⟩) hS.2.2 dL_act_144
set_option maxHeartbeats 4000000 in
set_option maxRecDepth 100000 in
theorem k_L_act_standIn (l : Launch) (hlt : l.stackTraces = false) (D : va_G) (G : Nat → Nat) (h0 : Nat) (c r : Nat → Nat → Nat) (o : Nat) (x y z : Int32) (hI : IC c) : Met l yL_act wsL_act ({ frames := 8, cells := 4, slots := 24, locals := 129 } : Room) (va_Pc [.ref (G 0), .int (nI 3), .int x, .int y, .int z] (fun U => Pr D G h0 c r o U)) (va_Qi (fun (v9 : Int32) (u9 : Nat → Nat → Nat) => (∃ E, (fun E => (E = exO ∧ ¬ (okU c x ∧ (y = -1 ∨ okU c y))) ∨ (E = exA ∧ okU c x ∧ okU c y ∧ x = y) ∨ (E = exS ∧ okU c x ∧ (y = -1 ∨ okU c y) ∧ x ≠ y ∧ c 20 3 ≠ 0)) E ∧ v9 = xcode E ∧ u9 = c) ∨ (∃ a k, a < c 20 1 ∧ x = nI a ∧ (k = 0 ∧ y = -1 ∨ ∃ b, b < c 20 1 ∧ y = nI b ∧ b ≠ a ∧ k = b + 1) ∧ c 20 3 = 0 ∧ v9 = siI (c 6 a) ∧ u9 = up2 c 6 a k)) (fun (u9 : Nat → Nat → Nat) t => Wr D G h0 u9 r o t) (fun q => h0 ≤ q)) 4 24 (fun q => h0 ≤ q) := by
  refine va_MetW (cc := cL_act) (maxL := 6) (ret := (some .int)) (hh := [(0, 144, 145, 43), (0, 144, 151, 45), (0, 144, 157, 47)]) (by decide) rfl ?_
  intro p e s m args below meth cd s₁ B hml hv
  obtain ⟨rfl, hE, wl, hRc, hRr, hRo, hP, hD⟩ := hv
  have hx := B.exec
  have hb := B.bytes
  have hr := B.returns
  have hts := atoms_spec (ws := wsL_act) B.pre
  have htab := vx_table (x := yL_act) B (hts _ List.mem_cons_self)
  have hown : s.vm.findClass RL = some m.cls := findClass_of_methodNamed B.named
  have hlocks := B.notSynchronized
  have hK := hE.2.1
  have hS : va_S (fun q => h0 ≤ q) s.heap s.heap [] := va_S.rf
  have hl := lv_entry ([.ref (G 0), .int (nI 3), .int x, .int y, .int z]) (n := 6) (Nat.le_of_ble_eq_true rfl)
  rw [lg_entry_eq]
  generalize (lg_sl ([.ref (G 0), .int (nI 3), .int x, .int y, .int z]) ++ List.replicate (6 - (lg_sl ([.ref (G 0), .int (nI 3), .int x, .int y, .int z])).length) Slot.unset).toArray = ls at hl ⊢
  have hl : lv_has ls 6 [(0, .ref (G 0)), (1, .int (nI 3)), (2, .int x), (3, .int y), (4, .int z)] := hl
  refine lv_iload_n hx hb dL_act_0 rfl (lv_at hl 1 rfl) ?_
  refine lv_if_ne (tgt := 13) hx hb dL_act_1 (by decide) (fun _ => ?_) (fun z => absurd z (by decide))
  refine lv_iload_n hx hb dL_act_13 rfl (lv_at hl 1 rfl) ?_
  refine lv_iconst (v := nI 1) hx hb dL_act_14 (by decide) ?_
  refine lv_icmp_ne (tgt := 35) hx hb dL_act_15 (by decide) (fun _ => ?_) (fun z => absurd z (by decide))
  refine lv_iload_n hx hb dL_act_35 rfl (lv_at hl 1 rfl) ?_
  refine lv_iconst (v := nI 2) hx hb dL_act_36 (by decide) ?_
  refine lv_icmp_ne (tgt := 51) hx hb dL_act_37 (by decide) (fun _ => ?_) (fun z => absurd z (by decide))
  refine lv_iload_n hx hb dL_act_51 rfl (lv_at hl 1 rfl) ?_
  refine lv_iconst (v := nI 3) hx hb dL_act_52 (by decide) ?_
  refine lv_icmp_ne (tgt := 65) hx hb dL_act_53 (by decide) (fun z => absurd (by decide) z) (fun _ => ?_)
  refine lv_aload_n hx hb dL_act_56 rfl (lv_at hl 0 rfl) ?_
  refine lv_iload_n hx hb dL_act_57 rfl (lv_at hl 2 rfl) ?_
  refine lv_iload_n hx hb dL_act_58 rfl (lv_at hl 3 rfl) ?_
  refine yx_tryi (vx_runV (As := [.int x, .int y]) (rest := []) ⟨hx, hb, hml, hown, hts⟩ (k_X2_standIn l hlt D G h0 c r o x y hI) (cwV 2 hts gL_act_X2_standIn rfl rfl rfl (by decide +kernel) ⟨(Nat.le_of_ble_eq_true rfl), (Nat.le_of_ble_eq_true rfl)⟩) ⟨fun a U g mk q => ⟨q.1, Pr_cg q.2⟩, va_recv (ci := 3) (q0 := 0) hK hP rfl (Q_o hRc), fun U hU hW => ⟨rfl, Pr_mk hE hRc hRr hRo hP hD hS hU hW⟩⟩ rfl rfl hl.1 rfl (lv_room (Nat.le_of_ble_eq_true rfl)) dL_act_59 ⟨(Nat.le_of_ble_eq_true rfl), (Nat.le_of_ble_eq_true rfl)⟩) hS (fun E ce q9 H locs wl hpx hRc hRr hRo hP hD hS hce hcv hcl => ?_) (fun v9 u9 H locs wl hv9 hRc hRr hRo hP hD hS => ?_)
  · have hpx0 : (fun E => (E = exO ∧ ¬ (okU c x ∧ (y = -1 ∨ okU c y))) ∨ (E = exA ∧ okU c x ∧ okU c y ∧ x = y) ∨ (E = exS ∧ okU c x ∧ (y = -1 ∨ okU c y) ∧ x ≠ y ∧ c 20 3 ≠ 0)) E := hpx
    rcases hpx0 with hp0 | hp1 | hp2
    · obtain ⟨rfl, hq0⟩ := hp0
      refine vx_catch hown [] (⟨0, 144, 145, 43⟩ : ExceptionTableEntry) [(⟨0, 144, 151, 45⟩ : ExceptionTableEntry), (⟨0, 144, 157, 47⟩ : ExceptionTableEntry)] htab (fun z hz => absurd hz List.not_mem_nil) rfl (by decide) (hts (.classLink RL 43 exO) (by decide +kernel)) (va_Nw.use rfl hE.2.2.1.2.2.2.1.2.2.2.1) hce hcv hcl ?_
      refine lv_astore (lv' := [(5, .ref q9), (0, .ref (G 0)), (1, .int (nI 3)), (2, .int x), (3, .int y), (4, .int z)]) hx hb dL_act_145 hl (by decide) rfl (fun ls hl => ?_)
      refine lv_sipush (v := (-1031)) hx hb dL_act_147 (by decide) ?_
      exact W.iret (v := (-1031)) hx hb hr (fun t ht hW => ⟨⟨_, c, rfl, Or.inl ⟨exO, Or.inl ⟨rfl, hq0⟩, xc_O.symm, rfl⟩, Wr_mk hRc hRr hRo hP hD ht⟩, hS.F ht⟩) hS.2.2 dL_act_150
    · obtain ⟨rfl, hq1⟩ := hp1
      refine vx_catch hown [(⟨0, 144, 145, 43⟩ : ExceptionTableEntry)] (⟨0, 144, 151, 45⟩ : ExceptionTableEntry) [(⟨0, 144, 157, 47⟩ : ExceptionTableEntry)] htab (fun z hz => by simp only [List.mem_cons, List.not_mem_nil, or_false] at hz; subst hz; exact Or.inr ⟨by decide, exO, hts (.classLink RL 43 exO) (by decide +kernel), hE.2.2.1.2.2.2.2.2.2.1⟩) rfl (by decide) (hts (.classLink RL 45 exA) (by decide +kernel)) (va_Nw.use rfl hE.2.2.1.2.2.2.1.2.2.2.2.1) hce hcv hcl ?_
      refine lv_astore (lv' := [(5, .ref q9), (0, .ref (G 0)), (1, .int (nI 3)), (2, .int x), (3, .int y), (4, .int z)]) hx hb dL_act_151 hl (by decide) rfl (fun ls hl => ?_)
      refine lv_sipush (v := (-1032)) hx hb dL_act_153 (by decide) ?_
      exact W.iret (v := (-1032)) hx hb hr (fun t ht hW => ⟨⟨_, c, rfl, Or.inl ⟨exA, Or.inr (Or.inl ⟨rfl, hq1⟩), xc_A.symm, rfl⟩, Wr_mk hRc hRr hRo hP hD ht⟩, hS.F ht⟩) hS.2.2 dL_act_156
    · obtain ⟨rfl, hq2⟩ := hp2
      refine vx_catch hown [(⟨0, 144, 145, 43⟩ : ExceptionTableEntry), (⟨0, 144, 151, 45⟩ : ExceptionTableEntry)] (⟨0, 144, 157, 47⟩ : ExceptionTableEntry) [] htab (fun z hz => by simp only [List.mem_cons, List.not_mem_nil, or_false] at hz; rcases hz with rfl | rfl; exact Or.inr ⟨by decide, exO, hts (.classLink RL 43 exO) (by decide +kernel), hE.2.2.1.2.2.2.2.2.2.2.2.1⟩; exact Or.inr ⟨by decide, exA, hts (.classLink RL 45 exA) (by decide +kernel), hE.2.2.1.2.2.2.2.2.2.2.2.2⟩) rfl (by decide) (hts (.classLink RL 47 exS) (by decide +kernel)) (va_Nw.use rfl hE.2.2.1.2.2.2.1.2.2.2.2.2) hce hcv hcl ?_
      refine lv_astore (lv' := [(5, .ref q9), (0, .ref (G 0)), (1, .int (nI 3)), (2, .int x), (3, .int y), (4, .int z)]) hx hb dL_act_157 hl (by decide) rfl (fun ls hl => ?_)
      refine lv_sipush (v := (-1033)) hx hb dL_act_159 (by decide) ?_
      exact W.iret (v := (-1033)) hx hb hr (fun t ht hW => ⟨⟨_, c, rfl, Or.inl ⟨exS, Or.inr (Or.inr (⟨rfl, hq2⟩)), xc_S.symm, rfl⟩, Wr_mk hRc hRr hRo hP hD ht⟩, hS.F ht⟩) hS.2.2 dL_act_162
  · skip
    refine lv_goto (tgt := 144) hx hb dL_act_62 (by decide) ?_
    exact W.iret (v := v9) hx hb hr (fun t ht hW => ⟨⟨_, u9, rfl, Or.inr (hv9), Wr_mk hRc hRr hRo hP hD ht⟩, hS.F ht⟩) hS.2.2 dL_act_144
set_option maxHeartbeats 4000000 in
set_option maxRecDepth 100000 in
theorem k_L_act_hold (l : Launch) (hlt : l.stackTraces = false) (D : va_G) (G : Nat → Nat) (h0 : Nat) (c r : Nat → Nat → Nat) (o : Nat) (x z : Int32) (b : Nat) (hb1 : b ≤ 1) (hI : IC c) : Met l yL_act wsL_act ({ frames := 8, cells := 2, slots := 12, locals := 127 } : Room) (va_Pc [.ref (G 0), .int (nI 4), .int x, .int (nI b), .int z] (fun U => Pr D G h0 c r o U)) (va_Qi (fun (v9 : Int32) (u9 : Nat → Nat → Nat) => (∃ E, (fun E => (E = exO ∧ ¬ okU c x) ∨ (E = exS ∧ okU c x ∧ c 20 3 ≠ 0)) E ∧ v9 = xcode E ∧ u9 = c) ∨ (∃ a, a < c 20 1 ∧ x = nI a ∧ c 20 3 = 0 ∧ v9 = nI (c 5 a) ∧ u9 = up2 c 5 a b)) (fun (u9 : Nat → Nat → Nat) t => Wr D G h0 u9 r o t) (fun q => h0 ≤ q)) 2 12 (fun q => h0 ≤ q) := by
  refine va_MetW (cc := cL_act) (maxL := 6) (ret := (some .int)) (hh := [(0, 144, 145, 43), (0, 144, 151, 45), (0, 144, 157, 47)]) (by decide) rfl ?_
  intro p e s m args below meth cd s₁ B hml hv
  obtain ⟨rfl, hE, wl, hRc, hRr, hRo, hP, hD⟩ := hv
  have hx := B.exec
  have hb := B.bytes
  have hr := B.returns
  have hts := atoms_spec (ws := wsL_act) B.pre
  have htab := vx_table (x := yL_act) B (hts _ List.mem_cons_self)
  have hown : s.vm.findClass RL = some m.cls := findClass_of_methodNamed B.named
  have hlocks := B.notSynchronized
  have hK := hE.2.1
  have hS : va_S (fun q => h0 ≤ q) s.heap s.heap [] := va_S.rf
  have hl := lv_entry ([.ref (G 0), .int (nI 4), .int x, .int (nI b), .int z]) (n := 6) (Nat.le_of_ble_eq_true rfl)
  rw [lg_entry_eq]
  generalize (lg_sl ([.ref (G 0), .int (nI 4), .int x, .int (nI b), .int z]) ++ List.replicate (6 - (lg_sl ([.ref (G 0), .int (nI 4), .int x, .int (nI b), .int z])).length) Slot.unset).toArray = ls at hl ⊢
  have hl : lv_has ls 6 [(0, .ref (G 0)), (1, .int (nI 4)), (2, .int x), (3, .int (nI b)), (4, .int z)] := hl
  refine lv_iload_n hx hb dL_act_0 rfl (lv_at hl 1 rfl) ?_
  refine lv_if_ne (tgt := 13) hx hb dL_act_1 (by decide) (fun _ => ?_) (fun z => absurd z (by decide))
  refine lv_iload_n hx hb dL_act_13 rfl (lv_at hl 1 rfl) ?_
  refine lv_iconst (v := nI 1) hx hb dL_act_14 (by decide) ?_
  refine lv_icmp_ne (tgt := 35) hx hb dL_act_15 (by decide) (fun _ => ?_) (fun z => absurd z (by decide))
  refine lv_iload_n hx hb dL_act_35 rfl (lv_at hl 1 rfl) ?_
  refine lv_iconst (v := nI 2) hx hb dL_act_36 (by decide) ?_
  refine lv_icmp_ne (tgt := 51) hx hb dL_act_37 (by decide) (fun _ => ?_) (fun z => absurd z (by decide))
  refine lv_iload_n hx hb dL_act_51 rfl (lv_at hl 1 rfl) ?_
  refine lv_iconst (v := nI 3) hx hb dL_act_52 (by decide) ?_
  refine lv_icmp_ne (tgt := 65) hx hb dL_act_53 (by decide) (fun _ => ?_) (fun z => absurd z (by decide))
  refine lv_iload_n hx hb dL_act_65 rfl (lv_at hl 1 rfl) ?_
  refine lv_iconst (v := nI 4) hx hb dL_act_66 (by decide) ?_
  refine lv_icmp_ne (tgt := 96) hx hb dL_act_67 (by decide) (fun z => absurd (by decide) z) (fun _ => ?_)
  refine lv_aload_n hx hb dL_act_70 rfl (lv_at hl 0 rfl) ?_
  refine lv_iload_n hx hb dL_act_71 rfl (lv_at hl 2 rfl) ?_
  refine lv_iload_n hx hb dL_act_72 rfl (lv_at hl 3 rfl) ?_
  refine lv_iconst (v := nI 1) hx hb dL_act_73 (by decide) ?_
  refine n_icmp_ne (tgt := 81) hx hb dL_act_74 (by decide) (by omega) (by decide) (fun c_b => ?_) (fun c_b => ?_)
  · have e_b : b = 0 := by omega
    subst e_b
    refine lv_iconst (v := nI 0) hx hb dL_act_81 (by decide) ?_
    refine yx_tryi (vx_runV (As := [.int x, .int (nI 0)]) (rest := []) ⟨hx, hb, hml, hown, hts⟩ (k_X2_hold l hlt D G h0 c r o x 0 (by decide) hI) (cwV 2 hts gL_act_X2_hold rfl rfl rfl (by decide +kernel) ⟨(Nat.le_of_ble_eq_true rfl), (Nat.le_of_ble_eq_true rfl)⟩) ⟨fun a U g mk q => ⟨q.1, Pr_cg q.2⟩, va_recv (ci := 3) (q0 := 0) hK hP rfl (Q_o hRc), fun U hU hW => ⟨rfl, Pr_mk hE hRc hRr hRo hP hD hS hU hW⟩⟩ rfl rfl hl.1 rfl (lv_room (Nat.le_of_ble_eq_true rfl)) dL_act_82 ⟨(Nat.le_of_ble_eq_true rfl), (Nat.le_of_ble_eq_true rfl)⟩) hS (fun E ce q9 H locs wl hpx hRc hRr hRo hP hD hS hce hcv hcl => ?_) (fun v9 u9 H locs wl hv9 hRc hRr hRo hP hD hS => ?_)
    · have hpx0 : (fun E => (E = exO ∧ ¬ okU c x) ∨ (E = exS ∧ okU c x ∧ c 20 3 ≠ 0)) E := hpx
      rcases hpx0 with hp0 | hp1
      · obtain ⟨rfl, hq0⟩ := hp0
        refine vx_catch hown [] (⟨0, 144, 145, 43⟩ : ExceptionTableEntry) [(⟨0, 144, 151, 45⟩ : ExceptionTableEntry), (⟨0, 144, 157, 47⟩ : ExceptionTableEntry)] htab (fun z hz => absurd hz List.not_mem_nil) rfl (by decide) (hts (.classLink RL 43 exO) (by decide +kernel)) (va_Nw.use rfl hE.2.2.1.2.2.2.1.2.2.2.1) hce hcv hcl ?_
        refine lv_astore (lv' := [(5, .ref q9), (0, .ref (G 0)), (1, .int (nI 4)), (2, .int x), (3, .int (nI 0)), (4, .int z)]) hx hb dL_act_145 hl (by decide) rfl (fun ls hl => ?_)
        refine lv_sipush (v := (-1031)) hx hb dL_act_147 (by decide) ?_
        exact W.iret (v := (-1031)) hx hb hr (fun t ht hW => ⟨⟨_, c, rfl, Or.inl ⟨exO, Or.inl ⟨rfl, hq0⟩, xc_O.symm, rfl⟩, Wr_mk hRc hRr hRo hP hD ht⟩, hS.F ht⟩) hS.2.2 dL_act_150
      · obtain ⟨rfl, hq1⟩ := hp1
        refine vx_catch hown [(⟨0, 144, 145, 43⟩ : ExceptionTableEntry), (⟨0, 144, 151, 45⟩ : ExceptionTableEntry)] (⟨0, 144, 157, 47⟩ : ExceptionTableEntry) [] htab (fun z hz => by simp only [List.mem_cons, List.not_mem_nil, or_false] at hz; rcases hz with rfl | rfl; exact Or.inr ⟨by decide, exO, hts (.classLink RL 43 exO) (by decide +kernel), hE.2.2.1.2.2.2.2.2.2.2.2.1⟩; exact Or.inr ⟨by decide, exA, hts (.classLink RL 45 exA) (by decide +kernel), hE.2.2.1.2.2.2.2.2.2.2.2.2⟩) rfl (by decide) (hts (.classLink RL 47 exS) (by decide +kernel)) (va_Nw.use rfl hE.2.2.1.2.2.2.1.2.2.2.2.2) hce hcv hcl ?_
        refine lv_astore (lv' := [(5, .ref q9), (0, .ref (G 0)), (1, .int (nI 4)), (2, .int x), (3, .int (nI 0)), (4, .int z)]) hx hb dL_act_157 hl (by decide) rfl (fun ls hl => ?_)
        refine lv_sipush (v := (-1033)) hx hb dL_act_159 (by decide) ?_
        exact W.iret (v := (-1033)) hx hb hr (fun t ht hW => ⟨⟨_, c, rfl, Or.inl ⟨exS, Or.inr (⟨rfl, hq1⟩), xc_S.symm, rfl⟩, Wr_mk hRc hRr hRo hP hD ht⟩, hS.F ht⟩) hS.2.2 dL_act_162
    · skip
      refine lv_if_eq (tgt := 92) hx hb dL_act_85 (by decide) (fun c0 => ?_) (fun c0 => ?_)
      · have e9 : v9 = nI 0 := c0.trans nI_0.symm
        rw [e9] at hv9
        refine lv_iconst (v := nI 0) hx hb dL_act_92 (by decide) ?_
        refine lv_goto (tgt := 144) hx hb dL_act_93 (by decide) ?_
        exact W.iret (v := (nI 0)) hx hb hr (fun t ht hW => ⟨⟨_, u9, rfl, Or.inr (hv9), Wr_mk hRc hRr hRo hP hD ht⟩, hS.F ht⟩) hS.2.2 dL_act_144
      · have e9 : v9 = nI 1 := by obtain ⟨a, -, -, -, e, -⟩ := id hv9; have h5 := (IC_U hI a).2.2.2.2.2.1; rcases (show c 5 a = 0 ∨ c 5 a = 1 by omega) with q | q; exact absurd (by rw [e, q]; exact nI_0) c0; rw [e, q]
        rw [e9] at hv9
        refine lv_iconst (v := nI 1) hx hb dL_act_88 (by decide) ?_
        refine lv_goto (tgt := 144) hx hb dL_act_89 (by decide) ?_
        exact W.iret (v := (nI 1)) hx hb hr (fun t ht hW => ⟨⟨_, u9, rfl, Or.inr (hv9), Wr_mk hRc hRr hRo hP hD ht⟩, hS.F ht⟩) hS.2.2 dL_act_144
  · have e_b : b = 1 := by omega
    subst e_b
    refine lv_iconst (v := nI 1) hx hb dL_act_77 (by decide) ?_
    refine lv_goto (tgt := 82) hx hb dL_act_78 (by decide) ?_
    refine yx_tryi (vx_runV (As := [.int x, .int (nI 1)]) (rest := []) ⟨hx, hb, hml, hown, hts⟩ (k_X2_hold l hlt D G h0 c r o x 1 (by decide) hI) (cwV 2 hts gL_act_X2_hold rfl rfl rfl (by decide +kernel) ⟨(Nat.le_of_ble_eq_true rfl), (Nat.le_of_ble_eq_true rfl)⟩) ⟨fun a U g mk q => ⟨q.1, Pr_cg q.2⟩, va_recv (ci := 3) (q0 := 0) hK hP rfl (Q_o hRc), fun U hU hW => ⟨rfl, Pr_mk hE hRc hRr hRo hP hD hS hU hW⟩⟩ rfl rfl hl.1 rfl (lv_room (Nat.le_of_ble_eq_true rfl)) dL_act_82 ⟨(Nat.le_of_ble_eq_true rfl), (Nat.le_of_ble_eq_true rfl)⟩) hS (fun E ce q9 H locs wl hpx hRc hRr hRo hP hD hS hce hcv hcl => ?_) (fun v9 u9 H locs wl hv9 hRc hRr hRo hP hD hS => ?_)
    · have hpx0 : (fun E => (E = exO ∧ ¬ okU c x) ∨ (E = exS ∧ okU c x ∧ c 20 3 ≠ 0)) E := hpx
      rcases hpx0 with hp0 | hp1
      · obtain ⟨rfl, hq0⟩ := hp0
        refine vx_catch hown [] (⟨0, 144, 145, 43⟩ : ExceptionTableEntry) [(⟨0, 144, 151, 45⟩ : ExceptionTableEntry), (⟨0, 144, 157, 47⟩ : ExceptionTableEntry)] htab (fun z hz => absurd hz List.not_mem_nil) rfl (by decide) (hts (.classLink RL 43 exO) (by decide +kernel)) (va_Nw.use rfl hE.2.2.1.2.2.2.1.2.2.2.1) hce hcv hcl ?_
        refine lv_astore (lv' := [(5, .ref q9), (0, .ref (G 0)), (1, .int (nI 4)), (2, .int x), (3, .int (nI 1)), (4, .int z)]) hx hb dL_act_145 hl (by decide) rfl (fun ls hl => ?_)
        refine lv_sipush (v := (-1031)) hx hb dL_act_147 (by decide) ?_
        exact W.iret (v := (-1031)) hx hb hr (fun t ht hW => ⟨⟨_, c, rfl, Or.inl ⟨exO, Or.inl ⟨rfl, hq0⟩, xc_O.symm, rfl⟩, Wr_mk hRc hRr hRo hP hD ht⟩, hS.F ht⟩) hS.2.2 dL_act_150
      · obtain ⟨rfl, hq1⟩ := hp1
        refine vx_catch hown [(⟨0, 144, 145, 43⟩ : ExceptionTableEntry), (⟨0, 144, 151, 45⟩ : ExceptionTableEntry)] (⟨0, 144, 157, 47⟩ : ExceptionTableEntry) [] htab (fun z hz => by simp only [List.mem_cons, List.not_mem_nil, or_false] at hz; rcases hz with rfl | rfl; exact Or.inr ⟨by decide, exO, hts (.classLink RL 43 exO) (by decide +kernel), hE.2.2.1.2.2.2.2.2.2.2.2.1⟩; exact Or.inr ⟨by decide, exA, hts (.classLink RL 45 exA) (by decide +kernel), hE.2.2.1.2.2.2.2.2.2.2.2.2⟩) rfl (by decide) (hts (.classLink RL 47 exS) (by decide +kernel)) (va_Nw.use rfl hE.2.2.1.2.2.2.1.2.2.2.2.2) hce hcv hcl ?_
        refine lv_astore (lv' := [(5, .ref q9), (0, .ref (G 0)), (1, .int (nI 4)), (2, .int x), (3, .int (nI 1)), (4, .int z)]) hx hb dL_act_157 hl (by decide) rfl (fun ls hl => ?_)
        refine lv_sipush (v := (-1033)) hx hb dL_act_159 (by decide) ?_
        exact W.iret (v := (-1033)) hx hb hr (fun t ht hW => ⟨⟨_, c, rfl, Or.inl ⟨exS, Or.inr (⟨rfl, hq1⟩), xc_S.symm, rfl⟩, Wr_mk hRc hRr hRo hP hD ht⟩, hS.F ht⟩) hS.2.2 dL_act_162
    · skip
      refine lv_if_eq (tgt := 92) hx hb dL_act_85 (by decide) (fun c0 => ?_) (fun c0 => ?_)
      · have e9 : v9 = nI 0 := c0.trans nI_0.symm
        rw [e9] at hv9
        refine lv_iconst (v := nI 0) hx hb dL_act_92 (by decide) ?_
        refine lv_goto (tgt := 144) hx hb dL_act_93 (by decide) ?_
        exact W.iret (v := (nI 0)) hx hb hr (fun t ht hW => ⟨⟨_, u9, rfl, Or.inr (hv9), Wr_mk hRc hRr hRo hP hD ht⟩, hS.F ht⟩) hS.2.2 dL_act_144
      · have e9 : v9 = nI 1 := by obtain ⟨a, -, -, -, e, -⟩ := id hv9; have h5 := (IC_U hI a).2.2.2.2.2.1; rcases (show c 5 a = 0 ∨ c 5 a = 1 by omega) with q | q; exact absurd (by rw [e, q]; exact nI_0) c0; rw [e, q]
        rw [e9] at hv9
        refine lv_iconst (v := nI 1) hx hb dL_act_88 (by decide) ?_
        refine lv_goto (tgt := 144) hx hb dL_act_89 (by decide) ?_
        exact W.iret (v := (nI 1)) hx hb hr (fun t ht hW => ⟨⟨_, u9, rfl, Or.inr (hv9), Wr_mk hRc hRr hRo hP hD ht⟩, hS.F ht⟩) hS.2.2 dL_act_144
set_option maxHeartbeats 4000000 in
set_option maxRecDepth 100000 in
theorem k_L_act_setFaults (l : Launch) (hlt : l.stackTraces = false) (D : va_G) (G : Nat → Nat) (h0 : Nat) (c r : Nat → Nat → Nat) (o : Nat) (x y z : Int32) (hI : IC c) : Met l yL_act wsL_act ({ frames := 8, cells := 2, slots := 12, locals := 129 } : Room) (va_Pc [.ref (G 0), .int (nI 5), .int x, .int y, .int z] (fun U => Pr D G h0 c r o U)) (va_Qi (fun (v9 : Int32) (u9 : Nat → Nat → Nat) => (∃ E, (fun E => (E = exO ∧ ¬ okU c x) ∨ (E = exA ∧ okU c x ∧ ¬ inR y 0 10)) E ∧ v9 = xcode E ∧ u9 = c) ∨ (∃ a t, a < c 20 1 ∧ x = nI a ∧ (0 ≤ t ∧ t ≤ 10) ∧ y = nI t ∧ v9 = nI (c 4 a) ∧ u9 = up2 c 4 a t)) (fun (u9 : Nat → Nat → Nat) t => Wr D G h0 u9 r o t) (fun q => h0 ≤ q)) 2 12 (fun q => h0 ≤ q) := by
  refine va_MetW (cc := cL_act) (maxL := 6) (ret := (some .int)) (hh := [(0, 144, 145, 43), (0, 144, 151, 45), (0, 144, 157, 47)]) (by decide) rfl ?_
  intro p e s m args below meth cd s₁ B hml hv
  obtain ⟨rfl, hE, wl, hRc, hRr, hRo, hP, hD⟩ := hv
  have hx := B.exec
  have hb := B.bytes
  have hr := B.returns
  have hts := atoms_spec (ws := wsL_act) B.pre
  have htab := vx_table (x := yL_act) B (hts _ List.mem_cons_self)
  have hown : s.vm.findClass RL = some m.cls := findClass_of_methodNamed B.named
  have hlocks := B.notSynchronized
  have hK := hE.2.1
  have hS : va_S (fun q => h0 ≤ q) s.heap s.heap [] := va_S.rf
  have hl := lv_entry ([.ref (G 0), .int (nI 5), .int x, .int y, .int z]) (n := 6) (Nat.le_of_ble_eq_true rfl)
  rw [lg_entry_eq]
  generalize (lg_sl ([.ref (G 0), .int (nI 5), .int x, .int y, .int z]) ++ List.replicate (6 - (lg_sl ([.ref (G 0), .int (nI 5), .int x, .int y, .int z])).length) Slot.unset).toArray = ls at hl ⊢
  have hl : lv_has ls 6 [(0, .ref (G 0)), (1, .int (nI 5)), (2, .int x), (3, .int y), (4, .int z)] := hl
  refine lv_iload_n hx hb dL_act_0 rfl (lv_at hl 1 rfl) ?_
  refine lv_if_ne (tgt := 13) hx hb dL_act_1 (by decide) (fun _ => ?_) (fun z => absurd z (by decide))
  refine lv_iload_n hx hb dL_act_13 rfl (lv_at hl 1 rfl) ?_
  refine lv_iconst (v := nI 1) hx hb dL_act_14 (by decide) ?_
  refine lv_icmp_ne (tgt := 35) hx hb dL_act_15 (by decide) (fun _ => ?_) (fun z => absurd z (by decide))
  refine lv_iload_n hx hb dL_act_35 rfl (lv_at hl 1 rfl) ?_
  refine lv_iconst (v := nI 2) hx hb dL_act_36 (by decide) ?_
  refine lv_icmp_ne (tgt := 51) hx hb dL_act_37 (by decide) (fun _ => ?_) (fun z => absurd z (by decide))
  refine lv_iload_n hx hb dL_act_51 rfl (lv_at hl 1 rfl) ?_
  refine lv_iconst (v := nI 3) hx hb dL_act_52 (by decide) ?_
  refine lv_icmp_ne (tgt := 65) hx hb dL_act_53 (by decide) (fun _ => ?_) (fun z => absurd z (by decide))
  refine lv_iload_n hx hb dL_act_65 rfl (lv_at hl 1 rfl) ?_
  refine lv_iconst (v := nI 4) hx hb dL_act_66 (by decide) ?_
  refine lv_icmp_ne (tgt := 96) hx hb dL_act_67 (by decide) (fun _ => ?_) (fun z => absurd z (by decide))
  refine lv_iload_n hx hb dL_act_96 rfl (lv_at hl 1 rfl) ?_
  refine lv_iconst (v := nI 5) hx hb dL_act_97 (by decide) ?_
  refine lv_icmp_ne (tgt := 110) hx hb dL_act_98 (by decide) (fun z => absurd (by decide) z) (fun _ => ?_)
  refine lv_aload_n hx hb dL_act_101 rfl (lv_at hl 0 rfl) ?_
  refine lv_iload_n hx hb dL_act_102 rfl (lv_at hl 2 rfl) ?_
  refine lv_iload_n hx hb dL_act_103 rfl (lv_at hl 3 rfl) ?_
  refine yx_tryi (vx_runV (As := [.int x, .int y]) (rest := []) ⟨hx, hb, hml, hown, hts⟩ (k_X2_setFaults l hlt D G h0 c r o x y hI) (cwV 2 hts gL_act_X2_setFaults rfl rfl rfl (by decide +kernel) ⟨(Nat.le_of_ble_eq_true rfl), (Nat.le_of_ble_eq_true rfl)⟩) ⟨fun a U g mk q => ⟨q.1, Pr_cg q.2⟩, va_recv (ci := 3) (q0 := 0) hK hP rfl (Q_o hRc), fun U hU hW => ⟨rfl, Pr_mk hE hRc hRr hRo hP hD hS hU hW⟩⟩ rfl rfl hl.1 rfl (lv_room (Nat.le_of_ble_eq_true rfl)) dL_act_104 ⟨(Nat.le_of_ble_eq_true rfl), (Nat.le_of_ble_eq_true rfl)⟩) hS (fun E ce q9 H locs wl hpx hRc hRr hRo hP hD hS hce hcv hcl => ?_) (fun v9 u9 H locs wl hv9 hRc hRr hRo hP hD hS => ?_)
  · have hpx0 : (fun E => (E = exO ∧ ¬ okU c x) ∨ (E = exA ∧ okU c x ∧ ¬ inR y 0 10)) E := hpx
    rcases hpx0 with hp0 | hp1
    · obtain ⟨rfl, hq0⟩ := hp0
      refine vx_catch hown [] (⟨0, 144, 145, 43⟩ : ExceptionTableEntry) [(⟨0, 144, 151, 45⟩ : ExceptionTableEntry), (⟨0, 144, 157, 47⟩ : ExceptionTableEntry)] htab (fun z hz => absurd hz List.not_mem_nil) rfl (by decide) (hts (.classLink RL 43 exO) (by decide +kernel)) (va_Nw.use rfl hE.2.2.1.2.2.2.1.2.2.2.1) hce hcv hcl ?_
      refine lv_astore (lv' := [(5, .ref q9), (0, .ref (G 0)), (1, .int (nI 5)), (2, .int x), (3, .int y), (4, .int z)]) hx hb dL_act_145 hl (by decide) rfl (fun ls hl => ?_)
      refine lv_sipush (v := (-1031)) hx hb dL_act_147 (by decide) ?_
      exact W.iret (v := (-1031)) hx hb hr (fun t ht hW => ⟨⟨_, c, rfl, Or.inl ⟨exO, Or.inl ⟨rfl, hq0⟩, xc_O.symm, rfl⟩, Wr_mk hRc hRr hRo hP hD ht⟩, hS.F ht⟩) hS.2.2 dL_act_150
    · obtain ⟨rfl, hq1⟩ := hp1
      refine vx_catch hown [(⟨0, 144, 145, 43⟩ : ExceptionTableEntry)] (⟨0, 144, 151, 45⟩ : ExceptionTableEntry) [(⟨0, 144, 157, 47⟩ : ExceptionTableEntry)] htab (fun z hz => by simp only [List.mem_cons, List.not_mem_nil, or_false] at hz; subst hz; exact Or.inr ⟨by decide, exO, hts (.classLink RL 43 exO) (by decide +kernel), hE.2.2.1.2.2.2.2.2.2.1⟩) rfl (by decide) (hts (.classLink RL 45 exA) (by decide +kernel)) (va_Nw.use rfl hE.2.2.1.2.2.2.1.2.2.2.2.1) hce hcv hcl ?_
      refine lv_astore (lv' := [(5, .ref q9), (0, .ref (G 0)), (1, .int (nI 5)), (2, .int x), (3, .int y), (4, .int z)]) hx hb dL_act_151 hl (by decide) rfl (fun ls hl => ?_)
      refine lv_sipush (v := (-1032)) hx hb dL_act_153 (by decide) ?_
      exact W.iret (v := (-1032)) hx hb hr (fun t ht hW => ⟨⟨_, c, rfl, Or.inl ⟨exA, Or.inr (⟨rfl, hq1⟩), xc_A.symm, rfl⟩, Wr_mk hRc hRr hRo hP hD ht⟩, hS.F ht⟩) hS.2.2 dL_act_156
  · skip
    refine lv_goto (tgt := 144) hx hb dL_act_107 (by decide) ?_
    exact W.iret (v := v9) hx hb hr (fun t ht hW => ⟨⟨_, u9, rfl, Or.inr (hv9), Wr_mk hRc hRr hRo hP hD ht⟩, hS.F ht⟩) hS.2.2 dL_act_144
set_option maxHeartbeats 4000000 in
set_option maxRecDepth 100000 in
theorem k_L_act_setTime (l : Launch) (hlt : l.stackTraces = false) (D : va_G) (G : Nat → Nat) (h0 : Nat) (c r : Nat → Nat → Nat) (o : Nat) (x y z : Int32) (hI : IC c) : Met l yL_act wsL_act ({ frames := 8, cells := 2, slots := 12, locals := 129 } : Room) (va_Pc [.ref (G 0), .int (nI 6), .int x, .int y, .int z] (fun U => Pr D G h0 c r o U)) (va_Qi (fun (v9 : Int32) (u9 : Nat → Nat → Nat) => (∃ E, (fun E => (E = exO ∧ ¬ okU c x) ∨ (E = exA ∧ okU c x ∧ ¬ inR y 1 100)) E ∧ v9 = xcode E ∧ u9 = c) ∨ (∃ a t, a < c 20 1 ∧ x = nI a ∧ (1 ≤ t ∧ t ≤ 100) ∧ y = nI t ∧ v9 = nI (c 1 a) ∧ u9 = up2 c 1 a t)) (fun (u9 : Nat → Nat → Nat) t => Wr D G h0 u9 r o t) (fun q => h0 ≤ q)) 2 12 (fun q => h0 ≤ q) := by
  refine va_MetW (cc := cL_act) (maxL := 6) (ret := (some .int)) (hh := [(0, 144, 145, 43), (0, 144, 151, 45), (0, 144, 157, 47)]) (by decide) rfl ?_
  intro p e s m args below meth cd s₁ B hml hv
  obtain ⟨rfl, hE, wl, hRc, hRr, hRo, hP, hD⟩ := hv
  have hx := B.exec
  have hb := B.bytes
  have hr := B.returns
  have hts := atoms_spec (ws := wsL_act) B.pre
  have htab := vx_table (x := yL_act) B (hts _ List.mem_cons_self)
  have hown : s.vm.findClass RL = some m.cls := findClass_of_methodNamed B.named
  have hlocks := B.notSynchronized
  have hK := hE.2.1
  have hS : va_S (fun q => h0 ≤ q) s.heap s.heap [] := va_S.rf
  have hl := lv_entry ([.ref (G 0), .int (nI 6), .int x, .int y, .int z]) (n := 6) (Nat.le_of_ble_eq_true rfl)
  rw [lg_entry_eq]
  generalize (lg_sl ([.ref (G 0), .int (nI 6), .int x, .int y, .int z]) ++ List.replicate (6 - (lg_sl ([.ref (G 0), .int (nI 6), .int x, .int y, .int z])).length) Slot.unset).toArray = ls at hl ⊢
  have hl : lv_has ls 6 [(0, .ref (G 0)), (1, .int (nI 6)), (2, .int x), (3, .int y), (4, .int z)] := hl
  refine lv_iload_n hx hb dL_act_0 rfl (lv_at hl 1 rfl) ?_
  refine lv_if_ne (tgt := 13) hx hb dL_act_1 (by decide) (fun _ => ?_) (fun z => absurd z (by decide))
  refine lv_iload_n hx hb dL_act_13 rfl (lv_at hl 1 rfl) ?_
  refine lv_iconst (v := nI 1) hx hb dL_act_14 (by decide) ?_
  refine lv_icmp_ne (tgt := 35) hx hb dL_act_15 (by decide) (fun _ => ?_) (fun z => absurd z (by decide))
  refine lv_iload_n hx hb dL_act_35 rfl (lv_at hl 1 rfl) ?_
  refine lv_iconst (v := nI 2) hx hb dL_act_36 (by decide) ?_
  refine lv_icmp_ne (tgt := 51) hx hb dL_act_37 (by decide) (fun _ => ?_) (fun z => absurd z (by decide))
  refine lv_iload_n hx hb dL_act_51 rfl (lv_at hl 1 rfl) ?_
  refine lv_iconst (v := nI 3) hx hb dL_act_52 (by decide) ?_
  refine lv_icmp_ne (tgt := 65) hx hb dL_act_53 (by decide) (fun _ => ?_) (fun z => absurd z (by decide))
  refine lv_iload_n hx hb dL_act_65 rfl (lv_at hl 1 rfl) ?_
  refine lv_iconst (v := nI 4) hx hb dL_act_66 (by decide) ?_
  refine lv_icmp_ne (tgt := 96) hx hb dL_act_67 (by decide) (fun _ => ?_) (fun z => absurd z (by decide))
  refine lv_iload_n hx hb dL_act_96 rfl (lv_at hl 1 rfl) ?_
  refine lv_iconst (v := nI 5) hx hb dL_act_97 (by decide) ?_
  refine lv_icmp_ne (tgt := 110) hx hb dL_act_98 (by decide) (fun _ => ?_) (fun z => absurd z (by decide))
  refine lv_iload_n hx hb dL_act_110 rfl (lv_at hl 1 rfl) ?_
  refine lv_bipush (v := nI 6) hx hb dL_act_111 (by decide) ?_
  refine lv_icmp_ne (tgt := 125) hx hb dL_act_113 (by decide) (fun z => absurd (by decide) z) (fun _ => ?_)
  refine lv_aload_n hx hb dL_act_116 rfl (lv_at hl 0 rfl) ?_
  refine lv_iload_n hx hb dL_act_117 rfl (lv_at hl 2 rfl) ?_
  refine lv_iload_n hx hb dL_act_118 rfl (lv_at hl 3 rfl) ?_
  refine yx_tryi (vx_runV (As := [.int x, .int y]) (rest := []) ⟨hx, hb, hml, hown, hts⟩ (k_X2_setTime l hlt D G h0 c r o x y hI) (cwV 2 hts gL_act_X2_setTime rfl rfl rfl (by decide +kernel) ⟨(Nat.le_of_ble_eq_true rfl), (Nat.le_of_ble_eq_true rfl)⟩) ⟨fun a U g mk q => ⟨q.1, Pr_cg q.2⟩, va_recv (ci := 3) (q0 := 0) hK hP rfl (Q_o hRc), fun U hU hW => ⟨rfl, Pr_mk hE hRc hRr hRo hP hD hS hU hW⟩⟩ rfl rfl hl.1 rfl (lv_room (Nat.le_of_ble_eq_true rfl)) dL_act_119 ⟨(Nat.le_of_ble_eq_true rfl), (Nat.le_of_ble_eq_true rfl)⟩) hS (fun E ce q9 H locs wl hpx hRc hRr hRo hP hD hS hce hcv hcl => ?_) (fun v9 u9 H locs wl hv9 hRc hRr hRo hP hD hS => ?_)
  · have hpx0 : (fun E => (E = exO ∧ ¬ okU c x) ∨ (E = exA ∧ okU c x ∧ ¬ inR y 1 100)) E := hpx
    rcases hpx0 with hp0 | hp1
    · obtain ⟨rfl, hq0⟩ := hp0
      refine vx_catch hown [] (⟨0, 144, 145, 43⟩ : ExceptionTableEntry) [(⟨0, 144, 151, 45⟩ : ExceptionTableEntry), (⟨0, 144, 157, 47⟩ : ExceptionTableEntry)] htab (fun z hz => absurd hz List.not_mem_nil) rfl (by decide) (hts (.classLink RL 43 exO) (by decide +kernel)) (va_Nw.use rfl hE.2.2.1.2.2.2.1.2.2.2.1) hce hcv hcl ?_
      refine lv_astore (lv' := [(5, .ref q9), (0, .ref (G 0)), (1, .int (nI 6)), (2, .int x), (3, .int y), (4, .int z)]) hx hb dL_act_145 hl (by decide) rfl (fun ls hl => ?_)
      refine lv_sipush (v := (-1031)) hx hb dL_act_147 (by decide) ?_
      exact W.iret (v := (-1031)) hx hb hr (fun t ht hW => ⟨⟨_, c, rfl, Or.inl ⟨exO, Or.inl ⟨rfl, hq0⟩, xc_O.symm, rfl⟩, Wr_mk hRc hRr hRo hP hD ht⟩, hS.F ht⟩) hS.2.2 dL_act_150
    · obtain ⟨rfl, hq1⟩ := hp1
      refine vx_catch hown [(⟨0, 144, 145, 43⟩ : ExceptionTableEntry)] (⟨0, 144, 151, 45⟩ : ExceptionTableEntry) [(⟨0, 144, 157, 47⟩ : ExceptionTableEntry)] htab (fun z hz => by simp only [List.mem_cons, List.not_mem_nil, or_false] at hz; subst hz; exact Or.inr ⟨by decide, exO, hts (.classLink RL 43 exO) (by decide +kernel), hE.2.2.1.2.2.2.2.2.2.1⟩) rfl (by decide) (hts (.classLink RL 45 exA) (by decide +kernel)) (va_Nw.use rfl hE.2.2.1.2.2.2.1.2.2.2.2.1) hce hcv hcl ?_
      refine lv_astore (lv' := [(5, .ref q9), (0, .ref (G 0)), (1, .int (nI 6)), (2, .int x), (3, .int y), (4, .int z)]) hx hb dL_act_151 hl (by decide) rfl (fun ls hl => ?_)
      refine lv_sipush (v := (-1032)) hx hb dL_act_153 (by decide) ?_
      exact W.iret (v := (-1032)) hx hb hr (fun t ht hW => ⟨⟨_, c, rfl, Or.inl ⟨exA, Or.inr (⟨rfl, hq1⟩), xc_A.symm, rfl⟩, Wr_mk hRc hRr hRo hP hD ht⟩, hS.F ht⟩) hS.2.2 dL_act_156
  · skip
    refine lv_goto (tgt := 144) hx hb dL_act_122 (by decide) ?_
    exact W.iret (v := v9) hx hb hr (fun t ht hW => ⟨⟨_, u9, rfl, Or.inr (hv9), Wr_mk hRc hRr hRo hP hD ht⟩, hS.F ht⟩) hS.2.2 dL_act_144
set_option maxHeartbeats 4000000 in
set_option maxRecDepth 100000 in
theorem k_L_act_begin (l : Launch) (hlt : l.stackTraces = false) (D : va_G) (G : Nat → Nat) (h0 : Nat) (c r : Nat → Nat → Nat) (o : Nat) (x y z : Int32) (hI : IC c) (hW5 : c 30 0 ≤ 512) : Met l yL_act wsL_act ({ frames := 8, cells := 2, slots := 12, locals := 133 } : Room) (va_Pc [.ref (G 0), .int (nI 7), .int x, .int y, .int z] (fun U => Pr D G h0 c r o U)) (va_Qi (fun (v9 : Int32) (u9 : Nat → Nat → Nat) => (∃ E, (fun E => (E = exA ∧ ¬ inR x 1 20) ∨ (E = exS ∧ inR x 1 20 ∧ c 20 3 ≠ 0)) E ∧ v9 = xcode E ∧ u9 = c) ∨ (∃ b, (1 ≤ b ∧ b ≤ 20) ∧ x = nI b ∧ c 20 3 = 0 ∧ v9 = nI (cutC (up2 c 20 4 b)).2 ∧ u9 = c_begin c b)) (fun (u9 : Nat → Nat → Nat) t => Wr D G h0 u9 r o t) (fun q => h0 ≤ q)) 2 12 (fun q => h0 ≤ q) := by
  refine va_MetW (cc := cL_act) (maxL := 6) (ret := (some .int)) (hh := [(0, 144, 145, 43), (0, 144, 151, 45), (0, 144, 157, 47)]) (by decide) rfl ?_
  intro p e s m args below meth cd s₁ B hml hv
  obtain ⟨rfl, hE, wl, hRc, hRr, hRo, hP, hD⟩ := hv
  have hx := B.exec
  have hb := B.bytes
  have hr := B.returns
  have hts := atoms_spec (ws := wsL_act) B.pre
  have htab := vx_table (x := yL_act) B (hts _ List.mem_cons_self)
  have hown : s.vm.findClass RL = some m.cls := findClass_of_methodNamed B.named
  have hlocks := B.notSynchronized
  have hK := hE.2.1
  have hS : va_S (fun q => h0 ≤ q) s.heap s.heap [] := va_S.rf
  have hl := lv_entry ([.ref (G 0), .int (nI 7), .int x, .int y, .int z]) (n := 6) (Nat.le_of_ble_eq_true rfl)
  rw [lg_entry_eq]
  generalize (lg_sl ([.ref (G 0), .int (nI 7), .int x, .int y, .int z]) ++ List.replicate (6 - (lg_sl ([.ref (G 0), .int (nI 7), .int x, .int y, .int z])).length) Slot.unset).toArray = ls at hl ⊢
  have hl : lv_has ls 6 [(0, .ref (G 0)), (1, .int (nI 7)), (2, .int x), (3, .int y), (4, .int z)] := hl
  refine lv_iload_n hx hb dL_act_0 rfl (lv_at hl 1 rfl) ?_
  refine lv_if_ne (tgt := 13) hx hb dL_act_1 (by decide) (fun _ => ?_) (fun z => absurd z (by decide))
  refine lv_iload_n hx hb dL_act_13 rfl (lv_at hl 1 rfl) ?_
  refine lv_iconst (v := nI 1) hx hb dL_act_14 (by decide) ?_
  refine lv_icmp_ne (tgt := 35) hx hb dL_act_15 (by decide) (fun _ => ?_) (fun z => absurd z (by decide))
  refine lv_iload_n hx hb dL_act_35 rfl (lv_at hl 1 rfl) ?_
  refine lv_iconst (v := nI 2) hx hb dL_act_36 (by decide) ?_
  refine lv_icmp_ne (tgt := 51) hx hb dL_act_37 (by decide) (fun _ => ?_) (fun z => absurd z (by decide))
  refine lv_iload_n hx hb dL_act_51 rfl (lv_at hl 1 rfl) ?_
  refine lv_iconst (v := nI 3) hx hb dL_act_52 (by decide) ?_
  refine lv_icmp_ne (tgt := 65) hx hb dL_act_53 (by decide) (fun _ => ?_) (fun z => absurd z (by decide))
  refine lv_iload_n hx hb dL_act_65 rfl (lv_at hl 1 rfl) ?_
  refine lv_iconst (v := nI 4) hx hb dL_act_66 (by decide) ?_
  refine lv_icmp_ne (tgt := 96) hx hb dL_act_67 (by decide) (fun _ => ?_) (fun z => absurd z (by decide))
  refine lv_iload_n hx hb dL_act_96 rfl (lv_at hl 1 rfl) ?_
  refine lv_iconst (v := nI 5) hx hb dL_act_97 (by decide) ?_
  refine lv_icmp_ne (tgt := 110) hx hb dL_act_98 (by decide) (fun _ => ?_) (fun z => absurd z (by decide))
  refine lv_iload_n hx hb dL_act_110 rfl (lv_at hl 1 rfl) ?_
  refine lv_bipush (v := nI 6) hx hb dL_act_111 (by decide) ?_
  refine lv_icmp_ne (tgt := 125) hx hb dL_act_113 (by decide) (fun _ => ?_) (fun z => absurd z (by decide))
  refine lv_iload_n hx hb dL_act_125 rfl (lv_at hl 1 rfl) ?_
  refine lv_bipush (v := nI 7) hx hb dL_act_126 (by decide) ?_
  refine lv_icmp_ne (tgt := 139) hx hb dL_act_128 (by decide) (fun z => absurd (by decide) z) (fun _ => ?_)
  refine lv_aload_n hx hb dL_act_131 rfl (lv_at hl 0 rfl) ?_
  refine lv_iload_n hx hb dL_act_132 rfl (lv_at hl 2 rfl) ?_
  refine yx_tryi (vx_runV (As := [.int x]) (rest := []) ⟨hx, hb, hml, hown, hts⟩ (k_X2_begin l hlt D G h0 c r o x hI hW5) (cwV 1 hts gL_act_X2_begin rfl rfl rfl (by decide +kernel) ⟨(Nat.le_of_ble_eq_true rfl), (Nat.le_of_ble_eq_true rfl)⟩) ⟨fun a U g mk q => ⟨q.1, Pr_cg q.2⟩, va_recv (ci := 3) (q0 := 0) hK hP rfl (Q_o hRc), fun U hU hW => ⟨rfl, Pr_mk hE hRc hRr hRo hP hD hS hU hW⟩⟩ rfl rfl hl.1 rfl (lv_room (Nat.le_of_ble_eq_true rfl)) dL_act_133 ⟨(Nat.le_of_ble_eq_true rfl), (Nat.le_of_ble_eq_true rfl)⟩) hS (fun E ce q9 H locs wl hpx hRc hRr hRo hP hD hS hce hcv hcl => ?_) (fun v9 u9 H locs wl hv9 hRc hRr hRo hP hD hS => ?_)
  · have hpx0 : (fun E => (E = exA ∧ ¬ inR x 1 20) ∨ (E = exS ∧ inR x 1 20 ∧ c 20 3 ≠ 0)) E := hpx
    rcases hpx0 with hp0 | hp1
    · obtain ⟨rfl, hq0⟩ := hp0
      refine vx_catch hown [(⟨0, 144, 145, 43⟩ : ExceptionTableEntry)] (⟨0, 144, 151, 45⟩ : ExceptionTableEntry) [(⟨0, 144, 157, 47⟩ : ExceptionTableEntry)] htab (fun z hz => by simp only [List.mem_cons, List.not_mem_nil, or_false] at hz; subst hz; exact Or.inr ⟨by decide, exO, hts (.classLink RL 43 exO) (by decide +kernel), hE.2.2.1.2.2.2.2.2.2.1⟩) rfl (by decide) (hts (.classLink RL 45 exA) (by decide +kernel)) (va_Nw.use rfl hE.2.2.1.2.2.2.1.2.2.2.2.1) hce hcv hcl ?_
      refine lv_astore (lv' := [(5, .ref q9), (0, .ref (G 0)), (1, .int (nI 7)), (2, .int x), (3, .int y), (4, .int z)]) hx hb dL_act_151 hl (by decide) rfl (fun ls hl => ?_)
      refine lv_sipush (v := (-1032)) hx hb dL_act_153 (by decide) ?_
      exact W.iret (v := (-1032)) hx hb hr (fun t ht hW => ⟨⟨_, c, rfl, Or.inl ⟨exA, Or.inl ⟨rfl, hq0⟩, xc_A.symm, rfl⟩, Wr_mk hRc hRr hRo hP hD ht⟩, hS.F ht⟩) hS.2.2 dL_act_156
    · obtain ⟨rfl, hq1⟩ := hp1
      refine vx_catch hown [(⟨0, 144, 145, 43⟩ : ExceptionTableEntry), (⟨0, 144, 151, 45⟩ : ExceptionTableEntry)] (⟨0, 144, 157, 47⟩ : ExceptionTableEntry) [] htab (fun z hz => by simp only [List.mem_cons, List.not_mem_nil, or_false] at hz; rcases hz with rfl | rfl; exact Or.inr ⟨by decide, exO, hts (.classLink RL 43 exO) (by decide +kernel), hE.2.2.1.2.2.2.2.2.2.2.2.1⟩; exact Or.inr ⟨by decide, exA, hts (.classLink RL 45 exA) (by decide +kernel), hE.2.2.1.2.2.2.2.2.2.2.2.2⟩) rfl (by decide) (hts (.classLink RL 47 exS) (by decide +kernel)) (va_Nw.use rfl hE.2.2.1.2.2.2.1.2.2.2.2.2) hce hcv hcl ?_
      refine lv_astore (lv' := [(5, .ref q9), (0, .ref (G 0)), (1, .int (nI 7)), (2, .int x), (3, .int y), (4, .int z)]) hx hb dL_act_157 hl (by decide) rfl (fun ls hl => ?_)
      refine lv_sipush (v := (-1033)) hx hb dL_act_159 (by decide) ?_
      exact W.iret (v := (-1033)) hx hb hr (fun t ht hW => ⟨⟨_, c, rfl, Or.inl ⟨exS, Or.inr (⟨rfl, hq1⟩), xc_S.symm, rfl⟩, Wr_mk hRc hRr hRo hP hD ht⟩, hS.F ht⟩) hS.2.2 dL_act_162
  · skip
    refine lv_goto (tgt := 144) hx hb dL_act_136 (by decide) ?_
    exact W.iret (v := v9) hx hb hr (fun t ht hW => ⟨⟨_, u9, rfl, Or.inr (hv9), Wr_mk hRc hRr hRo hP hD ht⟩, hS.F ht⟩) hS.2.2 dL_act_144
set_option maxHeartbeats 4000000 in
set_option maxRecDepth 100000 in
theorem k_L_act_tick (l : Launch) (hlt : l.stackTraces = false) (D : va_G) (G : Nat → Nat) (h0 : Nat) (c r : Nat → Nat → Nat) (o : Nat) (x y z : Int32) (hI : IC c) : Met l yL_act wsL_act ({ frames := 8, cells := 2, slots := 12, locals := 129 } : Room) (va_Pc [.ref (G 0), .int (nI 8), .int x, .int y, .int z] (fun U => Pr D G h0 c r o U)) (va_Qi (fun (v9 : Int32) (u9 : Nat → Nat → Nat) => (∃ E, (fun E => (E = exA ∧ ¬ inR x 1 200) ∨ (E = exS ∧ inR x 1 200 ∧ c 20 3 = 0)) E ∧ v9 = xcode E ∧ u9 = c) ∨ (∃ t i, (1 ≤ t ∧ t ≤ 200) ∧ x = nI t ∧ c 20 3 ≠ 0 ∧ i ≤ t ∧ (∀ j, j < i → c_tkI c j 20 3 ≠ 0) ∧ (i = t ∨ c_tkI c i 20 3 = 0) ∧ v9 = nI i ∧ u9 = c_tkI c i)) (fun (u9 : Nat → Nat → Nat) t => Wr D G h0 u9 r o t) (fun q => h0 ≤ q)) 2 12 (fun q => h0 ≤ q) := by
  refine va_MetW (cc := cL_act) (maxL := 6) (ret := (some .int)) (hh := [(0, 144, 145, 43), (0, 144, 151, 45), (0, 144, 157, 47)]) (by decide) rfl ?_
  intro p e s m args below meth cd s₁ B hml hv
  obtain ⟨rfl, hE, wl, hRc, hRr, hRo, hP, hD⟩ := hv
  have hx := B.exec
  have hb := B.bytes
  have hr := B.returns
  have hts := atoms_spec (ws := wsL_act) B.pre
  have htab := vx_table (x := yL_act) B (hts _ List.mem_cons_self)
  have hown : s.vm.findClass RL = some m.cls := findClass_of_methodNamed B.named
  have hlocks := B.notSynchronized
  have hK := hE.2.1
  have hS : va_S (fun q => h0 ≤ q) s.heap s.heap [] := va_S.rf
  have hl := lv_entry ([.ref (G 0), .int (nI 8), .int x, .int y, .int z]) (n := 6) (Nat.le_of_ble_eq_true rfl)
  rw [lg_entry_eq]
  generalize (lg_sl ([.ref (G 0), .int (nI 8), .int x, .int y, .int z]) ++ List.replicate (6 - (lg_sl ([.ref (G 0), .int (nI 8), .int x, .int y, .int z])).length) Slot.unset).toArray = ls at hl ⊢
  have hl : lv_has ls 6 [(0, .ref (G 0)), (1, .int (nI 8)), (2, .int x), (3, .int y), (4, .int z)] := hl
  refine lv_iload_n hx hb dL_act_0 rfl (lv_at hl 1 rfl) ?_
  refine lv_if_ne (tgt := 13) hx hb dL_act_1 (by decide) (fun _ => ?_) (fun z => absurd z (by decide))
  refine lv_iload_n hx hb dL_act_13 rfl (lv_at hl 1 rfl) ?_
  refine lv_iconst (v := nI 1) hx hb dL_act_14 (by decide) ?_
  refine lv_icmp_ne (tgt := 35) hx hb dL_act_15 (by decide) (fun _ => ?_) (fun z => absurd z (by decide))
  refine lv_iload_n hx hb dL_act_35 rfl (lv_at hl 1 rfl) ?_
  refine lv_iconst (v := nI 2) hx hb dL_act_36 (by decide) ?_
  refine lv_icmp_ne (tgt := 51) hx hb dL_act_37 (by decide) (fun _ => ?_) (fun z => absurd z (by decide))
  refine lv_iload_n hx hb dL_act_51 rfl (lv_at hl 1 rfl) ?_
  refine lv_iconst (v := nI 3) hx hb dL_act_52 (by decide) ?_
  refine lv_icmp_ne (tgt := 65) hx hb dL_act_53 (by decide) (fun _ => ?_) (fun z => absurd z (by decide))
  refine lv_iload_n hx hb dL_act_65 rfl (lv_at hl 1 rfl) ?_
  refine lv_iconst (v := nI 4) hx hb dL_act_66 (by decide) ?_
  refine lv_icmp_ne (tgt := 96) hx hb dL_act_67 (by decide) (fun _ => ?_) (fun z => absurd z (by decide))
  refine lv_iload_n hx hb dL_act_96 rfl (lv_at hl 1 rfl) ?_
  refine lv_iconst (v := nI 5) hx hb dL_act_97 (by decide) ?_
  refine lv_icmp_ne (tgt := 110) hx hb dL_act_98 (by decide) (fun _ => ?_) (fun z => absurd z (by decide))
  refine lv_iload_n hx hb dL_act_110 rfl (lv_at hl 1 rfl) ?_
  refine lv_bipush (v := nI 6) hx hb dL_act_111 (by decide) ?_
  refine lv_icmp_ne (tgt := 125) hx hb dL_act_113 (by decide) (fun _ => ?_) (fun z => absurd z (by decide))
  refine lv_iload_n hx hb dL_act_125 rfl (lv_at hl 1 rfl) ?_
  refine lv_bipush (v := nI 7) hx hb dL_act_126 (by decide) ?_
  refine lv_icmp_ne (tgt := 139) hx hb dL_act_128 (by decide) (fun _ => ?_) (fun z => absurd z (by decide))
  refine lv_aload_n hx hb dL_act_139 rfl (lv_at hl 0 rfl) ?_
  refine lv_iload_n hx hb dL_act_140 rfl (lv_at hl 2 rfl) ?_
  refine yx_tryi (vx_runV (As := [.int x]) (rest := []) ⟨hx, hb, hml, hown, hts⟩ (k_X2_tick l hlt D G h0 c r o x hI) (cwV 1 hts gL_act_X2_tick rfl rfl rfl (by decide +kernel) ⟨(Nat.le_of_ble_eq_true rfl), (Nat.le_of_ble_eq_true rfl)⟩) ⟨fun a U g mk q => ⟨q.1, Pr_cg q.2⟩, va_recv (ci := 3) (q0 := 0) hK hP rfl (Q_o hRc), fun U hU hW => ⟨rfl, Pr_mk hE hRc hRr hRo hP hD hS hU hW⟩⟩ rfl rfl hl.1 rfl (lv_room (Nat.le_of_ble_eq_true rfl)) dL_act_141 ⟨(Nat.le_of_ble_eq_true rfl), (Nat.le_of_ble_eq_true rfl)⟩) hS (fun E ce q9 H locs wl hpx hRc hRr hRo hP hD hS hce hcv hcl => ?_) (fun v9 u9 H locs wl hv9 hRc hRr hRo hP hD hS => ?_)
  · have hpx0 : (fun E => (E = exA ∧ ¬ inR x 1 200) ∨ (E = exS ∧ inR x 1 200 ∧ c 20 3 = 0)) E := hpx
    rcases hpx0 with hp0 | hp1
    · obtain ⟨rfl, hq0⟩ := hp0
      refine vx_catch hown [(⟨0, 144, 145, 43⟩ : ExceptionTableEntry)] (⟨0, 144, 151, 45⟩ : ExceptionTableEntry) [(⟨0, 144, 157, 47⟩ : ExceptionTableEntry)] htab (fun z hz => by simp only [List.mem_cons, List.not_mem_nil, or_false] at hz; subst hz; exact Or.inr ⟨by decide, exO, hts (.classLink RL 43 exO) (by decide +kernel), hE.2.2.1.2.2.2.2.2.2.1⟩) rfl (by decide) (hts (.classLink RL 45 exA) (by decide +kernel)) (va_Nw.use rfl hE.2.2.1.2.2.2.1.2.2.2.2.1) hce hcv hcl ?_
      refine lv_astore (lv' := [(5, .ref q9), (0, .ref (G 0)), (1, .int (nI 8)), (2, .int x), (3, .int y), (4, .int z)]) hx hb dL_act_151 hl (by decide) rfl (fun ls hl => ?_)
      refine lv_sipush (v := (-1032)) hx hb dL_act_153 (by decide) ?_
      exact W.iret (v := (-1032)) hx hb hr (fun t ht hW => ⟨⟨_, c, rfl, Or.inl ⟨exA, Or.inl ⟨rfl, hq0⟩, xc_A.symm, rfl⟩, Wr_mk hRc hRr hRo hP hD ht⟩, hS.F ht⟩) hS.2.2 dL_act_156
    · obtain ⟨rfl, hq1⟩ := hp1
      refine vx_catch hown [(⟨0, 144, 145, 43⟩ : ExceptionTableEntry), (⟨0, 144, 151, 45⟩ : ExceptionTableEntry)] (⟨0, 144, 157, 47⟩ : ExceptionTableEntry) [] htab (fun z hz => by simp only [List.mem_cons, List.not_mem_nil, or_false] at hz; rcases hz with rfl | rfl; exact Or.inr ⟨by decide, exO, hts (.classLink RL 43 exO) (by decide +kernel), hE.2.2.1.2.2.2.2.2.2.2.2.1⟩; exact Or.inr ⟨by decide, exA, hts (.classLink RL 45 exA) (by decide +kernel), hE.2.2.1.2.2.2.2.2.2.2.2.2⟩) rfl (by decide) (hts (.classLink RL 47 exS) (by decide +kernel)) (va_Nw.use rfl hE.2.2.1.2.2.2.1.2.2.2.2.2) hce hcv hcl ?_
      refine lv_astore (lv' := [(5, .ref q9), (0, .ref (G 0)), (1, .int (nI 8)), (2, .int x), (3, .int y), (4, .int z)]) hx hb dL_act_157 hl (by decide) rfl (fun ls hl => ?_)
      refine lv_sipush (v := (-1033)) hx hb dL_act_159 (by decide) ?_
      exact W.iret (v := (-1033)) hx hb hr (fun t ht hW => ⟨⟨_, c, rfl, Or.inl ⟨exS, Or.inr (⟨rfl, hq1⟩), xc_S.symm, rfl⟩, Wr_mk hRc hRr hRo hP hD ht⟩, hS.F ht⟩) hS.2.2 dL_act_162
  · skip
    exact W.iret (v := v9) hx hb hr (fun t ht hW => ⟨⟨_, u9, rfl, Or.inr (hv9), Wr_mk hRc hRr hRo hP hD ht⟩, hS.F ht⟩) hS.2.2 dL_act_144
set_option maxHeartbeats 4000000 in
set_option maxRecDepth 100000 in
theorem k_L_act_begin_ok (l : Launch) (D : va_G) (G : Nat → Nat) (h0 : Nat) (c r : Nat → Nat → Nat) (o : Nat) (y z : Int32) (hI : IC c) (hW5 : c 30 0 ≤ 512) (b : Nat) (hb1 : 1 ≤ b) (hb2 : b ≤ 20) (hg : c 20 3 = 0) : Met l yL_act wsL_act ({ frames := 6, cells := 0, slots := 0, locals := 133 } : Room) (va_Pc [.ref (G 0), .int (nI 7), .int (nI b), .int y, .int z] (fun U => Pr D G h0 c r o U)) (va_Qi (fun (v9 : Int32) (u9 : Nat → Nat → Nat) => v9 = nI (cutC (up2 c 20 4 b)).2 ∧ u9 = (c_begin c b)) (fun (u9 : Nat → Nat → Nat) t => Wr D G h0 u9 r o t) (fun q => h0 ≤ q)) 0 0 (fun q => h0 ≤ q) := by
  refine va_MetW (cc := cL_act) (maxL := 6) (ret := (some .int)) (hh := [(0, 144, 145, 43), (0, 144, 151, 45), (0, 144, 157, 47)]) (by decide) rfl ?_
  intro p e s m args below meth cd s₁ B hml hv
  obtain ⟨rfl, hE, wl, hRc, hRr, hRo, hP, hD⟩ := hv
  have hx := B.exec
  have hb := B.bytes
  have hr := B.returns
  have hts := atoms_spec (ws := wsL_act) B.pre
  have htab := vx_table (x := yL_act) B (hts _ List.mem_cons_self)
  have hown : s.vm.findClass RL = some m.cls := findClass_of_methodNamed B.named
  have hlocks := B.notSynchronized
  have hK := hE.2.1
  have hS : va_S (fun q => h0 ≤ q) s.heap s.heap [] := va_S.rf
  have hl := lv_entry ([.ref (G 0), .int (nI 7), .int (nI b), .int y, .int z]) (n := 6) (Nat.le_of_ble_eq_true rfl)
  rw [lg_entry_eq]
  generalize (lg_sl ([.ref (G 0), .int (nI 7), .int (nI b), .int y, .int z]) ++ List.replicate (6 - (lg_sl ([.ref (G 0), .int (nI 7), .int (nI b), .int y, .int z])).length) Slot.unset).toArray = ls at hl ⊢
  have hl : lv_has ls 6 [(0, .ref (G 0)), (1, .int (nI 7)), (2, .int (nI b)), (3, .int y), (4, .int z)] := hl
  refine lv_iload_n hx hb dL_act_0 rfl (lv_at hl 1 rfl) ?_
  refine lv_if_ne (tgt := 13) hx hb dL_act_1 (by decide) (fun _ => ?_) (fun z => absurd z (by decide))
  refine lv_iload_n hx hb dL_act_13 rfl (lv_at hl 1 rfl) ?_
  refine lv_iconst (v := nI 1) hx hb dL_act_14 (by decide) ?_
  refine lv_icmp_ne (tgt := 35) hx hb dL_act_15 (by decide) (fun _ => ?_) (fun z => absurd z (by decide))
  refine lv_iload_n hx hb dL_act_35 rfl (lv_at hl 1 rfl) ?_
  refine lv_iconst (v := nI 2) hx hb dL_act_36 (by decide) ?_
  refine lv_icmp_ne (tgt := 51) hx hb dL_act_37 (by decide) (fun _ => ?_) (fun z => absurd z (by decide))
  refine lv_iload_n hx hb dL_act_51 rfl (lv_at hl 1 rfl) ?_
  refine lv_iconst (v := nI 3) hx hb dL_act_52 (by decide) ?_
  refine lv_icmp_ne (tgt := 65) hx hb dL_act_53 (by decide) (fun _ => ?_) (fun z => absurd z (by decide))
  refine lv_iload_n hx hb dL_act_65 rfl (lv_at hl 1 rfl) ?_
  refine lv_iconst (v := nI 4) hx hb dL_act_66 (by decide) ?_
  refine lv_icmp_ne (tgt := 96) hx hb dL_act_67 (by decide) (fun _ => ?_) (fun z => absurd z (by decide))
  refine lv_iload_n hx hb dL_act_96 rfl (lv_at hl 1 rfl) ?_
  refine lv_iconst (v := nI 5) hx hb dL_act_97 (by decide) ?_
  refine lv_icmp_ne (tgt := 110) hx hb dL_act_98 (by decide) (fun _ => ?_) (fun z => absurd z (by decide))
  refine lv_iload_n hx hb dL_act_110 rfl (lv_at hl 1 rfl) ?_
  refine lv_bipush (v := nI 6) hx hb dL_act_111 (by decide) ?_
  refine lv_icmp_ne (tgt := 125) hx hb dL_act_113 (by decide) (fun _ => ?_) (fun z => absurd z (by decide))
  refine lv_iload_n hx hb dL_act_125 rfl (lv_at hl 1 rfl) ?_
  refine lv_bipush (v := nI 7) hx hb dL_act_126 (by decide) ?_
  refine lv_icmp_ne (tgt := 139) hx hb dL_act_128 (by decide) (fun z => absurd (by decide) z) (fun _ => ?_)
  refine lv_aload_n hx hb dL_act_131 rfl (lv_at hl 0 rfl) ?_
  refine lv_iload_n hx hb dL_act_132 rfl (lv_at hl 2 rfl) ?_
  refine y_calli (va_runV (As := [.int (nI b)]) (rest := []) ⟨hx, hb, hml, hown, hts⟩ (k_X2_begin_ok l D G h0 c r o hI hW5 b hb1 hb2 hg) (cwV 1 hts gL_act_X2_begin rfl rfl rfl (by decide +kernel) ⟨(Nat.le_of_ble_eq_true rfl), (Nat.le_of_ble_eq_true rfl)⟩) ⟨fun a U g mk q => ⟨q.1, Pr_cg q.2⟩, va_recv (ci := 3) (q0 := 0) hK hP rfl (Q_o hRc), fun U hU hW => ⟨rfl, Pr_mk hE hRc hRr hRo hP hD hS hU hW⟩⟩ rfl rfl hl.1 rfl (lv_room (Nat.le_of_ble_eq_true rfl)) dL_act_133 ⟨(Nat.le_of_ble_eq_true rfl), (Nat.le_of_ble_eq_true rfl)⟩) hS (fun v9 _ H locs wl hv9 hRc hRr hRo hP hD hS => ?_)
  refine lv_goto (tgt := 144) hx hb dL_act_136 (by decide) ?_
  exact W.iret (v := v9) hx hb hr (fun t ht hW => ⟨⟨_, (c_begin c b), rfl, ⟨hv9, rfl⟩, Wr_mk hRc hRr hRo hP hD ht⟩, hS.F ht⟩) hS.2.2 dL_act_144
set_option maxHeartbeats 4000000 in
set_option maxRecDepth 100000 in
theorem k_L_act_tick_ok (l : Launch) (D : va_G) (G : Nat → Nat) (h0 : Nat) (c r : Nat → Nat → Nat) (o : Nat) (y z : Int32) (hI : IC c) (hg : c 20 3 ≠ 0) : Met l yL_act wsL_act ({ frames := 6, cells := 0, slots := 0, locals := 129 } : Room) (va_Pc [.ref (G 0), .int (nI 8), .int (nI 1), .int y, .int z] (fun U => Pr D G h0 c r o U)) (va_Qi (fun (v9 : Int32) (u9 : Nat → Nat → Nat) => v9 = nI 1 ∧ u9 = (c_tick1 c)) (fun (u9 : Nat → Nat → Nat) t => Wr D G h0 u9 r o t) (fun q => h0 ≤ q)) 0 0 (fun q => h0 ≤ q) := by
  refine va_MetW (cc := cL_act) (maxL := 6) (ret := (some .int)) (hh := [(0, 144, 145, 43), (0, 144, 151, 45), (0, 144, 157, 47)]) (by decide) rfl ?_
  intro p e s m args below meth cd s₁ B hml hv
  obtain ⟨rfl, hE, wl, hRc, hRr, hRo, hP, hD⟩ := hv
  have hx := B.exec
  have hb := B.bytes
  have hr := B.returns
  have hts := atoms_spec (ws := wsL_act) B.pre
  have htab := vx_table (x := yL_act) B (hts _ List.mem_cons_self)
  have hown : s.vm.findClass RL = some m.cls := findClass_of_methodNamed B.named
  have hlocks := B.notSynchronized
  have hK := hE.2.1
  have hS : va_S (fun q => h0 ≤ q) s.heap s.heap [] := va_S.rf
  have hl := lv_entry ([.ref (G 0), .int (nI 8), .int (nI 1), .int y, .int z]) (n := 6) (Nat.le_of_ble_eq_true rfl)
  rw [lg_entry_eq]
  generalize (lg_sl ([.ref (G 0), .int (nI 8), .int (nI 1), .int y, .int z]) ++ List.replicate (6 - (lg_sl ([.ref (G 0), .int (nI 8), .int (nI 1), .int y, .int z])).length) Slot.unset).toArray = ls at hl ⊢
  have hl : lv_has ls 6 [(0, .ref (G 0)), (1, .int (nI 8)), (2, .int (nI 1)), (3, .int y), (4, .int z)] := hl
  refine lv_iload_n hx hb dL_act_0 rfl (lv_at hl 1 rfl) ?_
  refine lv_if_ne (tgt := 13) hx hb dL_act_1 (by decide) (fun _ => ?_) (fun z => absurd z (by decide))
  refine lv_iload_n hx hb dL_act_13 rfl (lv_at hl 1 rfl) ?_
  refine lv_iconst (v := nI 1) hx hb dL_act_14 (by decide) ?_
  refine lv_icmp_ne (tgt := 35) hx hb dL_act_15 (by decide) (fun _ => ?_) (fun z => absurd z (by decide))
  refine lv_iload_n hx hb dL_act_35 rfl (lv_at hl 1 rfl) ?_
  refine lv_iconst (v := nI 2) hx hb dL_act_36 (by decide) ?_
  refine lv_icmp_ne (tgt := 51) hx hb dL_act_37 (by decide) (fun _ => ?_) (fun z => absurd z (by decide))
  refine lv_iload_n hx hb dL_act_51 rfl (lv_at hl 1 rfl) ?_
  refine lv_iconst (v := nI 3) hx hb dL_act_52 (by decide) ?_
  refine lv_icmp_ne (tgt := 65) hx hb dL_act_53 (by decide) (fun _ => ?_) (fun z => absurd z (by decide))
  refine lv_iload_n hx hb dL_act_65 rfl (lv_at hl 1 rfl) ?_
  refine lv_iconst (v := nI 4) hx hb dL_act_66 (by decide) ?_
  refine lv_icmp_ne (tgt := 96) hx hb dL_act_67 (by decide) (fun _ => ?_) (fun z => absurd z (by decide))
  refine lv_iload_n hx hb dL_act_96 rfl (lv_at hl 1 rfl) ?_
  refine lv_iconst (v := nI 5) hx hb dL_act_97 (by decide) ?_
  refine lv_icmp_ne (tgt := 110) hx hb dL_act_98 (by decide) (fun _ => ?_) (fun z => absurd z (by decide))
  refine lv_iload_n hx hb dL_act_110 rfl (lv_at hl 1 rfl) ?_
  refine lv_bipush (v := nI 6) hx hb dL_act_111 (by decide) ?_
  refine lv_icmp_ne (tgt := 125) hx hb dL_act_113 (by decide) (fun _ => ?_) (fun z => absurd z (by decide))
  refine lv_iload_n hx hb dL_act_125 rfl (lv_at hl 1 rfl) ?_
  refine lv_bipush (v := nI 7) hx hb dL_act_126 (by decide) ?_
  refine lv_icmp_ne (tgt := 139) hx hb dL_act_128 (by decide) (fun _ => ?_) (fun z => absurd z (by decide))
  refine lv_aload_n hx hb dL_act_139 rfl (lv_at hl 0 rfl) ?_
  refine lv_iload_n hx hb dL_act_140 rfl (lv_at hl 2 rfl) ?_
  refine y_calli (va_runV (As := [.int (nI 1)]) (rest := []) ⟨hx, hb, hml, hown, hts⟩ (k_X2_tick_ok l D G h0 c r o hI hg) (cwV 1 hts gL_act_X2_tick rfl rfl rfl (by decide +kernel) ⟨(Nat.le_of_ble_eq_true rfl), (Nat.le_of_ble_eq_true rfl)⟩) ⟨fun a U g mk q => ⟨q.1, Pr_cg q.2⟩, va_recv (ci := 3) (q0 := 0) hK hP rfl (Q_o hRc), fun U hU hW => ⟨rfl, Pr_mk hE hRc hRr hRo hP hD hS hU hW⟩⟩ rfl rfl hl.1 rfl (lv_room (Nat.le_of_ble_eq_true rfl)) dL_act_141 ⟨(Nat.le_of_ble_eq_true rfl), (Nat.le_of_ble_eq_true rfl)⟩) hS (fun v9 _ H locs wl hv9 hRc hRr hRo hP hD hS => ?_)
  exact W.iret (v := v9) hx hb hr (fun t ht hW => ⟨⟨_, (c_tick1 c), rfl, ⟨hv9, rfl⟩, Wr_mk hRc hRr hRo hP hD ht⟩, hS.F ht⟩) hS.2.2 dL_act_144
set_option maxHeartbeats 4000000 in
set_option maxRecDepth 100000 in
theorem k_L_of_learned (l : Launch) (hlt : l.stackTraces = false) (D : va_G) (G : Nat → Nat) (h0 : Nat) (c r : Nat → Nat → Nat) (o : Nat) (x : Int32) (hI : IC c) (hno : ¬ okU c x) : Met l yL_of wsL_of ({ frames := 8, cells := 1, slots := 6, locals := 124 } : Room) (va_Pc [.ref (G 0), .int (nI 0), .int x] (fun U => Pr D G h0 c r o U)) (va_Qi (fun (v9 : Int32) (u9 : Nat → Nat → Nat) => v9 = -1031 ∧ u9 = c) (fun (u9 : Nat → Nat → Nat) t => Wr D G h0 u9 r o t) (fun q => h0 ≤ q)) 1 6 (fun q => h0 ≤ q) := by
  refine va_MetW (cc := cL_of) (maxL := 4) (ret := (some .int)) (hh := [(0, 43, 44, 43)]) (by decide) rfl ?_
  intro p e s m args below meth cd s₁ B hml hv
  obtain ⟨rfl, hE, wl, hRc, hRr, hRo, hP, hD⟩ := hv
  have hx := B.exec
  have hb := B.bytes
  have hr := B.returns
  have hts := atoms_spec (ws := wsL_of) B.pre
  have htab := vx_table (x := yL_of) B (hts _ List.mem_cons_self)
  have hown : s.vm.findClass RL = some m.cls := findClass_of_methodNamed B.named
  have hlocks := B.notSynchronized
  have hK := hE.2.1
  have hS : va_S (fun q => h0 ≤ q) s.heap s.heap [] := va_S.rf
  have hl := lv_entry ([.ref (G 0), .int (nI 0), .int x]) (n := 4) (Nat.le_of_ble_eq_true rfl)
  rw [lg_entry_eq]
  generalize (lg_sl ([.ref (G 0), .int (nI 0), .int x]) ++ List.replicate (4 - (lg_sl ([.ref (G 0), .int (nI 0), .int x])).length) Slot.unset).toArray = ls at hl ⊢
  have hl : lv_has ls 4 [(0, .ref (G 0)), (1, .int (nI 0)), (2, .int x)] := hl
  refine lv_iload_n hx hb dL_of_0 rfl (lv_at hl 1 rfl) ?_
  refine lv_if_ne (tgt := 12) hx hb dL_of_1 (by decide) (fun z => absurd (by decide) z) (fun _ => ?_)
  refine lv_aload_n hx hb dL_of_4 rfl (lv_at hl 0 rfl) ?_
  refine lv_iload_n hx hb dL_of_5 rfl (lv_at hl 2 rfl) ?_
  refine yx_tryi (vx_runV (As := [.int x]) (rest := []) ⟨hx, hb, hml, hown, hts⟩ (k_X2_learned l hlt D G h0 c r o x hI) (cwV 1 hts gL_of_X2_learned rfl rfl rfl (by decide +kernel) ⟨(Nat.le_of_ble_eq_true rfl), (Nat.le_of_ble_eq_true rfl)⟩) ⟨fun a U g mk q => ⟨q.1, Pr_cg q.2⟩, va_recv (ci := 3) (q0 := 0) hK hP rfl (Q_o hRc), fun U hU hW => ⟨rfl, Pr_mk hE hRc hRr hRo hP hD hS hU hW⟩⟩ rfl rfl hl.1 rfl (lv_room (Nat.le_of_ble_eq_true rfl)) dL_of_6 ⟨(Nat.le_of_ble_eq_true rfl), (Nat.le_of_ble_eq_true rfl)⟩) hS (fun E ce q9 H locs wl hpx hRc hRr hRo hP hD hS hce hcv hcl => ?_) (fun v9 u9 H locs wl hv9 hRc hRr hRo hP hD hS => ?_)
  · have hpx0 : (fun E => E = exO ∧ ¬ okU c x) E := hpx
    have hp0 : _ ∧ _ := hpx0
    obtain ⟨rfl, hq0⟩ := hp0
    refine vx_catch hown [] (⟨0, 43, 44, 43⟩ : ExceptionTableEntry) [] htab (fun z hz => absurd hz List.not_mem_nil) rfl (by decide) (hts (.classLink RL 43 exO) (by decide +kernel)) (va_Nw.use rfl hE.2.2.1.2.2.2.1.2.2.2.1) hce hcv hcl ?_
    refine lv_astore_n (lv' := [(3, .ref q9), (0, .ref (G 0)), (1, .int (nI 0)), (2, .int x)]) hx hb dL_of_44 rfl hl (by decide) rfl (fun ls hl => ?_)
    refine lv_sipush (v := (-1031)) hx hb dL_of_45 (by decide) ?_
    exact W.iret (v := (-1031)) hx hb hr (fun t ht hW => ⟨⟨_, c, rfl, ⟨rfl, rfl⟩, Wr_mk hRc hRr hRo hP hD ht⟩, hS.F ht⟩) hS.2.2 dL_of_48
  · skip
    exact absurd (by obtain ⟨a, h1, h2, -⟩ := hv9; exact ⟨a, h1, h2⟩) hno
set_option maxHeartbeats 4000000 in
set_option maxRecDepth 100000 in
theorem k_L_of_faults (l : Launch) (hlt : l.stackTraces = false) (D : va_G) (G : Nat → Nat) (h0 : Nat) (c r : Nat → Nat → Nat) (o : Nat) (x : Int32) (hI : IC c) (hno : ¬ okU c x) : Met l yL_of wsL_of ({ frames := 8, cells := 1, slots := 6, locals := 124 } : Room) (va_Pc [.ref (G 0), .int (nI 1), .int x] (fun U => Pr D G h0 c r o U)) (va_Qi (fun (v9 : Int32) (u9 : Nat → Nat → Nat) => v9 = -1031 ∧ u9 = c) (fun (u9 : Nat → Nat → Nat) t => Wr D G h0 u9 r o t) (fun q => h0 ≤ q)) 1 6 (fun q => h0 ≤ q) := by
  refine va_MetW (cc := cL_of) (maxL := 4) (ret := (some .int)) (hh := [(0, 43, 44, 43)]) (by decide) rfl ?_
  intro p e s m args below meth cd s₁ B hml hv
  obtain ⟨rfl, hE, wl, hRc, hRr, hRo, hP, hD⟩ := hv
  have hx := B.exec
  have hb := B.bytes
  have hr := B.returns
  have hts := atoms_spec (ws := wsL_of) B.pre
  have htab := vx_table (x := yL_of) B (hts _ List.mem_cons_self)
  have hown : s.vm.findClass RL = some m.cls := findClass_of_methodNamed B.named
  have hlocks := B.notSynchronized
  have hK := hE.2.1
  have hS : va_S (fun q => h0 ≤ q) s.heap s.heap [] := va_S.rf
  have hl := lv_entry ([.ref (G 0), .int (nI 1), .int x]) (n := 4) (Nat.le_of_ble_eq_true rfl)
  rw [lg_entry_eq]
  generalize (lg_sl ([.ref (G 0), .int (nI 1), .int x]) ++ List.replicate (4 - (lg_sl ([.ref (G 0), .int (nI 1), .int x])).length) Slot.unset).toArray = ls at hl ⊢
  have hl : lv_has ls 4 [(0, .ref (G 0)), (1, .int (nI 1)), (2, .int x)] := hl
  refine lv_iload_n hx hb dL_of_0 rfl (lv_at hl 1 rfl) ?_
  refine lv_if_ne (tgt := 12) hx hb dL_of_1 (by decide) (fun _ => ?_) (fun z => absurd z (by decide))
  refine lv_iload_n hx hb dL_of_12 rfl (lv_at hl 1 rfl) ?_
  refine lv_iconst (v := nI 1) hx hb dL_of_13 (by decide) ?_
  refine lv_icmp_ne (tgt := 25) hx hb dL_of_14 (by decide) (fun z => absurd (by decide) z) (fun _ => ?_)
  refine lv_aload_n hx hb dL_of_17 rfl (lv_at hl 0 rfl) ?_
  refine lv_iload_n hx hb dL_of_18 rfl (lv_at hl 2 rfl) ?_
  refine yx_tryi (vx_runV (As := [.int x]) (rest := []) ⟨hx, hb, hml, hown, hts⟩ (k_X2_faults l hlt D G h0 c r o x hI) (cwV 1 hts gL_of_X2_faults rfl rfl rfl (by decide +kernel) ⟨(Nat.le_of_ble_eq_true rfl), (Nat.le_of_ble_eq_true rfl)⟩) ⟨fun a U g mk q => ⟨q.1, Pr_cg q.2⟩, va_recv (ci := 3) (q0 := 0) hK hP rfl (Q_o hRc), fun U hU hW => ⟨rfl, Pr_mk hE hRc hRr hRo hP hD hS hU hW⟩⟩ rfl rfl hl.1 rfl (lv_room (Nat.le_of_ble_eq_true rfl)) dL_of_19 ⟨(Nat.le_of_ble_eq_true rfl), (Nat.le_of_ble_eq_true rfl)⟩) hS (fun E ce q9 H locs wl hpx hRc hRr hRo hP hD hS hce hcv hcl => ?_) (fun v9 u9 H locs wl hv9 hRc hRr hRo hP hD hS => ?_)
  · have hpx0 : (fun E => E = exO ∧ ¬ okU c x) E := hpx
    have hp0 : _ ∧ _ := hpx0
    obtain ⟨rfl, hq0⟩ := hp0
    refine vx_catch hown [] (⟨0, 43, 44, 43⟩ : ExceptionTableEntry) [] htab (fun z hz => absurd hz List.not_mem_nil) rfl (by decide) (hts (.classLink RL 43 exO) (by decide +kernel)) (va_Nw.use rfl hE.2.2.1.2.2.2.1.2.2.2.1) hce hcv hcl ?_
    refine lv_astore_n (lv' := [(3, .ref q9), (0, .ref (G 0)), (1, .int (nI 1)), (2, .int x)]) hx hb dL_of_44 rfl hl (by decide) rfl (fun ls hl => ?_)
    refine lv_sipush (v := (-1031)) hx hb dL_of_45 (by decide) ?_
    exact W.iret (v := (-1031)) hx hb hr (fun t ht hW => ⟨⟨_, c, rfl, ⟨rfl, rfl⟩, Wr_mk hRc hRr hRo hP hD ht⟩, hS.F ht⟩) hS.2.2 dL_of_48
  · skip
    exact absurd (by obtain ⟨a, h1, h2, -⟩ := hv9; exact ⟨a, h1, h2⟩) hno
set_option maxHeartbeats 4000000 in
set_option maxRecDepth 100000 in
theorem k_L_of_state (l : Launch) (hlt : l.stackTraces = false) (D : va_G) (G : Nat → Nat) (h0 : Nat) (c r : Nat → Nat → Nat) (o : Nat) (x : Int32) (hI : IC c) (hno : ¬ okU c x) : Met l yL_of wsL_of ({ frames := 8, cells := 1, slots := 6, locals := 124 } : Room) (va_Pc [.ref (G 0), .int (nI 2), .int x] (fun U => Pr D G h0 c r o U)) (va_Qi (fun (v9 : Int32) (u9 : Nat → Nat → Nat) => v9 = -1031 ∧ u9 = c) (fun (u9 : Nat → Nat → Nat) t => Wr D G h0 u9 r o t) (fun q => h0 ≤ q)) 1 6 (fun q => h0 ≤ q) := by
  refine va_MetW (cc := cL_of) (maxL := 4) (ret := (some .int)) (hh := [(0, 43, 44, 43)]) (by decide) rfl ?_
  intro p e s m args below meth cd s₁ B hml hv
  obtain ⟨rfl, hE, wl, hRc, hRr, hRo, hP, hD⟩ := hv
  have hx := B.exec
  have hb := B.bytes
  have hr := B.returns
  have hts := atoms_spec (ws := wsL_of) B.pre
  have htab := vx_table (x := yL_of) B (hts _ List.mem_cons_self)
  have hown : s.vm.findClass RL = some m.cls := findClass_of_methodNamed B.named
  have hlocks := B.notSynchronized
  have hK := hE.2.1
  have hS : va_S (fun q => h0 ≤ q) s.heap s.heap [] := va_S.rf
  have hl := lv_entry ([.ref (G 0), .int (nI 2), .int x]) (n := 4) (Nat.le_of_ble_eq_true rfl)
  rw [lg_entry_eq]
  generalize (lg_sl ([.ref (G 0), .int (nI 2), .int x]) ++ List.replicate (4 - (lg_sl ([.ref (G 0), .int (nI 2), .int x])).length) Slot.unset).toArray = ls at hl ⊢
  have hl : lv_has ls 4 [(0, .ref (G 0)), (1, .int (nI 2)), (2, .int x)] := hl
  refine lv_iload_n hx hb dL_of_0 rfl (lv_at hl 1 rfl) ?_
  refine lv_if_ne (tgt := 12) hx hb dL_of_1 (by decide) (fun _ => ?_) (fun z => absurd z (by decide))
  refine lv_iload_n hx hb dL_of_12 rfl (lv_at hl 1 rfl) ?_
  refine lv_iconst (v := nI 1) hx hb dL_of_13 (by decide) ?_
  refine lv_icmp_ne (tgt := 25) hx hb dL_of_14 (by decide) (fun _ => ?_) (fun z => absurd z (by decide))
  refine lv_iload_n hx hb dL_of_25 rfl (lv_at hl 1 rfl) ?_
  refine lv_iconst (v := nI 2) hx hb dL_of_26 (by decide) ?_
  refine lv_icmp_ne (tgt := 38) hx hb dL_of_27 (by decide) (fun z => absurd (by decide) z) (fun _ => ?_)
  refine lv_aload_n hx hb dL_of_30 rfl (lv_at hl 0 rfl) ?_
  refine lv_iload_n hx hb dL_of_31 rfl (lv_at hl 2 rfl) ?_
  refine yx_tryi (vx_runV (As := [.int x]) (rest := []) ⟨hx, hb, hml, hown, hts⟩ (k_X2_state l hlt D G h0 c r o x hI) (cwV 1 hts gL_of_X2_state rfl rfl rfl (by decide +kernel) ⟨(Nat.le_of_ble_eq_true rfl), (Nat.le_of_ble_eq_true rfl)⟩) ⟨fun a U g mk q => ⟨q.1, Pr_cg q.2⟩, va_recv (ci := 3) (q0 := 0) hK hP rfl (Q_o hRc), fun U hU hW => ⟨rfl, Pr_mk hE hRc hRr hRo hP hD hS hU hW⟩⟩ rfl rfl hl.1 rfl (lv_room (Nat.le_of_ble_eq_true rfl)) dL_of_32 ⟨(Nat.le_of_ble_eq_true rfl), (Nat.le_of_ble_eq_true rfl)⟩) hS (fun E ce q9 H locs wl hpx hRc hRr hRo hP hD hS hce hcv hcl => ?_) (fun v9 u9 H locs wl hv9 hRc hRr hRo hP hD hS => ?_)
  · have hpx0 : (fun E => E = exO ∧ ¬ okU c x) E := hpx
    have hp0 : _ ∧ _ := hpx0
    obtain ⟨rfl, hq0⟩ := hp0
    refine vx_catch hown [] (⟨0, 43, 44, 43⟩ : ExceptionTableEntry) [] htab (fun z hz => absurd hz List.not_mem_nil) rfl (by decide) (hts (.classLink RL 43 exO) (by decide +kernel)) (va_Nw.use rfl hE.2.2.1.2.2.2.1.2.2.2.1) hce hcv hcl ?_
    refine lv_astore_n (lv' := [(3, .ref q9), (0, .ref (G 0)), (1, .int (nI 2)), (2, .int x)]) hx hb dL_of_44 rfl hl (by decide) rfl (fun ls hl => ?_)
    refine lv_sipush (v := (-1031)) hx hb dL_of_45 (by decide) ?_
    exact W.iret (v := (-1031)) hx hb hr (fun t ht hW => ⟨⟨_, c, rfl, ⟨rfl, rfl⟩, Wr_mk hRc hRr hRo hP hD ht⟩, hS.F ht⟩) hS.2.2 dL_of_48
  · skip
    exact absurd (by obtain ⟨a, h1, h2, -⟩ := hv9; exact ⟨a, h1, h2⟩) hno
set_option maxHeartbeats 4000000 in
set_option maxRecDepth 100000 in
theorem k_L_of_waitsFor (l : Launch) (hlt : l.stackTraces = false) (D : va_G) (G : Nat → Nat) (h0 : Nat) (c r : Nat → Nat → Nat) (o : Nat) (x : Int32) (hI : IC c) (hno : ¬ okU c x) : Met l yL_of wsL_of ({ frames := 8, cells := 1, slots := 6, locals := 126 } : Room) (va_Pc [.ref (G 0), .int (nI 3), .int x] (fun U => Pr D G h0 c r o U)) (va_Qi (fun (v9 : Int32) (u9 : Nat → Nat → Nat) => v9 = -1031 ∧ u9 = c) (fun (u9 : Nat → Nat → Nat) t => Wr D G h0 u9 r o t) (fun q => h0 ≤ q)) 1 6 (fun q => h0 ≤ q) := by
  refine va_MetW (cc := cL_of) (maxL := 4) (ret := (some .int)) (hh := [(0, 43, 44, 43)]) (by decide) rfl ?_
  intro p e s m args below meth cd s₁ B hml hv
  obtain ⟨rfl, hE, wl, hRc, hRr, hRo, hP, hD⟩ := hv
  have hx := B.exec
  have hb := B.bytes
  have hr := B.returns
  have hts := atoms_spec (ws := wsL_of) B.pre
  have htab := vx_table (x := yL_of) B (hts _ List.mem_cons_self)
  have hown : s.vm.findClass RL = some m.cls := findClass_of_methodNamed B.named
  have hlocks := B.notSynchronized
  have hK := hE.2.1
  have hS : va_S (fun q => h0 ≤ q) s.heap s.heap [] := va_S.rf
  have hl := lv_entry ([.ref (G 0), .int (nI 3), .int x]) (n := 4) (Nat.le_of_ble_eq_true rfl)
  rw [lg_entry_eq]
  generalize (lg_sl ([.ref (G 0), .int (nI 3), .int x]) ++ List.replicate (4 - (lg_sl ([.ref (G 0), .int (nI 3), .int x])).length) Slot.unset).toArray = ls at hl ⊢
  have hl : lv_has ls 4 [(0, .ref (G 0)), (1, .int (nI 3)), (2, .int x)] := hl
  refine lv_iload_n hx hb dL_of_0 rfl (lv_at hl 1 rfl) ?_
  refine lv_if_ne (tgt := 12) hx hb dL_of_1 (by decide) (fun _ => ?_) (fun z => absurd z (by decide))
  refine lv_iload_n hx hb dL_of_12 rfl (lv_at hl 1 rfl) ?_
  refine lv_iconst (v := nI 1) hx hb dL_of_13 (by decide) ?_
  refine lv_icmp_ne (tgt := 25) hx hb dL_of_14 (by decide) (fun _ => ?_) (fun z => absurd z (by decide))
  refine lv_iload_n hx hb dL_of_25 rfl (lv_at hl 1 rfl) ?_
  refine lv_iconst (v := nI 2) hx hb dL_of_26 (by decide) ?_
  refine lv_icmp_ne (tgt := 38) hx hb dL_of_27 (by decide) (fun _ => ?_) (fun z => absurd z (by decide))
  refine lv_aload_n hx hb dL_of_38 rfl (lv_at hl 0 rfl) ?_
  refine lv_iload_n hx hb dL_of_39 rfl (lv_at hl 2 rfl) ?_
  refine yx_tryi (vx_runV (As := [.int x]) (rest := []) ⟨hx, hb, hml, hown, hts⟩ (k_X2_waitsFor l hlt D G h0 c r o x hI) (cwV 1 hts gL_of_X2_waitsFor rfl rfl rfl (by decide +kernel) ⟨(Nat.le_of_ble_eq_true rfl), (Nat.le_of_ble_eq_true rfl)⟩) ⟨fun a U g mk q => ⟨q.1, Pr_cg q.2⟩, va_recv (ci := 3) (q0 := 0) hK hP rfl (Q_o hRc), fun U hU hW => ⟨rfl, Pr_mk hE hRc hRr hRo hP hD hS hU hW⟩⟩ rfl rfl hl.1 rfl (lv_room (Nat.le_of_ble_eq_true rfl)) dL_of_40 ⟨(Nat.le_of_ble_eq_true rfl), (Nat.le_of_ble_eq_true rfl)⟩) hS (fun E ce q9 H locs wl hpx hRc hRr hRo hP hD hS hce hcv hcl => ?_) (fun v9 u9 H locs wl hv9 hRc hRr hRo hP hD hS => ?_)
  · have hpx0 : (fun E => E = exO ∧ ¬ okU c x) E := hpx
    have hp0 : _ ∧ _ := hpx0
    obtain ⟨rfl, hq0⟩ := hp0
    refine vx_catch hown [] (⟨0, 43, 44, 43⟩ : ExceptionTableEntry) [] htab (fun z hz => absurd hz List.not_mem_nil) rfl (by decide) (hts (.classLink RL 43 exO) (by decide +kernel)) (va_Nw.use rfl hE.2.2.1.2.2.2.1.2.2.2.1) hce hcv hcl ?_
    refine lv_astore_n (lv' := [(3, .ref q9), (0, .ref (G 0)), (1, .int (nI 3)), (2, .int x)]) hx hb dL_of_44 rfl hl (by decide) rfl (fun ls hl => ?_)
    refine lv_sipush (v := (-1031)) hx hb dL_of_45 (by decide) ?_
    exact W.iret (v := (-1031)) hx hb hr (fun t ht hW => ⟨⟨_, c, rfl, ⟨rfl, rfl⟩, Wr_mk hRc hRr hRo hP hD ht⟩, hS.F ht⟩) hS.2.2 dL_of_48
  · skip
    exact absurd (by obtain ⟨a, h1, h2, -⟩ := hv9; exact ⟨a, h1, h2⟩) hno
