set_option maxHeartbeats 4000000 in
set_option maxRecDepth 100000 in
theorem k_L_add (l : Launch) (hlt : l.stackTraces = false) (D : va_G) (G : Nat → Nat) (h0 : Nat) (c r : Nat → Nat → Nat) (o : Nat) (x y : Int32) (hI : IC c) : Met l yL_add wsL_add ({ frames := 8, cells := 3, slots := 18, locals := 128 } : Room) (va_Pc [.ref (G 0), .int x, .int y, .ref (G 4)] (fun U => Pr D G h0 c r o U)) (va_Qi (fun (k9 : Int32) (z9 : (Nat → Nat → Nat) × Nat) => (k9 = nI 0 ∧ ∃ v9 : Int32, (fun (u9 : Nat → Nat → Nat) => ∃ t k, (1 ≤ t ∧ t ≤ 100) ∧ (0 ≤ k ∧ k ≤ 3) ∧ x = nI t ∧ y = nI k ∧ c 20 1 < 20 ∧ c 20 3 = 0 ∧ v9 = nI (c 20 1) ∧ u9 = up2 (up2 (up2 c 1 (c 20 1) t) 2 (c 20 1) k) 20 1 (c 20 1 + 1)) z9.1 ∧ v9.toInt64 = lE z9.2) ∨ (k9 = nI 1 ∧ z9 = (c, o) ∧ (fun E => (E = exA ∧ ¬ (inR x 1 100 ∧ inR y 0 3)) ∨ (E = exS ∧ (inR x 1 100 ∧ inR y 0 3) ∧ ¬ (c 20 1 < 20 ∧ c 20 3 = 0))) exA) ∨ (k9 = nI 2 ∧ z9 = (c, o) ∧ (fun E => (E = exA ∧ ¬ (inR x 1 100 ∧ inR y 0 3)) ∨ (E = exS ∧ (inR x 1 100 ∧ inR y 0 3) ∧ ¬ (c 20 1 < 20 ∧ c 20 3 = 0))) exS)) (fun (z9 : (Nat → Nat → Nat) × Nat) t => Wr D G h0 z9.1 r z9.2 t) (fun q => h0 ≤ q)) 3 18 (fun q => h0 ≤ q) := by
  refine va_MetW (cc := cL_add) (maxL := 5) (ret := (some .int)) (hh := [(0, 10, 13, 13), (0, 10, 17, 15)]) (by decide) rfl ?_
  intro p e s m args below meth cd s₁ B hml hv
  obtain ⟨rfl, hE, wl, hRc, hRr, hRo, hP, hD⟩ := hv
  have hx := B.exec
  have hb := B.bytes
  have hr := B.returns
  have hts := atoms_spec (ws := wsL_add) B.pre
  have htab := vx_table (x := yL_add) B (hts _ List.mem_cons_self)
  have hown : s.vm.findClass RL = some m.cls := findClass_of_methodNamed B.named
  have hlocks := B.notSynchronized
  have hK := hE.2.1
  have hS : va_S (fun q => h0 ≤ q) s.heap s.heap [] := va_S.rf
  have hl := lv_entry ([.ref (G 0), .int x, .int y, .ref (G 4)]) (n := 5) (Nat.le_of_ble_eq_true rfl)
  rw [lg_entry_eq]
  generalize (lg_sl ([.ref (G 0), .int x, .int y, .ref (G 4)]) ++ List.replicate (5 - (lg_sl ([.ref (G 0), .int x, .int y, .ref (G 4)])).length) Slot.unset).toArray = ls at hl ⊢
  have hl : lv_has ls 5 [(0, .ref (G 0)), (1, .int x), (2, .int y), (3, .ref (G 4))] := hl
  refine lv_aload_n hx hb dL_add_0 rfl (lv_at hl 3 rfl) ?_
  refine lv_iconst (v := nI 0) hx hb dL_add_1 (by decide) ?_
  refine lv_aload_n hx hb dL_add_2 rfl (lv_at hl 0 rfl) ?_
  refine lv_iload_n hx hb dL_add_3 rfl (lv_at hl 1 rfl) ?_
  refine lv_iload_n hx hb dL_add_4 rfl (lv_at hl 2 rfl) ?_
  refine yx_tryi (vx_runV (As := [.int x, .int y]) (rest := [.int (nI 0), .ref (G 4)]) ⟨hx, hb, hml, hown, hts⟩ (k_X2_add l hlt D G h0 c r o x y hI) (cwV 2 hts gL_add_X2_add rfl rfl rfl (by decide +kernel) ⟨(Nat.le_of_ble_eq_true rfl), (Nat.le_of_ble_eq_true rfl)⟩) ⟨fun a U g mk q => ⟨q.1, Pr_cg q.2⟩, va_recv (ci := 3) (q0 := 0) hK hP rfl (Q_o hRc), fun U hU hW => ⟨rfl, Pr_mk hE hRc hRr hRo hP hD hS hU hW⟩⟩ rfl rfl hl.1 rfl (lv_room (Nat.le_of_ble_eq_true rfl)) dL_add_5 ⟨(Nat.le_of_ble_eq_true rfl), (Nat.le_of_ble_eq_true rfl)⟩) hS (fun E ce q9 H locs wl hpx hRc hRr hRo hP hD hS hce hcv hcl => ?_) (fun v9 u9 H locs wl hv9 hRc hRr hRo hP hD hS => ?_)
  · rcases hpx with hp0 | hp1
    · obtain ⟨rfl, hp0⟩ := hp0
      refine vx_catch hown [] (⟨0, 10, 13, 13⟩ : ExceptionTableEntry) [(⟨0, 10, 17, 15⟩ : ExceptionTableEntry)] htab (fun z hz => absurd hz List.not_mem_nil) rfl (by decide) (hts (.classLink RL 13 exA) (by decide +kernel)) (va_Nw.use rfl hE.2.2.1.2.2.2.1.2.2.2.2.1) hce hcv hcl ?_
      refine lv_astore (lv' := [(4, .ref q9), (0, .ref (G 0)), (1, .int x), (2, .int y), (3, .ref (G 4))]) hx hb dL_add_13 hl (by decide) rfl (fun ls hl => ?_)
      refine lv_iconst (v := nI 1) hx hb dL_add_15 (by decide) ?_
      exact W.iret (v := nI 1) hx hb hr (fun t ht hW => ⟨⟨_, (c, o), rfl, Or.inr (Or.inl ⟨rfl, rfl, Or.inl ⟨rfl, hp0⟩⟩), Wr_mk hRc hRr hRo hP hD ht⟩, hS.F ht⟩) hS.2.2 dL_add_16
    · obtain ⟨rfl, hp1⟩ := hp1
      refine vx_catch hown [(⟨0, 10, 13, 13⟩ : ExceptionTableEntry)] (⟨0, 10, 17, 15⟩ : ExceptionTableEntry) [] htab (fun z hz => by simp only [List.mem_cons, List.not_mem_nil, or_false] at hz; subst hz; exact Or.inr ⟨by decide, exA, hts (.classLink RL 13 exA) (by decide +kernel), hE.2.2.1.2.2.2.2.2.2.2.2.2⟩) rfl (by decide) (hts (.classLink RL 15 exS) (by decide +kernel)) (va_Nw.use rfl hE.2.2.1.2.2.2.1.2.2.2.2.2) hce hcv hcl ?_
      refine lv_astore (lv' := [(4, .ref q9), (0, .ref (G 0)), (1, .int x), (2, .int y), (3, .ref (G 4))]) hx hb dL_add_17 hl (by decide) rfl (fun ls hl => ?_)
      refine lv_iconst (v := nI 2) hx hb dL_add_19 (by decide) ?_
      exact W.iret (v := nI 2) hx hb hr (fun t ht hW => ⟨⟨_, (c, o), rfl, Or.inr (Or.inr (⟨rfl, rfl, Or.inr (⟨rfl, hp1⟩)⟩)), Wr_mk hRc hRr hRo hP hD ht⟩, hS.F ht⟩) hS.2.2 dL_add_20
  · obtain ⟨o9, ho9⟩ : ∃ o9, v9.toInt64 = lE o9 := by
      obtain ⟨t, k, _, _, _, _, h20, _, e9, _⟩ := hv9
      exact ⟨_, by rw [e9]; exact lE_n (by omega)⟩
    refine lv_i2l hx hb dL_add_8 ho9 ?_
    refine x_last hx hb hK hP hD hS hRc hRr hRo (v := o9) rfl dL_add_9 (fun H locs wl hRc hRr hRo hP hD hS => ?_)
    refine lv_goto (tgt := 21) hx hb dL_add_10 (by decide) ?_
    refine lv_iconst (v := nI 0) hx hb dL_add_21 (by decide) ?_
    exact W.iret (v := nI 0) hx hb hr (fun t ht hW => ⟨⟨_, (u9, o9), rfl, Or.inl ⟨rfl, v9, hv9, ho9⟩, Wr_mk hRc hRr hRo hP hD ht⟩, hS.F ht⟩) hS.2.2 dL_add_22
set_option maxHeartbeats 4000000 in
set_option maxRecDepth 100000 in
theorem k_L_need (l : Launch) (hlt : l.stackTraces = false) (D : va_G) (G : Nat → Nat) (h0 : Nat) (c r : Nat → Nat → Nat) (o : Nat) (x y : Int32) (hI : IC c) : Met l yL_need wsL_need ({ frames := 8, cells := 3, slots := 18, locals := 128 } : Room) (va_Pc [.ref (G 0), .int x, .int y, .ref (G 4)] (fun U => Pr D G h0 c r o U)) (va_Qi (fun (k9 : Int32) (z9 : (Nat → Nat → Nat) × Nat) => (k9 = nI 0 ∧ ∃ v9 : Int32, (fun (u9 : Nat → Nat → Nat) => ∃ a b, a < c 20 1 ∧ b < c 20 1 ∧ x = nI a ∧ y = nI b ∧ ¬ Rch (eC c 0) b a ∧ c 20 3 = 0 ∧ v9 = nI (bN ((c 7 a).testBit b = true)) ∧ u9 = up2 c 7 a (c 7 a ||| 2 ^ b)) z9.1 ∧ z9.2 = (if v9 = 0 then 1 else 2)) ∨ (k9 = nI 1 ∧ z9 = (c, o) ∧ (fun E => (E = exO ∧ ¬ (okU c x ∧ okU c y)) ∨ (E = exS ∧ ∃ a b, a < c 20 1 ∧ b < c 20 1 ∧ x = nI a ∧ y = nI b ∧ ¬ (¬ Rch (eC c 0) b a ∧ c 20 3 = 0))) exO) ∨ (k9 = nI 2 ∧ z9 = (c, o) ∧ (fun E => (E = exO ∧ ¬ (okU c x ∧ okU c y)) ∨ (E = exS ∧ ∃ a b, a < c 20 1 ∧ b < c 20 1 ∧ x = nI a ∧ y = nI b ∧ ¬ (¬ Rch (eC c 0) b a ∧ c 20 3 = 0))) exS)) (fun (z9 : (Nat → Nat → Nat) × Nat) t => Wr D G h0 z9.1 r z9.2 t) (fun q => h0 ≤ q)) 3 18 (fun q => h0 ≤ q) := by
  refine va_MetW (cc := cL_need) (maxL := 5) (ret := (some .int)) (hh := [(0, 17, 20, 21), (0, 17, 24, 15)]) (by decide) rfl ?_
  intro p e s m args below meth cd s₁ B hml hv
  obtain ⟨rfl, hE, wl, hRc, hRr, hRo, hP, hD⟩ := hv
  have hx := B.exec
  have hb := B.bytes
  have hr := B.returns
  have hts := atoms_spec (ws := wsL_need) B.pre
  have htab := vx_table (x := yL_need) B (hts _ List.mem_cons_self)
  have hown : s.vm.findClass RL = some m.cls := findClass_of_methodNamed B.named
  have hlocks := B.notSynchronized
  have hK := hE.2.1
  have hS : va_S (fun q => h0 ≤ q) s.heap s.heap [] := va_S.rf
  have hl := lv_entry ([.ref (G 0), .int x, .int y, .ref (G 4)]) (n := 5) (Nat.le_of_ble_eq_true rfl)
  rw [lg_entry_eq]
  generalize (lg_sl ([.ref (G 0), .int x, .int y, .ref (G 4)]) ++ List.replicate (5 - (lg_sl ([.ref (G 0), .int x, .int y, .ref (G 4)])).length) Slot.unset).toArray = ls at hl ⊢
  have hl : lv_has ls 5 [(0, .ref (G 0)), (1, .int x), (2, .int y), (3, .ref (G 4))] := hl
  refine lv_aload_n hx hb dL_need_0 rfl (lv_at hl 3 rfl) ?_
  refine lv_iconst (v := nI 0) hx hb dL_need_1 (by decide) ?_
  refine lv_aload_n hx hb dL_need_2 rfl (lv_at hl 0 rfl) ?_
  refine lv_iload_n hx hb dL_need_3 rfl (lv_at hl 1 rfl) ?_
  refine lv_iload_n hx hb dL_need_4 rfl (lv_at hl 2 rfl) ?_
  refine yx_tryi (vx_runV (As := [.int x, .int y]) (rest := [.int (nI 0), .ref (G 4)]) ⟨hx, hb, hml, hown, hts⟩ (k_X2_need l hlt D G h0 c r o x y hI) (cwV 2 hts gL_need_X2_need rfl rfl rfl (by decide +kernel) ⟨(Nat.le_of_ble_eq_true rfl), (Nat.le_of_ble_eq_true rfl)⟩) ⟨fun a U g mk q => ⟨q.1, Pr_cg q.2⟩, va_recv (ci := 3) (q0 := 0) hK hP rfl (Q_o hRc), fun U hU hW => ⟨rfl, Pr_mk hE hRc hRr hRo hP hD hS hU hW⟩⟩ rfl rfl hl.1 rfl (lv_room (Nat.le_of_ble_eq_true rfl)) dL_need_5 ⟨(Nat.le_of_ble_eq_true rfl), (Nat.le_of_ble_eq_true rfl)⟩) hS (fun E ce q9 H locs wl hpx hRc hRr hRo hP hD hS hce hcv hcl => ?_) (fun v9 u9 H locs wl hv9 hRc hRr hRo hP hD hS => ?_)
  · rcases hpx with hp0 | hp1
    · obtain ⟨rfl, hp0⟩ := hp0
      refine vx_catch hown [] (⟨0, 17, 20, 21⟩ : ExceptionTableEntry) [(⟨0, 17, 24, 15⟩ : ExceptionTableEntry)] htab (fun z hz => absurd hz List.not_mem_nil) rfl (by decide) (hts (.classLink RL 21 exO) (by decide +kernel)) (va_Nw.use rfl hE.2.2.1.2.2.2.1.2.2.2.1) hce hcv hcl ?_
      refine lv_astore (lv' := [(4, .ref q9), (0, .ref (G 0)), (1, .int x), (2, .int y), (3, .ref (G 4))]) hx hb dL_need_20 hl (by decide) rfl (fun ls hl => ?_)
      refine lv_iconst (v := nI 1) hx hb dL_need_22 (by decide) ?_
      exact W.iret (v := nI 1) hx hb hr (fun t ht hW => ⟨⟨_, (c, o), rfl, Or.inr (Or.inl ⟨rfl, rfl, Or.inl ⟨rfl, hp0⟩⟩), Wr_mk hRc hRr hRo hP hD ht⟩, hS.F ht⟩) hS.2.2 dL_need_23
    · obtain ⟨rfl, hp1⟩ := hp1
      refine vx_catch hown [(⟨0, 17, 20, 21⟩ : ExceptionTableEntry)] (⟨0, 17, 24, 15⟩ : ExceptionTableEntry) [] htab (fun z hz => by simp only [List.mem_cons, List.not_mem_nil, or_false] at hz; subst hz; exact Or.inr ⟨by decide, exO, hts (.classLink RL 21 exO) (by decide +kernel), hE.2.2.1.2.2.2.2.2.2.2.2.1⟩) rfl (by decide) (hts (.classLink RL 15 exS) (by decide +kernel)) (va_Nw.use rfl hE.2.2.1.2.2.2.1.2.2.2.2.2) hce hcv hcl ?_
      refine lv_astore (lv' := [(4, .ref q9), (0, .ref (G 0)), (1, .int x), (2, .int y), (3, .ref (G 4))]) hx hb dL_need_24 hl (by decide) rfl (fun ls hl => ?_)
      refine lv_iconst (v := nI 2) hx hb dL_need_26 (by decide) ?_
      exact W.iret (v := nI 2) hx hb hr (fun t ht hW => ⟨⟨_, (c, o), rfl, Or.inr (Or.inr (⟨rfl, rfl, Or.inr (⟨rfl, hp1⟩)⟩)), Wr_mk hRc hRr hRo hP hD ht⟩, hS.F ht⟩) hS.2.2 dL_need_27
  · refine lv_if_eq (tgt := 15) hx hb dL_need_8 (by decide) (fun c0 => ?_) (fun c0 => ?_)
    · refine lv_lconst (n := 0) (v := 0) hx hb dL_need_15 rfl ?_
      refine x_last hx hb hK hP hD hS hRc hRr hRo (v := 1) (by decide) dL_need_16 (fun H locs wl hRc hRr hRo hP hD hS => ?_)
      refine lv_goto (tgt := 28) hx hb dL_need_17 (by decide) ?_
      refine lv_iconst (v := nI 0) hx hb dL_need_28 (by decide) ?_
      exact W.iret (v := nI 0) hx hb hr (fun t ht hW => ⟨⟨_, (u9, 1), rfl, Or.inl ⟨rfl, v9, hv9, (if_pos c0).symm⟩, Wr_mk hRc hRr hRo hP hD ht⟩, hS.F ht⟩) hS.2.2 dL_need_29
    · refine lv_lconst (n := 1) (v := 1) hx hb dL_need_11 rfl ?_
      refine lv_goto (tgt := 16) hx hb dL_need_12 (by decide) ?_
      refine x_last hx hb hK hP hD hS hRc hRr hRo (v := 2) (by decide) dL_need_16 (fun H locs wl hRc hRr hRo hP hD hS => ?_)
      refine lv_goto (tgt := 28) hx hb dL_need_17 (by decide) ?_
      refine lv_iconst (v := nI 0) hx hb dL_need_28 (by decide) ?_
      exact W.iret (v := nI 0) hx hb hr (fun t ht hW => ⟨⟨_, (u9, 2), rfl, Or.inl ⟨rfl, v9, hv9, (if_neg c0).symm⟩, Wr_mk hRc hRr hRo hP hD ht⟩, hS.F ht⟩) hS.2.2 dL_need_29
set_option maxHeartbeats 4000000 in
set_option maxRecDepth 100000 in
theorem k_L_wish (l : Launch) (hlt : l.stackTraces = false) (D : va_G) (G : Nat → Nat) (h0 : Nat) (c r : Nat → Nat → Nat) (o : Nat) (x y z : Int32) (hI : IC c) (hW5 : c 30 0 ≤ 512) : Met l yL_wish wsL_wish ({ frames := 8, cells := 7, slots := 2033, locals := 218 } : Room) (va_Pc [.ref (G 0), .int x, .int y, .int z, .ref (G 4)] (fun U => Pr D G h0 c r o U)) (va_Qi (fun (k9 : Int32) (z9 : (Nat → Nat → Nat) × Nat) => (k9 = nI 0 ∧ ∃ v9 : Int32, (fun (u9 : Nat → Nat → Nat) => ∃ a b t, a < c 20 1 ∧ b < c 20 1 ∧ x = nI a ∧ y = nI b ∧ a ≠ b ∧ (1 ≤ t ∧ t ≤ 100) ∧ z = nI t ∧ c 20 3 = 0 ∧ ((wfK c a b = 0 ∧ v9 = nI 0 ∧ ∃ q p N ca, ca = c_app (up2 (up2 (up2 (up2 (up2 (up2 (c_raw c q) 38 2 (a + 1)) 38 3 (b + 1)) 38 4 t) 37 0 (c 37 0 + 1)) 35 0 p) 36 0 N) a b t ∧ c 30 0 < N ∧ N ≤ 2 * (c 30 0 + 1) + 10 ∧ u9 = up2 ca 8 a (ca 8 a ||| 2 ^ b)) ∨ (∃ j, wfK c a b = j + 1 ∧ v9 = nI (c 33 j) ∧ u9 = up2 c 33 j t))) z9.1 ∧ v9.toInt64 = lE z9.2) ∨ (k9 = nI 1 ∧ z9 = (c, o) ∧ (fun E => (E = exO ∧ ¬ (okU c x ∧ okU c y)) ∨ (E = exA ∧ okU c x ∧ okU c y ∧ ¬ (inR z 1 100 ∧ x ≠ y)) ∨ (E = exS ∧ okU c x ∧ okU c y ∧ (inR z 1 100 ∧ x ≠ y) ∧ c 20 3 ≠ 0)) exO) ∨ (k9 = nI 2 ∧ z9 = (c, o) ∧ (fun E => (E = exO ∧ ¬ (okU c x ∧ okU c y)) ∨ (E = exA ∧ okU c x ∧ okU c y ∧ ¬ (inR z 1 100 ∧ x ≠ y)) ∨ (E = exS ∧ okU c x ∧ okU c y ∧ (inR z 1 100 ∧ x ≠ y) ∧ c 20 3 ≠ 0)) exA) ∨ (k9 = nI 3 ∧ z9 = (c, o) ∧ (fun E => (E = exO ∧ ¬ (okU c x ∧ okU c y)) ∨ (E = exA ∧ okU c x ∧ okU c y ∧ ¬ (inR z 1 100 ∧ x ≠ y)) ∨ (E = exS ∧ okU c x ∧ okU c y ∧ (inR z 1 100 ∧ x ≠ y) ∧ c 20 3 ≠ 0)) exS)) (fun (z9 : (Nat → Nat → Nat) × Nat) t => Wr D G h0 z9.1 r z9.2 t) (fun q => h0 ≤ q)) 7 2033 (fun q => h0 ≤ q) := by
  refine va_MetW (cc := cL_wish) (maxL := 6) (ret := (some .int)) (hh := [(0, 12, 15, 21), (0, 12, 19, 13), (0, 12, 23, 15)]) (by decide) rfl ?_
  intro p e s m args below meth cd s₁ B hml hv
  obtain ⟨rfl, hE, wl, hRc, hRr, hRo, hP, hD⟩ := hv
  have hx := B.exec
  have hb := B.bytes
  have hr := B.returns
  have hts := atoms_spec (ws := wsL_wish) B.pre
  have htab := vx_table (x := yL_wish) B (hts _ List.mem_cons_self)
  have hown : s.vm.findClass RL = some m.cls := findClass_of_methodNamed B.named
  have hlocks := B.notSynchronized
  have hK := hE.2.1
  have hS : va_S (fun q => h0 ≤ q) s.heap s.heap [] := va_S.rf
  have hl := lv_entry ([.ref (G 0), .int x, .int y, .int z, .ref (G 4)]) (n := 6) (Nat.le_of_ble_eq_true rfl)
  rw [lg_entry_eq]
  generalize (lg_sl ([.ref (G 0), .int x, .int y, .int z, .ref (G 4)]) ++ List.replicate (6 - (lg_sl ([.ref (G 0), .int x, .int y, .int z, .ref (G 4)])).length) Slot.unset).toArray = ls at hl ⊢
  have hl : lv_has ls 6 [(0, .ref (G 0)), (1, .int x), (2, .int y), (3, .int z), (4, .ref (G 4))] := hl
  refine lv_aload hx hb dL_wish_0 (lv_at hl 4 rfl) ?_
  refine lv_iconst (v := nI 0) hx hb dL_wish_2 (by decide) ?_
  refine lv_aload_n hx hb dL_wish_3 rfl (lv_at hl 0 rfl) ?_
  refine lv_iload_n hx hb dL_wish_4 rfl (lv_at hl 1 rfl) ?_
  refine lv_iload_n hx hb dL_wish_5 rfl (lv_at hl 2 rfl) ?_
  refine lv_iload_n hx hb dL_wish_6 rfl (lv_at hl 3 rfl) ?_
  refine yx_tryi (vx_runV (As := [.int x, .int y, .int z]) (rest := [.int (nI 0), .ref (G 4)]) ⟨hx, hb, hml, hown, hts⟩ (k_X2_wish l hlt D G h0 c r o x y z hI hW5) (cwV 3 hts gL_wish_X2_wish rfl rfl rfl (by decide +kernel) ⟨(Nat.le_of_ble_eq_true rfl), (Nat.le_of_ble_eq_true rfl)⟩) ⟨fun a U g mk q => ⟨q.1, Pr_cg q.2⟩, va_recv (ci := 3) (q0 := 0) hK hP rfl (Q_o hRc), fun U hU hW => ⟨rfl, Pr_mk hE hRc hRr hRo hP hD hS hU hW⟩⟩ rfl rfl hl.1 rfl (lv_room (Nat.le_of_ble_eq_true rfl)) dL_wish_7 ⟨(Nat.le_of_ble_eq_true rfl), (Nat.le_of_ble_eq_true rfl)⟩) hS (fun E ce q9 H locs wl hpx hRc hRr hRo hP hD hS hce hcv hcl => ?_) (fun v9 u9 H locs wl hv9 hRc hRr hRo hP hD hS => ?_)
  · rcases hpx with hp0 | hp1 | hp2
    · obtain ⟨rfl, hp0⟩ := hp0
      refine vx_catch hown [] (⟨0, 12, 15, 21⟩ : ExceptionTableEntry) [(⟨0, 12, 19, 13⟩ : ExceptionTableEntry), (⟨0, 12, 23, 15⟩ : ExceptionTableEntry)] htab (fun z hz => absurd hz List.not_mem_nil) rfl (by decide) (hts (.classLink RL 21 exO) (by decide +kernel)) (va_Nw.use rfl hE.2.2.1.2.2.2.1.2.2.2.1) hce hcv hcl ?_
      refine lv_astore (lv' := [(5, .ref q9), (0, .ref (G 0)), (1, .int x), (2, .int y), (3, .int z), (4, .ref (G 4))]) hx hb dL_wish_15 hl (by decide) rfl (fun ls hl => ?_)
      refine lv_iconst (v := nI 1) hx hb dL_wish_17 (by decide) ?_
      exact W.iret (v := nI 1) hx hb hr (fun t ht hW => ⟨⟨_, (c, o), rfl, Or.inr (Or.inl ⟨rfl, rfl, Or.inl ⟨rfl, hp0⟩⟩), Wr_mk hRc hRr hRo hP hD ht⟩, hS.F ht⟩) hS.2.2 dL_wish_18
    · obtain ⟨rfl, hp1⟩ := hp1
      refine vx_catch hown [(⟨0, 12, 15, 21⟩ : ExceptionTableEntry)] (⟨0, 12, 19, 13⟩ : ExceptionTableEntry) [(⟨0, 12, 23, 15⟩ : ExceptionTableEntry)] htab (fun z hz => by simp only [List.mem_cons, List.not_mem_nil, or_false] at hz; subst hz; exact Or.inr ⟨by decide, exO, hts (.classLink RL 21 exO) (by decide +kernel), hE.2.2.1.2.2.2.2.2.2.1⟩) rfl (by decide) (hts (.classLink RL 13 exA) (by decide +kernel)) (va_Nw.use rfl hE.2.2.1.2.2.2.1.2.2.2.2.1) hce hcv hcl ?_
      refine lv_astore (lv' := [(5, .ref q9), (0, .ref (G 0)), (1, .int x), (2, .int y), (3, .int z), (4, .ref (G 4))]) hx hb dL_wish_19 hl (by decide) rfl (fun ls hl => ?_)
      refine lv_iconst (v := nI 2) hx hb dL_wish_21 (by decide) ?_
      exact W.iret (v := nI 2) hx hb hr (fun t ht hW => ⟨⟨_, (c, o), rfl, Or.inr (Or.inr (Or.inl ⟨rfl, rfl, Or.inr (Or.inl ⟨rfl, hp1⟩)⟩)), Wr_mk hRc hRr hRo hP hD ht⟩, hS.F ht⟩) hS.2.2 dL_wish_22
    · obtain ⟨rfl, hp2⟩ := hp2
      refine vx_catch hown [(⟨0, 12, 15, 21⟩ : ExceptionTableEntry), (⟨0, 12, 19, 13⟩ : ExceptionTableEntry)] (⟨0, 12, 23, 15⟩ : ExceptionTableEntry) [] htab (fun z hz => by simp only [List.mem_cons, List.not_mem_nil, or_false] at hz; rcases hz with rfl | rfl; exact Or.inr ⟨by decide, exO, hts (.classLink RL 21 exO) (by decide +kernel), hE.2.2.1.2.2.2.2.2.2.2.2.1⟩; exact Or.inr ⟨by decide, exA, hts (.classLink RL 13 exA) (by decide +kernel), hE.2.2.1.2.2.2.2.2.2.2.2.2⟩) rfl (by decide) (hts (.classLink RL 15 exS) (by decide +kernel)) (va_Nw.use rfl hE.2.2.1.2.2.2.1.2.2.2.2.2) hce hcv hcl ?_
      refine lv_astore (lv' := [(5, .ref q9), (0, .ref (G 0)), (1, .int x), (2, .int y), (3, .int z), (4, .ref (G 4))]) hx hb dL_wish_23 hl (by decide) rfl (fun ls hl => ?_)
      refine lv_iconst (v := nI 3) hx hb dL_wish_25 (by decide) ?_
      exact W.iret (v := nI 3) hx hb hr (fun t ht hW => ⟨⟨_, (c, o), rfl, Or.inr (Or.inr (Or.inr (⟨rfl, rfl, Or.inr (Or.inr (⟨rfl, hp2⟩))⟩))), Wr_mk hRc hRr hRo hP hD ht⟩, hS.F ht⟩) hS.2.2 dL_wish_26
  · obtain ⟨o9, ho9⟩ : ∃ o9, v9.toInt64 = lE o9 := by
      obtain ⟨a, b, t, _, _, _, _, _, _, _, _, h9⟩ := hv9
      rcases h9 with ⟨_, e9, _⟩ | ⟨j, _, e9, _⟩
      · exact ⟨_, by rw [e9]; exact lE_n (by decide)⟩
      · exact ⟨_, by rw [e9]; exact lE_n (IC_B hI _ _ (by decide))⟩
    refine lv_i2l hx hb dL_wish_10 ho9 ?_
    refine x_last hx hb hK hP hD hS hRc hRr hRo (v := o9) rfl dL_wish_11 (fun H locs wl hRc hRr hRo hP hD hS => ?_)
    refine lv_goto (tgt := 27) hx hb dL_wish_12 (by decide) ?_
    refine lv_iconst (v := nI 0) hx hb dL_wish_27 (by decide) ?_
    exact W.iret (v := nI 0) hx hb hr (fun t ht hW => ⟨⟨_, (u9, o9), rfl, Or.inl ⟨rfl, v9, hv9, ho9⟩, Wr_mk hRc hRr hRo hP hD ht⟩, hS.F ht⟩) hS.2.2 dL_wish_28
set_option maxHeartbeats 4000000 in
set_option maxRecDepth 100000 in
theorem k_L_standIn (l : Launch) (hlt : l.stackTraces = false) (D : va_G) (G : Nat → Nat) (h0 : Nat) (c r : Nat → Nat → Nat) (o : Nat) (x y : Int32) (hI : IC c) : Met l yL_standIn wsL_standIn ({ frames := 8, cells := 4, slots := 24, locals := 129 } : Room) (va_Pc [.ref (G 0), .int x, .int y, .ref (G 4)] (fun U => Pr D G h0 c r o U)) (va_Qi (fun (k9 : Int32) (z9 : (Nat → Nat → Nat) × Nat) => (k9 = nI 0 ∧ ∃ v9 : Int32, (fun (u9 : Nat → Nat → Nat) => ∃ a k, a < c 20 1 ∧ x = nI a ∧ (k = 0 ∧ y = -1 ∨ ∃ b, b < c 20 1 ∧ y = nI b ∧ b ≠ a ∧ k = b + 1) ∧ c 20 3 = 0 ∧ v9 = siI (c 6 a) ∧ u9 = up2 c 6 a k) z9.1 ∧ v9.toInt64 = lE z9.2) ∨ (k9 = nI 1 ∧ z9 = (c, o) ∧ (fun E => (E = exO ∧ ¬ (okU c x ∧ (y = -1 ∨ okU c y))) ∨ (E = exA ∧ okU c x ∧ okU c y ∧ x = y) ∨ (E = exS ∧ okU c x ∧ (y = -1 ∨ okU c y) ∧ x ≠ y ∧ c 20 3 ≠ 0)) exO) ∨ (k9 = nI 2 ∧ z9 = (c, o) ∧ (fun E => (E = exO ∧ ¬ (okU c x ∧ (y = -1 ∨ okU c y))) ∨ (E = exA ∧ okU c x ∧ okU c y ∧ x = y) ∨ (E = exS ∧ okU c x ∧ (y = -1 ∨ okU c y) ∧ x ≠ y ∧ c 20 3 ≠ 0)) exA) ∨ (k9 = nI 3 ∧ z9 = (c, o) ∧ (fun E => (E = exO ∧ ¬ (okU c x ∧ (y = -1 ∨ okU c y))) ∨ (E = exA ∧ okU c x ∧ okU c y ∧ x = y) ∨ (E = exS ∧ okU c x ∧ (y = -1 ∨ okU c y) ∧ x ≠ y ∧ c 20 3 ≠ 0)) exS)) (fun (z9 : (Nat → Nat → Nat) × Nat) t => Wr D G h0 z9.1 r z9.2 t) (fun q => h0 ≤ q)) 4 24 (fun q => h0 ≤ q) := by
  refine va_MetW (cc := cL_standIn) (maxL := 5) (ret := (some .int)) (hh := [(0, 10, 13, 21), (0, 10, 17, 13), (0, 10, 21, 15)]) (by decide) rfl ?_
  intro p e s m args below meth cd s₁ B hml hv
  obtain ⟨rfl, hE, wl, hRc, hRr, hRo, hP, hD⟩ := hv
  have hx := B.exec
  have hb := B.bytes
  have hr := B.returns
  have hts := atoms_spec (ws := wsL_standIn) B.pre
  have htab := vx_table (x := yL_standIn) B (hts _ List.mem_cons_self)
  have hown : s.vm.findClass RL = some m.cls := findClass_of_methodNamed B.named
  have hlocks := B.notSynchronized
  have hK := hE.2.1
  have hS : va_S (fun q => h0 ≤ q) s.heap s.heap [] := va_S.rf
  have hl := lv_entry ([.ref (G 0), .int x, .int y, .ref (G 4)]) (n := 5) (Nat.le_of_ble_eq_true rfl)
  rw [lg_entry_eq]
  generalize (lg_sl ([.ref (G 0), .int x, .int y, .ref (G 4)]) ++ List.replicate (5 - (lg_sl ([.ref (G 0), .int x, .int y, .ref (G 4)])).length) Slot.unset).toArray = ls at hl ⊢
  have hl : lv_has ls 5 [(0, .ref (G 0)), (1, .int x), (2, .int y), (3, .ref (G 4))] := hl
  refine lv_aload_n hx hb dL_standIn_0 rfl (lv_at hl 3 rfl) ?_
  refine lv_iconst (v := nI 0) hx hb dL_standIn_1 (by decide) ?_
  refine lv_aload_n hx hb dL_standIn_2 rfl (lv_at hl 0 rfl) ?_
  refine lv_iload_n hx hb dL_standIn_3 rfl (lv_at hl 1 rfl) ?_
  refine lv_iload_n hx hb dL_standIn_4 rfl (lv_at hl 2 rfl) ?_
  refine yx_tryi (vx_runV (As := [.int x, .int y]) (rest := [.int (nI 0), .ref (G 4)]) ⟨hx, hb, hml, hown, hts⟩ (k_X2_standIn l hlt D G h0 c r o x y hI) (cwV 2 hts gL_standIn_X2_standIn rfl rfl rfl (by decide +kernel) ⟨(Nat.le_of_ble_eq_true rfl), (Nat.le_of_ble_eq_true rfl)⟩) ⟨fun a U g mk q => ⟨q.1, Pr_cg q.2⟩, va_recv (ci := 3) (q0 := 0) hK hP rfl (Q_o hRc), fun U hU hW => ⟨rfl, Pr_mk hE hRc hRr hRo hP hD hS hU hW⟩⟩ rfl rfl hl.1 rfl (lv_room (Nat.le_of_ble_eq_true rfl)) dL_standIn_5 ⟨(Nat.le_of_ble_eq_true rfl), (Nat.le_of_ble_eq_true rfl)⟩) hS (fun E ce q9 H locs wl hpx hRc hRr hRo hP hD hS hce hcv hcl => ?_) (fun v9 u9 H locs wl hv9 hRc hRr hRo hP hD hS => ?_)
  · rcases hpx with hp0 | hp1 | hp2
    · obtain ⟨rfl, hp0⟩ := hp0
      refine vx_catch hown [] (⟨0, 10, 13, 21⟩ : ExceptionTableEntry) [(⟨0, 10, 17, 13⟩ : ExceptionTableEntry), (⟨0, 10, 21, 15⟩ : ExceptionTableEntry)] htab (fun z hz => absurd hz List.not_mem_nil) rfl (by decide) (hts (.classLink RL 21 exO) (by decide +kernel)) (va_Nw.use rfl hE.2.2.1.2.2.2.1.2.2.2.1) hce hcv hcl ?_
      refine lv_astore (lv' := [(4, .ref q9), (0, .ref (G 0)), (1, .int x), (2, .int y), (3, .ref (G 4))]) hx hb dL_standIn_13 hl (by decide) rfl (fun ls hl => ?_)
      refine lv_iconst (v := nI 1) hx hb dL_standIn_15 (by decide) ?_
      exact W.iret (v := nI 1) hx hb hr (fun t ht hW => ⟨⟨_, (c, o), rfl, Or.inr (Or.inl ⟨rfl, rfl, Or.inl ⟨rfl, hp0⟩⟩), Wr_mk hRc hRr hRo hP hD ht⟩, hS.F ht⟩) hS.2.2 dL_standIn_16
    · obtain ⟨rfl, hp1⟩ := hp1
      refine vx_catch hown [(⟨0, 10, 13, 21⟩ : ExceptionTableEntry)] (⟨0, 10, 17, 13⟩ : ExceptionTableEntry) [(⟨0, 10, 21, 15⟩ : ExceptionTableEntry)] htab (fun z hz => by simp only [List.mem_cons, List.not_mem_nil, or_false] at hz; subst hz; exact Or.inr ⟨by decide, exO, hts (.classLink RL 21 exO) (by decide +kernel), hE.2.2.1.2.2.2.2.2.2.1⟩) rfl (by decide) (hts (.classLink RL 13 exA) (by decide +kernel)) (va_Nw.use rfl hE.2.2.1.2.2.2.1.2.2.2.2.1) hce hcv hcl ?_
      refine lv_astore (lv' := [(4, .ref q9), (0, .ref (G 0)), (1, .int x), (2, .int y), (3, .ref (G 4))]) hx hb dL_standIn_17 hl (by decide) rfl (fun ls hl => ?_)
      refine lv_iconst (v := nI 2) hx hb dL_standIn_19 (by decide) ?_
      exact W.iret (v := nI 2) hx hb hr (fun t ht hW => ⟨⟨_, (c, o), rfl, Or.inr (Or.inr (Or.inl ⟨rfl, rfl, Or.inr (Or.inl ⟨rfl, hp1⟩)⟩)), Wr_mk hRc hRr hRo hP hD ht⟩, hS.F ht⟩) hS.2.2 dL_standIn_20
    · obtain ⟨rfl, hp2⟩ := hp2
      refine vx_catch hown [(⟨0, 10, 13, 21⟩ : ExceptionTableEntry), (⟨0, 10, 17, 13⟩ : ExceptionTableEntry)] (⟨0, 10, 21, 15⟩ : ExceptionTableEntry) [] htab (fun z hz => by simp only [List.mem_cons, List.not_mem_nil, or_false] at hz; rcases hz with rfl | rfl; exact Or.inr ⟨by decide, exO, hts (.classLink RL 21 exO) (by decide +kernel), hE.2.2.1.2.2.2.2.2.2.2.2.1⟩; exact Or.inr ⟨by decide, exA, hts (.classLink RL 13 exA) (by decide +kernel), hE.2.2.1.2.2.2.2.2.2.2.2.2⟩) rfl (by decide) (hts (.classLink RL 15 exS) (by decide +kernel)) (va_Nw.use rfl hE.2.2.1.2.2.2.1.2.2.2.2.2) hce hcv hcl ?_
      refine lv_astore (lv' := [(4, .ref q9), (0, .ref (G 0)), (1, .int x), (2, .int y), (3, .ref (G 4))]) hx hb dL_standIn_21 hl (by decide) rfl (fun ls hl => ?_)
      refine lv_iconst (v := nI 3) hx hb dL_standIn_23 (by decide) ?_
      exact W.iret (v := nI 3) hx hb hr (fun t ht hW => ⟨⟨_, (c, o), rfl, Or.inr (Or.inr (Or.inr (⟨rfl, rfl, Or.inr (Or.inr (⟨rfl, hp2⟩))⟩))), Wr_mk hRc hRr hRo hP hD ht⟩, hS.F ht⟩) hS.2.2 dL_standIn_24
  · obtain ⟨o9, ho9⟩ : ∃ o9, v9.toInt64 = lE o9 := by
      obtain ⟨a, k, _, _, _, _, e9, _⟩ := hv9
      exact ⟨_, by rw [e9]; exact lE_s (Nat.lt_of_le_of_lt (IC_s hI a) (by decide))⟩
    refine lv_i2l hx hb dL_standIn_8 ho9 ?_
    refine x_last hx hb hK hP hD hS hRc hRr hRo (v := o9) rfl dL_standIn_9 (fun H locs wl hRc hRr hRo hP hD hS => ?_)
    refine lv_goto (tgt := 25) hx hb dL_standIn_10 (by decide) ?_
    refine lv_iconst (v := nI 0) hx hb dL_standIn_25 (by decide) ?_
    exact W.iret (v := nI 0) hx hb hr (fun t ht hW => ⟨⟨_, (u9, o9), rfl, Or.inl ⟨rfl, v9, hv9, ho9⟩, Wr_mk hRc hRr hRo hP hD ht⟩, hS.F ht⟩) hS.2.2 dL_standIn_26
set_option maxHeartbeats 4000000 in
set_option maxRecDepth 100000 in
theorem k_L_hold (l : Launch) (hlt : l.stackTraces = false) (D : va_G) (G : Nat → Nat) (h0 : Nat) (c r : Nat → Nat → Nat) (o : Nat) (x : Int32) (b : Nat) (hb1 : b ≤ 1) (hI : IC c) : Met l yL_hold wsL_hold ({ frames := 8, cells := 2, slots := 12, locals := 127 } : Room) (va_Pc [.ref (G 0), .int x, .int (nI b), .ref (G 4)] (fun U => Pr D G h0 c r o U)) (va_Qi (fun (k9 : Int32) (z9 : (Nat → Nat → Nat) × Nat) => (k9 = nI 0 ∧ ∃ v9 : Int32, (fun (u9 : Nat → Nat → Nat) => ∃ a, a < c 20 1 ∧ x = nI a ∧ c 20 3 = 0 ∧ v9 = nI (c 5 a) ∧ u9 = up2 c 5 a b) z9.1 ∧ z9.2 = (if v9 = 0 then 1 else 2)) ∨ (k9 = nI 1 ∧ z9 = (c, o) ∧ (fun E => (E = exO ∧ ¬ okU c x) ∨ (E = exS ∧ okU c x ∧ c 20 3 ≠ 0)) exO) ∨ (k9 = nI 2 ∧ z9 = (c, o) ∧ (fun E => (E = exO ∧ ¬ okU c x) ∨ (E = exS ∧ okU c x ∧ c 20 3 ≠ 0)) exS)) (fun (z9 : (Nat → Nat → Nat) × Nat) t => Wr D G h0 z9.1 r z9.2 t) (fun q => h0 ≤ q)) 2 12 (fun q => h0 ≤ q) := by
  refine va_MetW (cc := cL_hold) (maxL := 5) (ret := (some .int)) (hh := [(0, 17, 20, 21), (0, 17, 24, 15)]) (by decide) rfl ?_
  intro p e s m args below meth cd s₁ B hml hv
  obtain ⟨rfl, hE, wl, hRc, hRr, hRo, hP, hD⟩ := hv
  have hx := B.exec
  have hb := B.bytes
  have hr := B.returns
  have hts := atoms_spec (ws := wsL_hold) B.pre
  have htab := vx_table (x := yL_hold) B (hts _ List.mem_cons_self)
  have hown : s.vm.findClass RL = some m.cls := findClass_of_methodNamed B.named
  have hlocks := B.notSynchronized
  have hK := hE.2.1
  have hS : va_S (fun q => h0 ≤ q) s.heap s.heap [] := va_S.rf
  have hl := lv_entry ([.ref (G 0), .int x, .int (nI b), .ref (G 4)]) (n := 5) (Nat.le_of_ble_eq_true rfl)
  rw [lg_entry_eq]
  generalize (lg_sl ([.ref (G 0), .int x, .int (nI b), .ref (G 4)]) ++ List.replicate (5 - (lg_sl ([.ref (G 0), .int x, .int (nI b), .ref (G 4)])).length) Slot.unset).toArray = ls at hl ⊢
  have hl : lv_has ls 5 [(0, .ref (G 0)), (1, .int x), (2, .int (nI b)), (3, .ref (G 4))] := hl
  refine lv_aload_n hx hb dL_hold_0 rfl (lv_at hl 3 rfl) ?_
  refine lv_iconst (v := nI 0) hx hb dL_hold_1 (by decide) ?_
  refine lv_aload_n hx hb dL_hold_2 rfl (lv_at hl 0 rfl) ?_
  refine lv_iload_n hx hb dL_hold_3 rfl (lv_at hl 1 rfl) ?_
  refine lv_iload_n hx hb dL_hold_4 rfl (lv_at hl 2 rfl) ?_
  refine yx_tryi (vx_runV (As := [.int x, .int (nI b)]) (rest := [.int (nI 0), .ref (G 4)]) ⟨hx, hb, hml, hown, hts⟩ (k_X2_hold l hlt D G h0 c r o x b hb1 hI) (cwV 2 hts gL_hold_X2_hold rfl rfl rfl (by decide +kernel) ⟨(Nat.le_of_ble_eq_true rfl), (Nat.le_of_ble_eq_true rfl)⟩) ⟨fun a U g mk q => ⟨q.1, Pr_cg q.2⟩, va_recv (ci := 3) (q0 := 0) hK hP rfl (Q_o hRc), fun U hU hW => ⟨rfl, Pr_mk hE hRc hRr hRo hP hD hS hU hW⟩⟩ rfl rfl hl.1 rfl (lv_room (Nat.le_of_ble_eq_true rfl)) dL_hold_5 ⟨(Nat.le_of_ble_eq_true rfl), (Nat.le_of_ble_eq_true rfl)⟩) hS (fun E ce q9 H locs wl hpx hRc hRr hRo hP hD hS hce hcv hcl => ?_) (fun v9 u9 H locs wl hv9 hRc hRr hRo hP hD hS => ?_)
  · rcases hpx with hp0 | hp1
    · obtain ⟨rfl, hp0⟩ := hp0
      refine vx_catch hown [] (⟨0, 17, 20, 21⟩ : ExceptionTableEntry) [(⟨0, 17, 24, 15⟩ : ExceptionTableEntry)] htab (fun z hz => absurd hz List.not_mem_nil) rfl (by decide) (hts (.classLink RL 21 exO) (by decide +kernel)) (va_Nw.use rfl hE.2.2.1.2.2.2.1.2.2.2.1) hce hcv hcl ?_
      refine lv_astore (lv' := [(4, .ref q9), (0, .ref (G 0)), (1, .int x), (2, .int (nI b)), (3, .ref (G 4))]) hx hb dL_hold_20 hl (by decide) rfl (fun ls hl => ?_)
      refine lv_iconst (v := nI 1) hx hb dL_hold_22 (by decide) ?_
      exact W.iret (v := nI 1) hx hb hr (fun t ht hW => ⟨⟨_, (c, o), rfl, Or.inr (Or.inl ⟨rfl, rfl, Or.inl ⟨rfl, hp0⟩⟩), Wr_mk hRc hRr hRo hP hD ht⟩, hS.F ht⟩) hS.2.2 dL_hold_23
    · obtain ⟨rfl, hp1⟩ := hp1
      refine vx_catch hown [(⟨0, 17, 20, 21⟩ : ExceptionTableEntry)] (⟨0, 17, 24, 15⟩ : ExceptionTableEntry) [] htab (fun z hz => by simp only [List.mem_cons, List.not_mem_nil, or_false] at hz; subst hz; exact Or.inr ⟨by decide, exO, hts (.classLink RL 21 exO) (by decide +kernel), hE.2.2.1.2.2.2.2.2.2.2.2.1⟩) rfl (by decide) (hts (.classLink RL 15 exS) (by decide +kernel)) (va_Nw.use rfl hE.2.2.1.2.2.2.1.2.2.2.2.2) hce hcv hcl ?_
      refine lv_astore (lv' := [(4, .ref q9), (0, .ref (G 0)), (1, .int x), (2, .int (nI b)), (3, .ref (G 4))]) hx hb dL_hold_24 hl (by decide) rfl (fun ls hl => ?_)
      refine lv_iconst (v := nI 2) hx hb dL_hold_26 (by decide) ?_
      exact W.iret (v := nI 2) hx hb hr (fun t ht hW => ⟨⟨_, (c, o), rfl, Or.inr (Or.inr (⟨rfl, rfl, Or.inr (⟨rfl, hp1⟩)⟩)), Wr_mk hRc hRr hRo hP hD ht⟩, hS.F ht⟩) hS.2.2 dL_hold_27
  · refine lv_if_eq (tgt := 15) hx hb dL_hold_8 (by decide) (fun c0 => ?_) (fun c0 => ?_)
    · refine lv_lconst (n := 0) (v := 0) hx hb dL_hold_15 rfl ?_
      refine x_last hx hb hK hP hD hS hRc hRr hRo (v := 1) (by decide) dL_hold_16 (fun H locs wl hRc hRr hRo hP hD hS => ?_)
      refine lv_goto (tgt := 28) hx hb dL_hold_17 (by decide) ?_
      refine lv_iconst (v := nI 0) hx hb dL_hold_28 (by decide) ?_
      exact W.iret (v := nI 0) hx hb hr (fun t ht hW => ⟨⟨_, (u9, 1), rfl, Or.inl ⟨rfl, v9, hv9, (if_pos c0).symm⟩, Wr_mk hRc hRr hRo hP hD ht⟩, hS.F ht⟩) hS.2.2 dL_hold_29
    · refine lv_lconst (n := 1) (v := 1) hx hb dL_hold_11 rfl ?_
      refine lv_goto (tgt := 16) hx hb dL_hold_12 (by decide) ?_
      refine x_last hx hb hK hP hD hS hRc hRr hRo (v := 2) (by decide) dL_hold_16 (fun H locs wl hRc hRr hRo hP hD hS => ?_)
      refine lv_goto (tgt := 28) hx hb dL_hold_17 (by decide) ?_
      refine lv_iconst (v := nI 0) hx hb dL_hold_28 (by decide) ?_
      exact W.iret (v := nI 0) hx hb hr (fun t ht hW => ⟨⟨_, (u9, 2), rfl, Or.inl ⟨rfl, v9, hv9, (if_neg c0).symm⟩, Wr_mk hRc hRr hRo hP hD ht⟩, hS.F ht⟩) hS.2.2 dL_hold_29
set_option maxHeartbeats 4000000 in
set_option maxRecDepth 100000 in
theorem k_L_setFaults (l : Launch) (hlt : l.stackTraces = false) (D : va_G) (G : Nat → Nat) (h0 : Nat) (c r : Nat → Nat → Nat) (o : Nat) (x y : Int32) (hI : IC c) : Met l yL_setFaults wsL_setFaults ({ frames := 8, cells := 2, slots := 12, locals := 129 } : Room) (va_Pc [.ref (G 0), .int x, .int y, .ref (G 4)] (fun U => Pr D G h0 c r o U)) (va_Qi (fun (k9 : Int32) (z9 : (Nat → Nat → Nat) × Nat) => (k9 = nI 0 ∧ ∃ v9 : Int32, (fun (u9 : Nat → Nat → Nat) => ∃ a t, a < c 20 1 ∧ x = nI a ∧ (0 ≤ t ∧ t ≤ 10) ∧ y = nI t ∧ v9 = nI (c 4 a) ∧ u9 = up2 c 4 a t) z9.1 ∧ v9.toInt64 = lE z9.2) ∨ (k9 = nI 1 ∧ z9 = (c, o) ∧ (fun E => (E = exO ∧ ¬ okU c x) ∨ (E = exA ∧ okU c x ∧ ¬ inR y 0 10)) exO) ∨ (k9 = nI 2 ∧ z9 = (c, o) ∧ (fun E => (E = exO ∧ ¬ okU c x) ∨ (E = exA ∧ okU c x ∧ ¬ inR y 0 10)) exA)) (fun (z9 : (Nat → Nat → Nat) × Nat) t => Wr D G h0 z9.1 r z9.2 t) (fun q => h0 ≤ q)) 2 12 (fun q => h0 ≤ q) := by
  refine va_MetW (cc := cL_setFaults) (maxL := 5) (ret := (some .int)) (hh := [(0, 10, 13, 21), (0, 10, 17, 13)]) (by decide) rfl ?_
  intro p e s m args below meth cd s₁ B hml hv
  obtain ⟨rfl, hE, wl, hRc, hRr, hRo, hP, hD⟩ := hv
  have hx := B.exec
  have hb := B.bytes
  have hr := B.returns
  have hts := atoms_spec (ws := wsL_setFaults) B.pre
  have htab := vx_table (x := yL_setFaults) B (hts _ List.mem_cons_self)
  have hown : s.vm.findClass RL = some m.cls := findClass_of_methodNamed B.named
  have hlocks := B.notSynchronized
  have hK := hE.2.1
  have hS : va_S (fun q => h0 ≤ q) s.heap s.heap [] := va_S.rf
  have hl := lv_entry ([.ref (G 0), .int x, .int y, .ref (G 4)]) (n := 5) (Nat.le_of_ble_eq_true rfl)
  rw [lg_entry_eq]
  generalize (lg_sl ([.ref (G 0), .int x, .int y, .ref (G 4)]) ++ List.replicate (5 - (lg_sl ([.ref (G 0), .int x, .int y, .ref (G 4)])).length) Slot.unset).toArray = ls at hl ⊢
  have hl : lv_has ls 5 [(0, .ref (G 0)), (1, .int x), (2, .int y), (3, .ref (G 4))] := hl
  refine lv_aload_n hx hb dL_setFaults_0 rfl (lv_at hl 3 rfl) ?_
  refine lv_iconst (v := nI 0) hx hb dL_setFaults_1 (by decide) ?_
  refine lv_aload_n hx hb dL_setFaults_2 rfl (lv_at hl 0 rfl) ?_
  refine lv_iload_n hx hb dL_setFaults_3 rfl (lv_at hl 1 rfl) ?_
  refine lv_iload_n hx hb dL_setFaults_4 rfl (lv_at hl 2 rfl) ?_
  refine yx_tryi (vx_runV (As := [.int x, .int y]) (rest := [.int (nI 0), .ref (G 4)]) ⟨hx, hb, hml, hown, hts⟩ (k_X2_setFaults l hlt D G h0 c r o x y hI) (cwV 2 hts gL_setFaults_X2_setFaults rfl rfl rfl (by decide +kernel) ⟨(Nat.le_of_ble_eq_true rfl), (Nat.le_of_ble_eq_true rfl)⟩) ⟨fun a U g mk q => ⟨q.1, Pr_cg q.2⟩, va_recv (ci := 3) (q0 := 0) hK hP rfl (Q_o hRc), fun U hU hW => ⟨rfl, Pr_mk hE hRc hRr hRo hP hD hS hU hW⟩⟩ rfl rfl hl.1 rfl (lv_room (Nat.le_of_ble_eq_true rfl)) dL_setFaults_5 ⟨(Nat.le_of_ble_eq_true rfl), (Nat.le_of_ble_eq_true rfl)⟩) hS (fun E ce q9 H locs wl hpx hRc hRr hRo hP hD hS hce hcv hcl => ?_) (fun v9 u9 H locs wl hv9 hRc hRr hRo hP hD hS => ?_)
  · rcases hpx with hp0 | hp1
    · obtain ⟨rfl, hp0⟩ := hp0
      refine vx_catch hown [] (⟨0, 10, 13, 21⟩ : ExceptionTableEntry) [(⟨0, 10, 17, 13⟩ : ExceptionTableEntry)] htab (fun z hz => absurd hz List.not_mem_nil) rfl (by decide) (hts (.classLink RL 21 exO) (by decide +kernel)) (va_Nw.use rfl hE.2.2.1.2.2.2.1.2.2.2.1) hce hcv hcl ?_
      refine lv_astore (lv' := [(4, .ref q9), (0, .ref (G 0)), (1, .int x), (2, .int y), (3, .ref (G 4))]) hx hb dL_setFaults_13 hl (by decide) rfl (fun ls hl => ?_)
      refine lv_iconst (v := nI 1) hx hb dL_setFaults_15 (by decide) ?_
      exact W.iret (v := nI 1) hx hb hr (fun t ht hW => ⟨⟨_, (c, o), rfl, Or.inr (Or.inl ⟨rfl, rfl, Or.inl ⟨rfl, hp0⟩⟩), Wr_mk hRc hRr hRo hP hD ht⟩, hS.F ht⟩) hS.2.2 dL_setFaults_16
    · obtain ⟨rfl, hp1⟩ := hp1
      refine vx_catch hown [(⟨0, 10, 13, 21⟩ : ExceptionTableEntry)] (⟨0, 10, 17, 13⟩ : ExceptionTableEntry) [] htab (fun z hz => by simp only [List.mem_cons, List.not_mem_nil, or_false] at hz; subst hz; exact Or.inr ⟨by decide, exO, hts (.classLink RL 21 exO) (by decide +kernel), hE.2.2.1.2.2.2.2.2.2.1⟩) rfl (by decide) (hts (.classLink RL 13 exA) (by decide +kernel)) (va_Nw.use rfl hE.2.2.1.2.2.2.1.2.2.2.2.1) hce hcv hcl ?_
      refine lv_astore (lv' := [(4, .ref q9), (0, .ref (G 0)), (1, .int x), (2, .int y), (3, .ref (G 4))]) hx hb dL_setFaults_17 hl (by decide) rfl (fun ls hl => ?_)
      refine lv_iconst (v := nI 2) hx hb dL_setFaults_19 (by decide) ?_
      exact W.iret (v := nI 2) hx hb hr (fun t ht hW => ⟨⟨_, (c, o), rfl, Or.inr (Or.inr (⟨rfl, rfl, Or.inr (⟨rfl, hp1⟩)⟩)), Wr_mk hRc hRr hRo hP hD ht⟩, hS.F ht⟩) hS.2.2 dL_setFaults_20
  · obtain ⟨o9, ho9⟩ : ∃ o9, v9.toInt64 = lE o9 := by
      obtain ⟨a, t, _, _, _, _, e9, _⟩ := hv9
      exact ⟨_, by rw [e9]; exact lE_n (IC_B hI _ _ (by decide))⟩
    refine lv_i2l hx hb dL_setFaults_8 ho9 ?_
    refine x_last hx hb hK hP hD hS hRc hRr hRo (v := o9) rfl dL_setFaults_9 (fun H locs wl hRc hRr hRo hP hD hS => ?_)
    refine lv_goto (tgt := 21) hx hb dL_setFaults_10 (by decide) ?_
    refine lv_iconst (v := nI 0) hx hb dL_setFaults_21 (by decide) ?_
    exact W.iret (v := nI 0) hx hb hr (fun t ht hW => ⟨⟨_, (u9, o9), rfl, Or.inl ⟨rfl, v9, hv9, ho9⟩, Wr_mk hRc hRr hRo hP hD ht⟩, hS.F ht⟩) hS.2.2 dL_setFaults_22
set_option maxHeartbeats 4000000 in
set_option maxRecDepth 100000 in
theorem k_L_setTime (l : Launch) (hlt : l.stackTraces = false) (D : va_G) (G : Nat → Nat) (h0 : Nat) (c r : Nat → Nat → Nat) (o : Nat) (x y : Int32) (hI : IC c) : Met l yL_setTime wsL_setTime ({ frames := 8, cells := 2, slots := 12, locals := 129 } : Room) (va_Pc [.ref (G 0), .int x, .int y, .ref (G 4)] (fun U => Pr D G h0 c r o U)) (va_Qi (fun (k9 : Int32) (z9 : (Nat → Nat → Nat) × Nat) => (k9 = nI 0 ∧ ∃ v9 : Int32, (fun (u9 : Nat → Nat → Nat) => ∃ a t, a < c 20 1 ∧ x = nI a ∧ (1 ≤ t ∧ t ≤ 100) ∧ y = nI t ∧ v9 = nI (c 1 a) ∧ u9 = up2 c 1 a t) z9.1 ∧ v9.toInt64 = lE z9.2) ∨ (k9 = nI 1 ∧ z9 = (c, o) ∧ (fun E => (E = exO ∧ ¬ okU c x) ∨ (E = exA ∧ okU c x ∧ ¬ inR y 1 100)) exO) ∨ (k9 = nI 2 ∧ z9 = (c, o) ∧ (fun E => (E = exO ∧ ¬ okU c x) ∨ (E = exA ∧ okU c x ∧ ¬ inR y 1 100)) exA)) (fun (z9 : (Nat → Nat → Nat) × Nat) t => Wr D G h0 z9.1 r z9.2 t) (fun q => h0 ≤ q)) 2 12 (fun q => h0 ≤ q) := by
  refine va_MetW (cc := cL_setTime) (maxL := 5) (ret := (some .int)) (hh := [(0, 10, 13, 21), (0, 10, 17, 13)]) (by decide) rfl ?_
  intro p e s m args below meth cd s₁ B hml hv
  obtain ⟨rfl, hE, wl, hRc, hRr, hRo, hP, hD⟩ := hv
  have hx := B.exec
  have hb := B.bytes
  have hr := B.returns
  have hts := atoms_spec (ws := wsL_setTime) B.pre
  have htab := vx_table (x := yL_setTime) B (hts _ List.mem_cons_self)
  have hown : s.vm.findClass RL = some m.cls := findClass_of_methodNamed B.named
  have hlocks := B.notSynchronized
  have hK := hE.2.1
  have hS : va_S (fun q => h0 ≤ q) s.heap s.heap [] := va_S.rf
  have hl := lv_entry ([.ref (G 0), .int x, .int y, .ref (G 4)]) (n := 5) (Nat.le_of_ble_eq_true rfl)
  rw [lg_entry_eq]
  generalize (lg_sl ([.ref (G 0), .int x, .int y, .ref (G 4)]) ++ List.replicate (5 - (lg_sl ([.ref (G 0), .int x, .int y, .ref (G 4)])).length) Slot.unset).toArray = ls at hl ⊢
  have hl : lv_has ls 5 [(0, .ref (G 0)), (1, .int x), (2, .int y), (3, .ref (G 4))] := hl
  refine lv_aload_n hx hb dL_setTime_0 rfl (lv_at hl 3 rfl) ?_
  refine lv_iconst (v := nI 0) hx hb dL_setTime_1 (by decide) ?_
  refine lv_aload_n hx hb dL_setTime_2 rfl (lv_at hl 0 rfl) ?_
  refine lv_iload_n hx hb dL_setTime_3 rfl (lv_at hl 1 rfl) ?_
  refine lv_iload_n hx hb dL_setTime_4 rfl (lv_at hl 2 rfl) ?_
  refine yx_tryi (vx_runV (As := [.int x, .int y]) (rest := [.int (nI 0), .ref (G 4)]) ⟨hx, hb, hml, hown, hts⟩ (k_X2_setTime l hlt D G h0 c r o x y hI) (cwV 2 hts gL_setTime_X2_setTime rfl rfl rfl (by decide +kernel) ⟨(Nat.le_of_ble_eq_true rfl), (Nat.le_of_ble_eq_true rfl)⟩) ⟨fun a U g mk q => ⟨q.1, Pr_cg q.2⟩, va_recv (ci := 3) (q0 := 0) hK hP rfl (Q_o hRc), fun U hU hW => ⟨rfl, Pr_mk hE hRc hRr hRo hP hD hS hU hW⟩⟩ rfl rfl hl.1 rfl (lv_room (Nat.le_of_ble_eq_true rfl)) dL_setTime_5 ⟨(Nat.le_of_ble_eq_true rfl), (Nat.le_of_ble_eq_true rfl)⟩) hS (fun E ce q9 H locs wl hpx hRc hRr hRo hP hD hS hce hcv hcl => ?_) (fun v9 u9 H locs wl hv9 hRc hRr hRo hP hD hS => ?_)
  · rcases hpx with hp0 | hp1
    · obtain ⟨rfl, hp0⟩ := hp0
      refine vx_catch hown [] (⟨0, 10, 13, 21⟩ : ExceptionTableEntry) [(⟨0, 10, 17, 13⟩ : ExceptionTableEntry)] htab (fun z hz => absurd hz List.not_mem_nil) rfl (by decide) (hts (.classLink RL 21 exO) (by decide +kernel)) (va_Nw.use rfl hE.2.2.1.2.2.2.1.2.2.2.1) hce hcv hcl ?_
      refine lv_astore (lv' := [(4, .ref q9), (0, .ref (G 0)), (1, .int x), (2, .int y), (3, .ref (G 4))]) hx hb dL_setTime_13 hl (by decide) rfl (fun ls hl => ?_)
      refine lv_iconst (v := nI 1) hx hb dL_setTime_15 (by decide) ?_
      exact W.iret (v := nI 1) hx hb hr (fun t ht hW => ⟨⟨_, (c, o), rfl, Or.inr (Or.inl ⟨rfl, rfl, Or.inl ⟨rfl, hp0⟩⟩), Wr_mk hRc hRr hRo hP hD ht⟩, hS.F ht⟩) hS.2.2 dL_setTime_16
    · obtain ⟨rfl, hp1⟩ := hp1
      refine vx_catch hown [(⟨0, 10, 13, 21⟩ : ExceptionTableEntry)] (⟨0, 10, 17, 13⟩ : ExceptionTableEntry) [] htab (fun z hz => by simp only [List.mem_cons, List.not_mem_nil, or_false] at hz; subst hz; exact Or.inr ⟨by decide, exO, hts (.classLink RL 21 exO) (by decide +kernel), hE.2.2.1.2.2.2.2.2.2.1⟩) rfl (by decide) (hts (.classLink RL 13 exA) (by decide +kernel)) (va_Nw.use rfl hE.2.2.1.2.2.2.1.2.2.2.2.1) hce hcv hcl ?_
      refine lv_astore (lv' := [(4, .ref q9), (0, .ref (G 0)), (1, .int x), (2, .int y), (3, .ref (G 4))]) hx hb dL_setTime_17 hl (by decide) rfl (fun ls hl => ?_)
      refine lv_iconst (v := nI 2) hx hb dL_setTime_19 (by decide) ?_
      exact W.iret (v := nI 2) hx hb hr (fun t ht hW => ⟨⟨_, (c, o), rfl, Or.inr (Or.inr (⟨rfl, rfl, Or.inr (⟨rfl, hp1⟩)⟩)), Wr_mk hRc hRr hRo hP hD ht⟩, hS.F ht⟩) hS.2.2 dL_setTime_20
  · obtain ⟨o9, ho9⟩ : ∃ o9, v9.toInt64 = lE o9 := by
      obtain ⟨a, t, _, _, _, _, e9, _⟩ := hv9
      exact ⟨_, by rw [e9]; exact lE_n (IC_B hI _ _ (by decide))⟩
    refine lv_i2l hx hb dL_setTime_8 ho9 ?_
    refine x_last hx hb hK hP hD hS hRc hRr hRo (v := o9) rfl dL_setTime_9 (fun H locs wl hRc hRr hRo hP hD hS => ?_)
    refine lv_goto (tgt := 21) hx hb dL_setTime_10 (by decide) ?_
    refine lv_iconst (v := nI 0) hx hb dL_setTime_21 (by decide) ?_
    exact W.iret (v := nI 0) hx hb hr (fun t ht hW => ⟨⟨_, (u9, o9), rfl, Or.inl ⟨rfl, v9, hv9, ho9⟩, Wr_mk hRc hRr hRo hP hD ht⟩, hS.F ht⟩) hS.2.2 dL_setTime_22
set_option maxHeartbeats 4000000 in
set_option maxRecDepth 100000 in
theorem k_L_learned (l : Launch) (hlt : l.stackTraces = false) (D : va_G) (G : Nat → Nat) (h0 : Nat) (c r : Nat → Nat → Nat) (o : Nat) (x : Int32) (hI : IC c) : Met l yL_learned wsL_learned ({ frames := 8, cells := 1, slots := 6, locals := 124 } : Room) (va_Pc [.ref (G 0), .int x, .ref (G 4)] (fun U => Pr D G h0 c r o U)) (va_Qi (fun (k9 : Int32) (z9 : (Nat → Nat → Nat) × Nat) => (k9 = nI 0 ∧ ∃ v9 : Int32, (fun (u9 : Nat → Nat → Nat) => ∃ a, a < c 20 1 ∧ x = nI a ∧ v9 = nI (c 3 a) ∧ u9 = c) z9.1 ∧ v9.toInt64 = lE z9.2) ∨ (k9 = nI 1 ∧ z9 = (c, o) ∧ (fun E => E = exO ∧ ¬ okU c x) exO)) (fun (z9 : (Nat → Nat → Nat) × Nat) t => Wr D G h0 z9.1 r z9.2 t) (fun q => h0 ≤ q)) 1 6 (fun q => h0 ≤ q) := by
  refine va_MetW (cc := cL_learned) (maxL := 4) (ret := (some .int)) (hh := [(0, 9, 12, 21)]) (by decide) rfl ?_
  intro p e s m args below meth cd s₁ B hml hv
  obtain ⟨rfl, hE, wl, hRc, hRr, hRo, hP, hD⟩ := hv
  have hx := B.exec
  have hb := B.bytes
  have hr := B.returns
  have hts := atoms_spec (ws := wsL_learned) B.pre
  have htab := vx_table (x := yL_learned) B (hts _ List.mem_cons_self)
  have hown : s.vm.findClass RL = some m.cls := findClass_of_methodNamed B.named
  have hlocks := B.notSynchronized
  have hK := hE.2.1
  have hS : va_S (fun q => h0 ≤ q) s.heap s.heap [] := va_S.rf
  have hl := lv_entry ([.ref (G 0), .int x, .ref (G 4)]) (n := 4) (Nat.le_of_ble_eq_true rfl)
  rw [lg_entry_eq]
  generalize (lg_sl ([.ref (G 0), .int x, .ref (G 4)]) ++ List.replicate (4 - (lg_sl ([.ref (G 0), .int x, .ref (G 4)])).length) Slot.unset).toArray = ls at hl ⊢
  have hl : lv_has ls 4 [(0, .ref (G 0)), (1, .int x), (2, .ref (G 4))] := hl
  refine lv_aload_n hx hb dL_learned_0 rfl (lv_at hl 2 rfl) ?_
  refine lv_iconst (v := nI 0) hx hb dL_learned_1 (by decide) ?_
  refine lv_aload_n hx hb dL_learned_2 rfl (lv_at hl 0 rfl) ?_
  refine lv_iload_n hx hb dL_learned_3 rfl (lv_at hl 1 rfl) ?_
  refine yx_tryi (vx_runV (As := [.int x]) (rest := [.int (nI 0), .ref (G 4)]) ⟨hx, hb, hml, hown, hts⟩ (k_X2_learned l hlt D G h0 c r o x hI) (cwV 1 hts gL_learned_X2_learned rfl rfl rfl (by decide +kernel) ⟨(Nat.le_of_ble_eq_true rfl), (Nat.le_of_ble_eq_true rfl)⟩) ⟨fun a U g mk q => ⟨q.1, Pr_cg q.2⟩, va_recv (ci := 3) (q0 := 0) hK hP rfl (Q_o hRc), fun U hU hW => ⟨rfl, Pr_mk hE hRc hRr hRo hP hD hS hU hW⟩⟩ rfl rfl hl.1 rfl (lv_room (Nat.le_of_ble_eq_true rfl)) dL_learned_4 ⟨(Nat.le_of_ble_eq_true rfl), (Nat.le_of_ble_eq_true rfl)⟩) hS (fun E ce q9 H locs wl hpx hRc hRr hRo hP hD hS hce hcv hcl => ?_) (fun v9 u9 H locs wl hv9 hRc hRr hRo hP hD hS => ?_)
  · have hp0 : _ ∧ _ := hpx
    obtain ⟨rfl, hp0⟩ := hp0
    refine vx_catch hown [] (⟨0, 9, 12, 21⟩ : ExceptionTableEntry) [] htab (fun z hz => absurd hz List.not_mem_nil) rfl (by decide) (hts (.classLink RL 21 exO) (by decide +kernel)) (va_Nw.use rfl hE.2.2.1.2.2.2.1.2.2.2.1) hce hcv hcl ?_
    refine lv_astore_n (lv' := [(3, .ref q9), (0, .ref (G 0)), (1, .int x), (2, .ref (G 4))]) hx hb dL_learned_12 rfl hl (by decide) rfl (fun ls hl => ?_)
    refine lv_iconst (v := nI 1) hx hb dL_learned_13 (by decide) ?_
    exact W.iret (v := nI 1) hx hb hr (fun t ht hW => ⟨⟨_, (c, o), rfl, Or.inr (⟨rfl, rfl, ⟨rfl, hp0⟩⟩), Wr_mk hRc hRr hRo hP hD ht⟩, hS.F ht⟩) hS.2.2 dL_learned_14
  · obtain ⟨o9, ho9⟩ : ∃ o9, v9.toInt64 = lE o9 := by
      obtain ⟨a, _, _, e9, _⟩ := hv9
      exact ⟨_, by rw [e9]; exact lE_n (IC_B hI _ _ (by decide))⟩
    refine lv_i2l hx hb dL_learned_7 ho9 ?_
    refine x_last hx hb hK hP hD hS hRc hRr hRo (v := o9) rfl dL_learned_8 (fun H locs wl hRc hRr hRo hP hD hS => ?_)
    refine lv_goto (tgt := 15) hx hb dL_learned_9 (by decide) ?_
    refine lv_iconst (v := nI 0) hx hb dL_learned_15 (by decide) ?_
    exact W.iret (v := nI 0) hx hb hr (fun t ht hW => ⟨⟨_, (u9, o9), rfl, Or.inl ⟨rfl, v9, hv9, ho9⟩, Wr_mk hRc hRr hRo hP hD ht⟩, hS.F ht⟩) hS.2.2 dL_learned_16
set_option maxHeartbeats 4000000 in
set_option maxRecDepth 100000 in
theorem k_L_faults (l : Launch) (hlt : l.stackTraces = false) (D : va_G) (G : Nat → Nat) (h0 : Nat) (c r : Nat → Nat → Nat) (o : Nat) (x : Int32) (hI : IC c) : Met l yL_faults wsL_faults ({ frames := 8, cells := 1, slots := 6, locals := 124 } : Room) (va_Pc [.ref (G 0), .int x, .ref (G 4)] (fun U => Pr D G h0 c r o U)) (va_Qi (fun (k9 : Int32) (z9 : (Nat → Nat → Nat) × Nat) => (k9 = nI 0 ∧ ∃ v9 : Int32, (fun (u9 : Nat → Nat → Nat) => ∃ a, a < c 20 1 ∧ x = nI a ∧ v9 = nI (c 4 a) ∧ u9 = c) z9.1 ∧ v9.toInt64 = lE z9.2) ∨ (k9 = nI 1 ∧ z9 = (c, o) ∧ (fun E => E = exO ∧ ¬ okU c x) exO)) (fun (z9 : (Nat → Nat → Nat) × Nat) t => Wr D G h0 z9.1 r z9.2 t) (fun q => h0 ≤ q)) 1 6 (fun q => h0 ≤ q) := by
  refine va_MetW (cc := cL_faults) (maxL := 4) (ret := (some .int)) (hh := [(0, 9, 12, 21)]) (by decide) rfl ?_
  intro p e s m args below meth cd s₁ B hml hv
  obtain ⟨rfl, hE, wl, hRc, hRr, hRo, hP, hD⟩ := hv
  have hx := B.exec
  have hb := B.bytes
  have hr := B.returns
  have hts := atoms_spec (ws := wsL_faults) B.pre
  have htab := vx_table (x := yL_faults) B (hts _ List.mem_cons_self)
  have hown : s.vm.findClass RL = some m.cls := findClass_of_methodNamed B.named
  have hlocks := B.notSynchronized
  have hK := hE.2.1
  have hS : va_S (fun q => h0 ≤ q) s.heap s.heap [] := va_S.rf
  have hl := lv_entry ([.ref (G 0), .int x, .ref (G 4)]) (n := 4) (Nat.le_of_ble_eq_true rfl)
  rw [lg_entry_eq]
  generalize (lg_sl ([.ref (G 0), .int x, .ref (G 4)]) ++ List.replicate (4 - (lg_sl ([.ref (G 0), .int x, .ref (G 4)])).length) Slot.unset).toArray = ls at hl ⊢
  have hl : lv_has ls 4 [(0, .ref (G 0)), (1, .int x), (2, .ref (G 4))] := hl
  refine lv_aload_n hx hb dL_faults_0 rfl (lv_at hl 2 rfl) ?_
  refine lv_iconst (v := nI 0) hx hb dL_faults_1 (by decide) ?_
  refine lv_aload_n hx hb dL_faults_2 rfl (lv_at hl 0 rfl) ?_
  refine lv_iload_n hx hb dL_faults_3 rfl (lv_at hl 1 rfl) ?_
  refine yx_tryi (vx_runV (As := [.int x]) (rest := [.int (nI 0), .ref (G 4)]) ⟨hx, hb, hml, hown, hts⟩ (k_X2_faults l hlt D G h0 c r o x hI) (cwV 1 hts gL_faults_X2_faults rfl rfl rfl (by decide +kernel) ⟨(Nat.le_of_ble_eq_true rfl), (Nat.le_of_ble_eq_true rfl)⟩) ⟨fun a U g mk q => ⟨q.1, Pr_cg q.2⟩, va_recv (ci := 3) (q0 := 0) hK hP rfl (Q_o hRc), fun U hU hW => ⟨rfl, Pr_mk hE hRc hRr hRo hP hD hS hU hW⟩⟩ rfl rfl hl.1 rfl (lv_room (Nat.le_of_ble_eq_true rfl)) dL_faults_4 ⟨(Nat.le_of_ble_eq_true rfl), (Nat.le_of_ble_eq_true rfl)⟩) hS (fun E ce q9 H locs wl hpx hRc hRr hRo hP hD hS hce hcv hcl => ?_) (fun v9 u9 H locs wl hv9 hRc hRr hRo hP hD hS => ?_)
  · have hp0 : _ ∧ _ := hpx
    obtain ⟨rfl, hp0⟩ := hp0
    refine vx_catch hown [] (⟨0, 9, 12, 21⟩ : ExceptionTableEntry) [] htab (fun z hz => absurd hz List.not_mem_nil) rfl (by decide) (hts (.classLink RL 21 exO) (by decide +kernel)) (va_Nw.use rfl hE.2.2.1.2.2.2.1.2.2.2.1) hce hcv hcl ?_
    refine lv_astore_n (lv' := [(3, .ref q9), (0, .ref (G 0)), (1, .int x), (2, .ref (G 4))]) hx hb dL_faults_12 rfl hl (by decide) rfl (fun ls hl => ?_)
    refine lv_iconst (v := nI 1) hx hb dL_faults_13 (by decide) ?_
    exact W.iret (v := nI 1) hx hb hr (fun t ht hW => ⟨⟨_, (c, o), rfl, Or.inr (⟨rfl, rfl, ⟨rfl, hp0⟩⟩), Wr_mk hRc hRr hRo hP hD ht⟩, hS.F ht⟩) hS.2.2 dL_faults_14
  · obtain ⟨o9, ho9⟩ : ∃ o9, v9.toInt64 = lE o9 := by
      obtain ⟨a, _, _, e9, _⟩ := hv9
      exact ⟨_, by rw [e9]; exact lE_n (IC_B hI _ _ (by decide))⟩
    refine lv_i2l hx hb dL_faults_7 ho9 ?_
    refine x_last hx hb hK hP hD hS hRc hRr hRo (v := o9) rfl dL_faults_8 (fun H locs wl hRc hRr hRo hP hD hS => ?_)
    refine lv_goto (tgt := 15) hx hb dL_faults_9 (by decide) ?_
    refine lv_iconst (v := nI 0) hx hb dL_faults_15 (by decide) ?_
    exact W.iret (v := nI 0) hx hb hr (fun t ht hW => ⟨⟨_, (u9, o9), rfl, Or.inl ⟨rfl, v9, hv9, ho9⟩, Wr_mk hRc hRr hRo hP hD ht⟩, hS.F ht⟩) hS.2.2 dL_faults_16
set_option maxHeartbeats 4000000 in
set_option maxRecDepth 100000 in
theorem k_L_state (l : Launch) (hlt : l.stackTraces = false) (D : va_G) (G : Nat → Nat) (h0 : Nat) (c r : Nat → Nat → Nat) (o : Nat) (x : Int32) (hI : IC c) : Met l yL_state wsL_state ({ frames := 8, cells := 1, slots := 6, locals := 124 } : Room) (va_Pc [.ref (G 0), .int x, .ref (G 4)] (fun U => Pr D G h0 c r o U)) (va_Qi (fun (k9 : Int32) (z9 : (Nat → Nat → Nat) × Nat) => (k9 = nI 0 ∧ ∃ v9 : Int32, (fun (u9 : Nat → Nat → Nat) => ∃ a, a < c 20 1 ∧ x = nI a ∧ v9 = nI (c 9 a) ∧ u9 = c) z9.1 ∧ v9.toInt64 = lE z9.2) ∨ (k9 = nI 1 ∧ z9 = (c, o) ∧ (fun E => E = exO ∧ ¬ okU c x) exO)) (fun (z9 : (Nat → Nat → Nat) × Nat) t => Wr D G h0 z9.1 r z9.2 t) (fun q => h0 ≤ q)) 1 6 (fun q => h0 ≤ q) := by
  refine va_MetW (cc := cL_state) (maxL := 4) (ret := (some .int)) (hh := [(0, 9, 12, 21)]) (by decide) rfl ?_
  intro p e s m args below meth cd s₁ B hml hv
  obtain ⟨rfl, hE, wl, hRc, hRr, hRo, hP, hD⟩ := hv
  have hx := B.exec
  have hb := B.bytes
  have hr := B.returns
  have hts := atoms_spec (ws := wsL_state) B.pre
  have htab := vx_table (x := yL_state) B (hts _ List.mem_cons_self)
  have hown : s.vm.findClass RL = some m.cls := findClass_of_methodNamed B.named
  have hlocks := B.notSynchronized
  have hK := hE.2.1
  have hS : va_S (fun q => h0 ≤ q) s.heap s.heap [] := va_S.rf
  have hl := lv_entry ([.ref (G 0), .int x, .ref (G 4)]) (n := 4) (Nat.le_of_ble_eq_true rfl)
  rw [lg_entry_eq]
  generalize (lg_sl ([.ref (G 0), .int x, .ref (G 4)]) ++ List.replicate (4 - (lg_sl ([.ref (G 0), .int x, .ref (G 4)])).length) Slot.unset).toArray = ls at hl ⊢
  have hl : lv_has ls 4 [(0, .ref (G 0)), (1, .int x), (2, .ref (G 4))] := hl
  refine lv_aload_n hx hb dL_state_0 rfl (lv_at hl 2 rfl) ?_
  refine lv_iconst (v := nI 0) hx hb dL_state_1 (by decide) ?_
  refine lv_aload_n hx hb dL_state_2 rfl (lv_at hl 0 rfl) ?_
  refine lv_iload_n hx hb dL_state_3 rfl (lv_at hl 1 rfl) ?_
  refine yx_tryi (vx_runV (As := [.int x]) (rest := [.int (nI 0), .ref (G 4)]) ⟨hx, hb, hml, hown, hts⟩ (k_X2_state l hlt D G h0 c r o x hI) (cwV 1 hts gL_state_X2_state rfl rfl rfl (by decide +kernel) ⟨(Nat.le_of_ble_eq_true rfl), (Nat.le_of_ble_eq_true rfl)⟩) ⟨fun a U g mk q => ⟨q.1, Pr_cg q.2⟩, va_recv (ci := 3) (q0 := 0) hK hP rfl (Q_o hRc), fun U hU hW => ⟨rfl, Pr_mk hE hRc hRr hRo hP hD hS hU hW⟩⟩ rfl rfl hl.1 rfl (lv_room (Nat.le_of_ble_eq_true rfl)) dL_state_4 ⟨(Nat.le_of_ble_eq_true rfl), (Nat.le_of_ble_eq_true rfl)⟩) hS (fun E ce q9 H locs wl hpx hRc hRr hRo hP hD hS hce hcv hcl => ?_) (fun v9 u9 H locs wl hv9 hRc hRr hRo hP hD hS => ?_)
  · have hp0 : _ ∧ _ := hpx
    obtain ⟨rfl, hp0⟩ := hp0
    refine vx_catch hown [] (⟨0, 9, 12, 21⟩ : ExceptionTableEntry) [] htab (fun z hz => absurd hz List.not_mem_nil) rfl (by decide) (hts (.classLink RL 21 exO) (by decide +kernel)) (va_Nw.use rfl hE.2.2.1.2.2.2.1.2.2.2.1) hce hcv hcl ?_
    refine lv_astore_n (lv' := [(3, .ref q9), (0, .ref (G 0)), (1, .int x), (2, .ref (G 4))]) hx hb dL_state_12 rfl hl (by decide) rfl (fun ls hl => ?_)
    refine lv_iconst (v := nI 1) hx hb dL_state_13 (by decide) ?_
    exact W.iret (v := nI 1) hx hb hr (fun t ht hW => ⟨⟨_, (c, o), rfl, Or.inr (⟨rfl, rfl, ⟨rfl, hp0⟩⟩), Wr_mk hRc hRr hRo hP hD ht⟩, hS.F ht⟩) hS.2.2 dL_state_14
  · obtain ⟨o9, ho9⟩ : ∃ o9, v9.toInt64 = lE o9 := by
      obtain ⟨a, _, _, e9, _⟩ := hv9
      exact ⟨_, by rw [e9]; exact lE_n (IC_B hI _ _ (by decide))⟩
    refine lv_i2l hx hb dL_state_7 ho9 ?_
    refine x_last hx hb hK hP hD hS hRc hRr hRo (v := o9) rfl dL_state_8 (fun H locs wl hRc hRr hRo hP hD hS => ?_)
    refine lv_goto (tgt := 15) hx hb dL_state_9 (by decide) ?_
    refine lv_iconst (v := nI 0) hx hb dL_state_15 (by decide) ?_
    exact W.iret (v := nI 0) hx hb hr (fun t ht hW => ⟨⟨_, (u9, o9), rfl, Or.inl ⟨rfl, v9, hv9, ho9⟩, Wr_mk hRc hRr hRo hP hD ht⟩, hS.F ht⟩) hS.2.2 dL_state_16
set_option maxHeartbeats 4000000 in
set_option maxRecDepth 100000 in
theorem k_L_waitsFor (l : Launch) (hlt : l.stackTraces = false) (D : va_G) (G : Nat → Nat) (h0 : Nat) (c r : Nat → Nat → Nat) (o : Nat) (x : Int32) (hI : IC c) : Met l yL_waitsFor wsL_waitsFor ({ frames := 8, cells := 1, slots := 6, locals := 126 } : Room) (va_Pc [.ref (G 0), .int x, .ref (G 4)] (fun U => Pr D G h0 c r o U)) (va_Qi (fun (k9 : Int32) (z9 : (Nat → Nat → Nat) × Nat) => (k9 = nI 0 ∧ ∃ v9 : Int32, (fun (u9 : Nat → Nat → Nat) => ∃ a, a < c 20 1 ∧ x = nI a ∧ v9 = siI (if c 9 a = 0 then fP (awC c a) (c 20 1) else 0) ∧ u9 = c) z9.1 ∧ v9.toInt64 = lE z9.2) ∨ (k9 = nI 1 ∧ z9 = (c, o) ∧ (fun E => E = exO ∧ ¬ okU c x) exO)) (fun (z9 : (Nat → Nat → Nat) × Nat) t => Wr D G h0 z9.1 r z9.2 t) (fun q => h0 ≤ q)) 1 6 (fun q => h0 ≤ q) := by
  refine va_MetW (cc := cL_waitsFor) (maxL := 4) (ret := (some .int)) (hh := [(0, 9, 12, 21)]) (by decide) rfl ?_
  intro p e s m args below meth cd s₁ B hml hv
  obtain ⟨rfl, hE, wl, hRc, hRr, hRo, hP, hD⟩ := hv
  have hx := B.exec
  have hb := B.bytes
  have hr := B.returns
  have hts := atoms_spec (ws := wsL_waitsFor) B.pre
  have htab := vx_table (x := yL_waitsFor) B (hts _ List.mem_cons_self)
  have hown : s.vm.findClass RL = some m.cls := findClass_of_methodNamed B.named
  have hlocks := B.notSynchronized
  have hK := hE.2.1
  have hS : va_S (fun q => h0 ≤ q) s.heap s.heap [] := va_S.rf
  have hl := lv_entry ([.ref (G 0), .int x, .ref (G 4)]) (n := 4) (Nat.le_of_ble_eq_true rfl)
  rw [lg_entry_eq]
  generalize (lg_sl ([.ref (G 0), .int x, .ref (G 4)]) ++ List.replicate (4 - (lg_sl ([.ref (G 0), .int x, .ref (G 4)])).length) Slot.unset).toArray = ls at hl ⊢
  have hl : lv_has ls 4 [(0, .ref (G 0)), (1, .int x), (2, .ref (G 4))] := hl
  refine lv_aload_n hx hb dL_waitsFor_0 rfl (lv_at hl 2 rfl) ?_
  refine lv_iconst (v := nI 0) hx hb dL_waitsFor_1 (by decide) ?_
  refine lv_aload_n hx hb dL_waitsFor_2 rfl (lv_at hl 0 rfl) ?_
  refine lv_iload_n hx hb dL_waitsFor_3 rfl (lv_at hl 1 rfl) ?_
  refine yx_tryi (vx_runV (As := [.int x]) (rest := [.int (nI 0), .ref (G 4)]) ⟨hx, hb, hml, hown, hts⟩ (k_X2_waitsFor l hlt D G h0 c r o x hI) (cwV 1 hts gL_waitsFor_X2_waitsFor rfl rfl rfl (by decide +kernel) ⟨(Nat.le_of_ble_eq_true rfl), (Nat.le_of_ble_eq_true rfl)⟩) ⟨fun a U g mk q => ⟨q.1, Pr_cg q.2⟩, va_recv (ci := 3) (q0 := 0) hK hP rfl (Q_o hRc), fun U hU hW => ⟨rfl, Pr_mk hE hRc hRr hRo hP hD hS hU hW⟩⟩ rfl rfl hl.1 rfl (lv_room (Nat.le_of_ble_eq_true rfl)) dL_waitsFor_4 ⟨(Nat.le_of_ble_eq_true rfl), (Nat.le_of_ble_eq_true rfl)⟩) hS (fun E ce q9 H locs wl hpx hRc hRr hRo hP hD hS hce hcv hcl => ?_) (fun v9 u9 H locs wl hv9 hRc hRr hRo hP hD hS => ?_)
  · have hp0 : _ ∧ _ := hpx
    obtain ⟨rfl, hp0⟩ := hp0
    refine vx_catch hown [] (⟨0, 9, 12, 21⟩ : ExceptionTableEntry) [] htab (fun z hz => absurd hz List.not_mem_nil) rfl (by decide) (hts (.classLink RL 21 exO) (by decide +kernel)) (va_Nw.use rfl hE.2.2.1.2.2.2.1.2.2.2.1) hce hcv hcl ?_
    refine lv_astore_n (lv' := [(3, .ref q9), (0, .ref (G 0)), (1, .int x), (2, .ref (G 4))]) hx hb dL_waitsFor_12 rfl hl (by decide) rfl (fun ls hl => ?_)
    refine lv_iconst (v := nI 1) hx hb dL_waitsFor_13 (by decide) ?_
    exact W.iret (v := nI 1) hx hb hr (fun t ht hW => ⟨⟨_, (c, o), rfl, Or.inr (⟨rfl, rfl, ⟨rfl, hp0⟩⟩), Wr_mk hRc hRr hRo hP hD ht⟩, hS.F ht⟩) hS.2.2 dL_waitsFor_14
  · obtain ⟨o9, ho9⟩ : ∃ o9, v9.toInt64 = lE o9 := by
      obtain ⟨a, _, _, e9, _⟩ := hv9
      refine ⟨_, (congrArg Int32.toInt64 e9).trans (lE_s ?_)⟩
      split
      · exact Nat.lt_of_le_of_lt (fP_le20 _ _) (by have h9 := IC_n hI; omega)
      · decide
    refine lv_i2l hx hb dL_waitsFor_7 ho9 ?_
    refine x_last hx hb hK hP hD hS hRc hRr hRo (v := o9) rfl dL_waitsFor_8 (fun H locs wl hRc hRr hRo hP hD hS => ?_)
    refine lv_goto (tgt := 15) hx hb dL_waitsFor_9 (by decide) ?_
    refine lv_iconst (v := nI 0) hx hb dL_waitsFor_15 (by decide) ?_
    exact W.iret (v := nI 0) hx hb hr (fun t ht hW => ⟨⟨_, (u9, o9), rfl, Or.inl ⟨rfl, v9, hv9, ho9⟩, Wr_mk hRc hRr hRo hP hD ht⟩, hS.F ht⟩) hS.2.2 dL_waitsFor_16
set_option maxHeartbeats 4000000 in
set_option maxRecDepth 100000 in
theorem k_L_begin (l : Launch) (hlt : l.stackTraces = false) (D : va_G) (G : Nat → Nat) (h0 : Nat) (c r : Nat → Nat → Nat) (o : Nat) (x : Int32) (hI : IC c) (hW5 : c 30 0 ≤ 512) (hcut : ∀ {b : Nat}, (cutC (up2 c 20 4 b)).2 < 2 ^ 31) : Met l yL_begin wsL_begin ({ frames := 8, cells := 2, slots := 12, locals := 133 } : Room) (va_Pc [.ref (G 0), .int x, .ref (G 4)] (fun U => Pr D G h0 c r o U)) (va_Qi (fun (k9 : Int32) (z9 : (Nat → Nat → Nat) × Nat) => (k9 = nI 0 ∧ ∃ v9 : Int32, (fun (u9 : Nat → Nat → Nat) => ∃ b, (1 ≤ b ∧ b ≤ 20) ∧ x = nI b ∧ c 20 3 = 0 ∧ v9 = nI (cutC (up2 c 20 4 b)).2 ∧ u9 = c_begin c b) z9.1 ∧ v9.toInt64 = lE z9.2) ∨ (k9 = nI 1 ∧ z9 = (c, o) ∧ (fun E => (E = exA ∧ ¬ inR x 1 20) ∨ (E = exS ∧ inR x 1 20 ∧ c 20 3 ≠ 0)) exA) ∨ (k9 = nI 2 ∧ z9 = (c, o) ∧ (fun E => (E = exA ∧ ¬ inR x 1 20) ∨ (E = exS ∧ inR x 1 20 ∧ c 20 3 ≠ 0)) exS)) (fun (z9 : (Nat → Nat → Nat) × Nat) t => Wr D G h0 z9.1 r z9.2 t) (fun q => h0 ≤ q)) 2 12 (fun q => h0 ≤ q) := by
  refine va_MetW (cc := cL_begin) (maxL := 4) (ret := (some .int)) (hh := [(0, 9, 12, 13), (0, 9, 15, 15)]) (by decide) rfl ?_
  intro p e s m args below meth cd s₁ B hml hv
  obtain ⟨rfl, hE, wl, hRc, hRr, hRo, hP, hD⟩ := hv
  have hx := B.exec
  have hb := B.bytes
  have hr := B.returns
  have hts := atoms_spec (ws := wsL_begin) B.pre
  have htab := vx_table (x := yL_begin) B (hts _ List.mem_cons_self)
  have hown : s.vm.findClass RL = some m.cls := findClass_of_methodNamed B.named
  have hlocks := B.notSynchronized
  have hK := hE.2.1
  have hS : va_S (fun q => h0 ≤ q) s.heap s.heap [] := va_S.rf
  have hl := lv_entry ([.ref (G 0), .int x, .ref (G 4)]) (n := 4) (Nat.le_of_ble_eq_true rfl)
  rw [lg_entry_eq]
  generalize (lg_sl ([.ref (G 0), .int x, .ref (G 4)]) ++ List.replicate (4 - (lg_sl ([.ref (G 0), .int x, .ref (G 4)])).length) Slot.unset).toArray = ls at hl ⊢
  have hl : lv_has ls 4 [(0, .ref (G 0)), (1, .int x), (2, .ref (G 4))] := hl
  refine lv_aload_n hx hb dL_begin_0 rfl (lv_at hl 2 rfl) ?_
  refine lv_iconst (v := nI 0) hx hb dL_begin_1 (by decide) ?_
  refine lv_aload_n hx hb dL_begin_2 rfl (lv_at hl 0 rfl) ?_
  refine lv_iload_n hx hb dL_begin_3 rfl (lv_at hl 1 rfl) ?_
  refine yx_tryi (vx_runV (As := [.int x]) (rest := [.int (nI 0), .ref (G 4)]) ⟨hx, hb, hml, hown, hts⟩ (k_X2_begin l hlt D G h0 c r o x hI hW5) (cwV 1 hts gL_begin_X2_begin rfl rfl rfl (by decide +kernel) ⟨(Nat.le_of_ble_eq_true rfl), (Nat.le_of_ble_eq_true rfl)⟩) ⟨fun a U g mk q => ⟨q.1, Pr_cg q.2⟩, va_recv (ci := 3) (q0 := 0) hK hP rfl (Q_o hRc), fun U hU hW => ⟨rfl, Pr_mk hE hRc hRr hRo hP hD hS hU hW⟩⟩ rfl rfl hl.1 rfl (lv_room (Nat.le_of_ble_eq_true rfl)) dL_begin_4 ⟨(Nat.le_of_ble_eq_true rfl), (Nat.le_of_ble_eq_true rfl)⟩) hS (fun E ce q9 H locs wl hpx hRc hRr hRo hP hD hS hce hcv hcl => ?_) (fun v9 u9 H locs wl hv9 hRc hRr hRo hP hD hS => ?_)
  · rcases hpx with hp0 | hp1
    · obtain ⟨rfl, hp0⟩ := hp0
      refine vx_catch hown [] (⟨0, 9, 12, 13⟩ : ExceptionTableEntry) [(⟨0, 9, 15, 15⟩ : ExceptionTableEntry)] htab (fun z hz => absurd hz List.not_mem_nil) rfl (by decide) (hts (.classLink RL 13 exA) (by decide +kernel)) (va_Nw.use rfl hE.2.2.1.2.2.2.1.2.2.2.2.1) hce hcv hcl ?_
      refine lv_astore_n (lv' := [(3, .ref q9), (0, .ref (G 0)), (1, .int x), (2, .ref (G 4))]) hx hb dL_begin_12 rfl hl (by decide) rfl (fun ls hl => ?_)
      refine lv_iconst (v := nI 1) hx hb dL_begin_13 (by decide) ?_
      exact W.iret (v := nI 1) hx hb hr (fun t ht hW => ⟨⟨_, (c, o), rfl, Or.inr (Or.inl ⟨rfl, rfl, Or.inl ⟨rfl, hp0⟩⟩), Wr_mk hRc hRr hRo hP hD ht⟩, hS.F ht⟩) hS.2.2 dL_begin_14
    · obtain ⟨rfl, hp1⟩ := hp1
      refine vx_catch hown [(⟨0, 9, 12, 13⟩ : ExceptionTableEntry)] (⟨0, 9, 15, 15⟩ : ExceptionTableEntry) [] htab (fun z hz => by simp only [List.mem_cons, List.not_mem_nil, or_false] at hz; subst hz; exact Or.inr ⟨by decide, exA, hts (.classLink RL 13 exA) (by decide +kernel), hE.2.2.1.2.2.2.2.2.2.2.2.2⟩) rfl (by decide) (hts (.classLink RL 15 exS) (by decide +kernel)) (va_Nw.use rfl hE.2.2.1.2.2.2.1.2.2.2.2.2) hce hcv hcl ?_
      refine lv_astore_n (lv' := [(3, .ref q9), (0, .ref (G 0)), (1, .int x), (2, .ref (G 4))]) hx hb dL_begin_15 rfl hl (by decide) rfl (fun ls hl => ?_)
      refine lv_iconst (v := nI 2) hx hb dL_begin_16 (by decide) ?_
      exact W.iret (v := nI 2) hx hb hr (fun t ht hW => ⟨⟨_, (c, o), rfl, Or.inr (Or.inr (⟨rfl, rfl, Or.inr (⟨rfl, hp1⟩)⟩)), Wr_mk hRc hRr hRo hP hD ht⟩, hS.F ht⟩) hS.2.2 dL_begin_17
  · obtain ⟨o9, ho9⟩ : ∃ o9, v9.toInt64 = lE o9 := by
      obtain ⟨b, _, _, _, e9, _⟩ := hv9
      exact ⟨_, by rw [e9]; exact lE_n hcut⟩
    refine lv_i2l hx hb dL_begin_7 ho9 ?_
    refine x_last hx hb hK hP hD hS hRc hRr hRo (v := o9) rfl dL_begin_8 (fun H locs wl hRc hRr hRo hP hD hS => ?_)
    refine lv_goto (tgt := 18) hx hb dL_begin_9 (by decide) ?_
    refine lv_iconst (v := nI 0) hx hb dL_begin_18 (by decide) ?_
    exact W.iret (v := nI 0) hx hb hr (fun t ht hW => ⟨⟨_, (u9, o9), rfl, Or.inl ⟨rfl, v9, hv9, ho9⟩, Wr_mk hRc hRr hRo hP hD ht⟩, hS.F ht⟩) hS.2.2 dL_begin_19
set_option maxHeartbeats 4000000 in
set_option maxRecDepth 100000 in
theorem k_L_tick (l : Launch) (hlt : l.stackTraces = false) (D : va_G) (G : Nat → Nat) (h0 : Nat) (c r : Nat → Nat → Nat) (o : Nat) (x : Int32) (hI : IC c) : Met l yL_tick wsL_tick ({ frames := 8, cells := 2, slots := 12, locals := 129 } : Room) (va_Pc [.ref (G 0), .int x, .ref (G 4)] (fun U => Pr D G h0 c r o U)) (va_Qi (fun (k9 : Int32) (z9 : (Nat → Nat → Nat) × Nat) => (k9 = nI 0 ∧ ∃ v9 : Int32, (fun (u9 : Nat → Nat → Nat) => ∃ t i, (1 ≤ t ∧ t ≤ 200) ∧ x = nI t ∧ c 20 3 ≠ 0 ∧ i ≤ t ∧ (∀ j, j < i → c_tkI c j 20 3 ≠ 0) ∧ (i = t ∨ c_tkI c i 20 3 = 0) ∧ v9 = nI i ∧ u9 = c_tkI c i) z9.1 ∧ v9.toInt64 = lE z9.2) ∨ (k9 = nI 1 ∧ z9 = (c, o) ∧ (fun E => (E = exA ∧ ¬ inR x 1 200) ∨ (E = exS ∧ inR x 1 200 ∧ c 20 3 = 0)) exA) ∨ (k9 = nI 2 ∧ z9 = (c, o) ∧ (fun E => (E = exA ∧ ¬ inR x 1 200) ∨ (E = exS ∧ inR x 1 200 ∧ c 20 3 = 0)) exS)) (fun (z9 : (Nat → Nat → Nat) × Nat) t => Wr D G h0 z9.1 r z9.2 t) (fun q => h0 ≤ q)) 2 12 (fun q => h0 ≤ q) := by
  refine va_MetW (cc := cL_tick) (maxL := 4) (ret := (some .int)) (hh := [(0, 9, 12, 13), (0, 9, 15, 15)]) (by decide) rfl ?_
  intro p e s m args below meth cd s₁ B hml hv
  obtain ⟨rfl, hE, wl, hRc, hRr, hRo, hP, hD⟩ := hv
  have hx := B.exec
  have hb := B.bytes
  have hr := B.returns
  have hts := atoms_spec (ws := wsL_tick) B.pre
  have htab := vx_table (x := yL_tick) B (hts _ List.mem_cons_self)
  have hown : s.vm.findClass RL = some m.cls := findClass_of_methodNamed B.named
  have hlocks := B.notSynchronized
  have hK := hE.2.1
  have hS : va_S (fun q => h0 ≤ q) s.heap s.heap [] := va_S.rf
  have hl := lv_entry ([.ref (G 0), .int x, .ref (G 4)]) (n := 4) (Nat.le_of_ble_eq_true rfl)
  rw [lg_entry_eq]
  generalize (lg_sl ([.ref (G 0), .int x, .ref (G 4)]) ++ List.replicate (4 - (lg_sl ([.ref (G 0), .int x, .ref (G 4)])).length) Slot.unset).toArray = ls at hl ⊢
  have hl : lv_has ls 4 [(0, .ref (G 0)), (1, .int x), (2, .ref (G 4))] := hl
  refine lv_aload_n hx hb dL_tick_0 rfl (lv_at hl 2 rfl) ?_
  refine lv_iconst (v := nI 0) hx hb dL_tick_1 (by decide) ?_
  refine lv_aload_n hx hb dL_tick_2 rfl (lv_at hl 0 rfl) ?_
  refine lv_iload_n hx hb dL_tick_3 rfl (lv_at hl 1 rfl) ?_
  refine yx_tryi (vx_runV (As := [.int x]) (rest := [.int (nI 0), .ref (G 4)]) ⟨hx, hb, hml, hown, hts⟩ (k_X2_tick l hlt D G h0 c r o x hI) (cwV 1 hts gL_tick_X2_tick rfl rfl rfl (by decide +kernel) ⟨(Nat.le_of_ble_eq_true rfl), (Nat.le_of_ble_eq_true rfl)⟩) ⟨fun a U g mk q => ⟨q.1, Pr_cg q.2⟩, va_recv (ci := 3) (q0 := 0) hK hP rfl (Q_o hRc), fun U hU hW => ⟨rfl, Pr_mk hE hRc hRr hRo hP hD hS hU hW⟩⟩ rfl rfl hl.1 rfl (lv_room (Nat.le_of_ble_eq_true rfl)) dL_tick_4 ⟨(Nat.le_of_ble_eq_true rfl), (Nat.le_of_ble_eq_true rfl)⟩) hS (fun E ce q9 H locs wl hpx hRc hRr hRo hP hD hS hce hcv hcl => ?_) (fun v9 u9 H locs wl hv9 hRc hRr hRo hP hD hS => ?_)
  · rcases hpx with hp0 | hp1
    · obtain ⟨rfl, hp0⟩ := hp0
      refine vx_catch hown [] (⟨0, 9, 12, 13⟩ : ExceptionTableEntry) [(⟨0, 9, 15, 15⟩ : ExceptionTableEntry)] htab (fun z hz => absurd hz List.not_mem_nil) rfl (by decide) (hts (.classLink RL 13 exA) (by decide +kernel)) (va_Nw.use rfl hE.2.2.1.2.2.2.1.2.2.2.2.1) hce hcv hcl ?_
      refine lv_astore_n (lv' := [(3, .ref q9), (0, .ref (G 0)), (1, .int x), (2, .ref (G 4))]) hx hb dL_tick_12 rfl hl (by decide) rfl (fun ls hl => ?_)
      refine lv_iconst (v := nI 1) hx hb dL_tick_13 (by decide) ?_
      exact W.iret (v := nI 1) hx hb hr (fun t ht hW => ⟨⟨_, (c, o), rfl, Or.inr (Or.inl ⟨rfl, rfl, Or.inl ⟨rfl, hp0⟩⟩), Wr_mk hRc hRr hRo hP hD ht⟩, hS.F ht⟩) hS.2.2 dL_tick_14
    · obtain ⟨rfl, hp1⟩ := hp1
      refine vx_catch hown [(⟨0, 9, 12, 13⟩ : ExceptionTableEntry)] (⟨0, 9, 15, 15⟩ : ExceptionTableEntry) [] htab (fun z hz => by simp only [List.mem_cons, List.not_mem_nil, or_false] at hz; subst hz; exact Or.inr ⟨by decide, exA, hts (.classLink RL 13 exA) (by decide +kernel), hE.2.2.1.2.2.2.2.2.2.2.2.2⟩) rfl (by decide) (hts (.classLink RL 15 exS) (by decide +kernel)) (va_Nw.use rfl hE.2.2.1.2.2.2.1.2.2.2.2.2) hce hcv hcl ?_
      refine lv_astore_n (lv' := [(3, .ref q9), (0, .ref (G 0)), (1, .int x), (2, .ref (G 4))]) hx hb dL_tick_15 rfl hl (by decide) rfl (fun ls hl => ?_)
      refine lv_iconst (v := nI 2) hx hb dL_tick_16 (by decide) ?_
      exact W.iret (v := nI 2) hx hb hr (fun t ht hW => ⟨⟨_, (c, o), rfl, Or.inr (Or.inr (⟨rfl, rfl, Or.inr (⟨rfl, hp1⟩)⟩)), Wr_mk hRc hRr hRo hP hD ht⟩, hS.F ht⟩) hS.2.2 dL_tick_17
  · obtain ⟨o9, ho9⟩ : ∃ o9, v9.toInt64 = lE o9 := by
      obtain ⟨t, i, h200, _, _, hi, _, _, e9, _⟩ := hv9
      exact ⟨_, by rw [e9]; exact lE_n (by omega)⟩
    refine lv_i2l hx hb dL_tick_7 ho9 ?_
    refine x_last hx hb hK hP hD hS hRc hRr hRo (v := o9) rfl dL_tick_8 (fun H locs wl hRc hRr hRo hP hD hS => ?_)
    refine lv_goto (tgt := 18) hx hb dL_tick_9 (by decide) ?_
    refine lv_iconst (v := nI 0) hx hb dL_tick_18 (by decide) ?_
    exact W.iret (v := nI 0) hx hb hr (fun t ht hW => ⟨⟨_, (u9, o9), rfl, Or.inl ⟨rfl, v9, hv9, ho9⟩, Wr_mk hRc hRr hRo hP hD ht⟩, hS.F ht⟩) hS.2.2 dL_tick_19
