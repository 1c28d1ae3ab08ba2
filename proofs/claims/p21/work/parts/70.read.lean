set_option maxHeartbeats 4000000 in
set_option maxRecDepth 100000 in
theorem k_L_isOff (l : Launch) (D : va_G) (G : Nat → Nat) (h0 : Nat) (c r : Nat → Nat → Nat) (o : Nat) (a : Nat) (ha : a < 2 ^ 31) : Met l yL_isOff wsL_isOff ({ frames := 0, cells := 0, slots := 0, locals := 0 } : Room) (va_Pc [.int (nI a)] (fun U => Pr D G h0 c r o U)) (va_Qi (fun (v9 : Int32) (_ : Unit) => v9 = nI (bN (a = 3 ∨ a = 4))) (fun _ t => Wr D G h0 c r o t) (fun q => h0 ≤ q)) 0 0 (fun q => h0 ≤ q) := by
  refine Met.ofW (cc := cL_isOff) (maxL := 1) (ret := (some .boolean)) (by decide) rfl ?_
  intro p e s m args below meth cd s₁ B hml hv
  obtain ⟨rfl, hE, wl, hRc, hRr, hRo, hP, hD⟩ := hv
  have hx := B.exec
  have hb := B.bytes
  have hr := B.returns
  have hts := atoms_spec (ws := wsL_isOff) B.pre
  have hown : s.vm.findClass RL = some m.cls := findClass_of_methodNamed B.named
  have hlocks := B.notSynchronized
  have hK := hE.2.1
  have hS : va_S (fun q => h0 ≤ q) s.heap s.heap [] := va_S.rf
  have hl := lv_entry ([.int (nI a)]) (n := 1) (Nat.le_of_ble_eq_true rfl)
  rw [lg_entry_eq]
  generalize (lg_sl ([.int (nI a)]) ++ List.replicate (1 - (lg_sl ([.int (nI a)])).length) Slot.unset).toArray = ls at hl ⊢
  have hl : lv_has ls 1 [(0, .int (nI a))] := hl
  refine lv_iload_n hx hb dL_isOff_0 rfl (lv_at hl 0 rfl) ?_
  refine lv_iconst (v := nI 3) hx hb dL_isOff_1 (by decide) ?_
  refine n_icmp_eq (tgt := 10) hx hb dL_isOff_2 (by decide) ha (by decide) (fun c_2 => ?_) (fun c_2 => ?_)
  · refine lv_iconst (v := nI 1) hx hb dL_isOff_10 (by decide) ?_
    refine lv_goto (tgt := 15) hx hb dL_isOff_11 (by decide) ?_
    exact W.zret (v := nI 1) (ty := .boolean) hx hb hr (nb_le (by first | exact bN_le _ | decide | omega | assumption)) (fun t ht hW => ⟨⟨_, (), rfl, (show nI 1 = nI (bN (a = 3 ∨ a = 4)) from by first | rfl | (apply congrArg nI; omega) | exact congrArg nI (bN_t (by omega)).symm | exact congrArg nI (bN_f (by omega)).symm), Wr_mk hRc hRr hRo hP hD ht⟩, hS.F ht⟩) hS.2.2 dL_isOff_15
  · refine lv_iload_n hx hb dL_isOff_5 rfl (lv_at hl 0 rfl) ?_
    refine lv_iconst (v := nI 4) hx hb dL_isOff_6 (by decide) ?_
    refine n_icmp_ne (tgt := 14) hx hb dL_isOff_7 (by decide) ha (by decide) (fun c_7 => ?_) (fun c_7 => ?_)
    · refine lv_iconst (v := nI 0) hx hb dL_isOff_14 (by decide) ?_
      exact W.zret (v := nI 0) (ty := .boolean) hx hb hr (nb_le (by first | exact bN_le _ | decide | omega | assumption)) (fun t ht hW => ⟨⟨_, (), rfl, (show nI 0 = nI (bN (a = 3 ∨ a = 4)) from by first | rfl | (apply congrArg nI; omega) | exact congrArg nI (bN_t (by omega)).symm | exact congrArg nI (bN_f (by omega)).symm), Wr_mk hRc hRr hRo hP hD ht⟩, hS.F ht⟩) hS.2.2 dL_isOff_15
    · refine lv_iconst (v := nI 1) hx hb dL_isOff_10 (by decide) ?_
      refine lv_goto (tgt := 15) hx hb dL_isOff_11 (by decide) ?_
      exact W.zret (v := nI 1) (ty := .boolean) hx hb hr (nb_le (by first | exact bN_le _ | decide | omega | assumption)) (fun t ht hW => ⟨⟨_, (), rfl, (show nI 1 = nI (bN (a = 3 ∨ a = 4)) from by first | rfl | (apply congrArg nI; omega) | exact congrArg nI (bN_t (by omega)).symm | exact congrArg nI (bN_f (by omega)).symm), Wr_mk hRc hRr hRo hP hD ht⟩, hS.F ht⟩) hS.2.2 dL_isOff_15
set_option maxHeartbeats 4000000 in
set_option maxRecDepth 100000 in
theorem k_L_met (l : Launch) (D : va_G) (G : Nat → Nat) (h0 : Nat) (c r : Nat → Nat → Nat) (o : Nat) (hI : IC c) (hn8 : c 20 1 ≤ 8) (u : Nat) (hu : u < c 20 1) (h12 : r 12 u = c 6 u) : Met l yL_met wsL_met ({ frames := 2, cells := 0, slots := 0, locals := 42 } : Room) (va_Pc [.ref (G 0), .ref (G 3), .int (nI u)] (fun U => Pr D G h0 c r o U)) (va_Qi (fun (v9 : Int32) (_ : Unit) => v9 = nI (metV c u)) (fun _ t => Wr D G h0 c r o t) (fun q => h0 ≤ q)) 0 0 (fun q => h0 ≤ q) := by
  refine Met.ofW (cc := cL_met) (maxL := 6) (ret := (some .int)) (by decide) rfl ?_
  intro p e s m args below meth cd s₁ B hml hv
  obtain ⟨rfl, hE, wl, hRc, hRr, hRo, hP, hD⟩ := hv
  have hx := B.exec
  have hb := B.bytes
  have hr := B.returns
  have hts := atoms_spec (ws := wsL_met) B.pre
  have hown : s.vm.findClass RL = some m.cls := findClass_of_methodNamed B.named
  have hlocks := B.notSynchronized
  have hK := hE.2.1
  have hS : va_S (fun q => h0 ≤ q) s.heap s.heap [] := va_S.rf
  have hl := lv_entry ([.ref (G 0), .ref (G 3), .int (nI u)]) (n := 6) (Nat.le_of_ble_eq_true rfl)
  rw [lg_entry_eq]
  generalize (lg_sl ([.ref (G 0), .ref (G 3), .int (nI u)]) ++ List.replicate (6 - (lg_sl ([.ref (G 0), .ref (G 3), .int (nI u)])).length) Slot.unset).toArray = ls at hl ⊢
  have hl : lv_has ls 6 [(0, .ref (G 0)), (1, .ref (G 3)), (2, .int (nI u))] := hl
  have hB := IC_B hI
  have hn := IC_n hI
  have hU := IC_U hI
  refine lv_aload_n hx hb dL_met_0 rfl (lv_at hl 1 rfl) ?_
  refine lv_bipush (v := nI 8) hx hb dL_met_1 (by decide) ?_
  refine lv_iload_n hx hb dL_met_3 rfl (lv_at hl 2 rfl) ?_
  refine n_imul hx hb dL_met_4 ?_
  refine lv_iconst (v := nI 2) hx hb dL_met_5 (by decide) ?_
  refine n_iadd hx hb dL_met_6 ?_
  refine x_iald hx hb hK hP 3 (Q_g hRr) (by first | omega | decide | assumption) (by decide) dL_met_7 (v := siI (r 12 u)) (gV_2 _ u) ?_
  refine lv_istore_n (lv' := [(3, .int (siI (r 12 u))), (0, .ref (G 0)), (1, .ref (G 3)), (2, .int (nI u))]) hx hb dL_met_8 rfl hl (by decide) rfl (fun ls hl => ?_)
  refine lv_aload_n hx hb dL_met_9 rfl (lv_at hl 1 rfl) ?_
  refine lv_iload_n hx hb dL_met_10 rfl (lv_at hl 3 rfl) ?_
  refine y_calli (va_runV (As := [.int (nI u)]) (rest := []) ⟨hx, hb, hml, hown, hts⟩ (k_X2_state_ok l D G h0 c r o hI u (by first | omega | assumption)) (cwV 1 hts gL_met_X2_state rfl rfl rfl (by decide +kernel) ⟨Nat.le_of_ble_eq_true rfl, Nat.le_of_ble_eq_true rfl⟩) ⟨fun a U g mk q => ⟨q.1, Pr_cg q.2⟩, va_recv (ci := 3) (q0 := 0) hK hP rfl (Q_o hRc), fun U hU hW => ⟨rfl, Pr_mk hE hRc hRr hRo hP hD hS hU hW⟩⟩ rfl rfl hl.1 rfl (lv_room (Nat.le_of_ble_eq_true rfl)) dL_met_11 ⟨Nat.le_of_ble_eq_true rfl, Nat.le_of_ble_eq_true rfl⟩) hS (fun v9 _ H locs wl hv9 hRc hRr hRo hP hD hS => ?_)
  refine n_top (y := .int (nI (c 9 u))) (congrArg Value.int hv9) ?_
  clear hv9 v9
  refine lv_istore (lv' := [(4, .int (nI (c 9 u))), (3, .int (siI (r 12 u))), (0, .ref (G 0)), (1, .ref (G 3)), (2, .int (nI u))]) hx hb dL_met_14 hl (by decide) rfl (fun ls hl => ?_)
  refine lv_iload_n hx hb dL_met_16 rfl (lv_at hl 1 rfl) ?_
  rcases (show r 12 u = 0 ∨ ∃ w, r 12 u = w + 1 from by cases h9 : r 12 u with | zero => exact Or.inl rfl | succ w => exact Or.inr ⟨w, rfl⟩) with hz_17 | ⟨w_17, hz_17⟩
  · have e6 := h12.symm.trans hz_17
    refine n_top (y := .int (-1)) (congrArg Value.int (by rw [hz_17]; exact siI_0)) ?_
    refine lv_if_ge (tgt := 24) hx hb dL_met_17 (by decide) (fun c_17 => absurd c_17 (by decide)) (fun c_17 => ?_)
    refine lv_iconst (v := nI 4) hx hb dL_met_20 (by decide) ?_
    refine lv_goto (tgt := 29) hx hb dL_met_21 (by decide) ?_
    refine lv_istore (lv' := [(5, .int (nI 4)), (4, .int (nI (c 9 u))), (3, .int (siI (r 12 u))), (0, .ref (G 0)), (1, .ref (G 3)), (2, .int (nI u))]) hx hb dL_met_29 hl (by decide) rfl (fun ls hl => ?_)
    refine lv_iload hx hb dL_met_31 (lv_at hl 1 rfl) ?_
    refine lv_iconst (v := nI 2) hx hb dL_met_33 (by decide) ?_
    refine n_icmp_eq (tgt := 51) hx hb dL_met_34 (by decide) (hB _ _ (by decide)) (by decide) (fun c_34 => ?_) (fun c_34 => ?_)
    · refine lv_iconst (v := nI 1) hx hb dL_met_51 (by decide) ?_
      refine lv_goto (tgt := 76) hx hb dL_met_52 (by decide) ?_
      exact W.iret (v := nI 1) hx hb hr (fun t ht hW => ⟨⟨_, (), rfl, (show nI 1 = nI (metV c u) from by exact congrArg nI (metV_1 (by simp only [metP, lostP, goneP, e6, Nat.add_sub_cancel]; first | omega | (constructor; omega; simp))).symm), Wr_mk hRc hRr hRo hP hD ht⟩, hS.F ht⟩) hS.2.2 dL_met_76
    · refine lv_iload hx hb dL_met_37 (lv_at hl 1 rfl) ?_
      refine y_calli (va_runS (As := [.int (nI (c 9 u))]) (rest := []) ⟨hx, hb, hml, hown, hts⟩ (k_L_isOff l D G h0 c r o (c 9 u) (hB _ _ (by decide))) (va_cwS 1 hts gL_met_L_isOff rfl rfl rfl (by decide +kernel) ⟨Nat.le_of_ble_eq_true rfl, Nat.le_of_ble_eq_true rfl⟩) ⟨fun a U g mk q => ⟨q.1, Pr_cg q.2⟩, fun U hU hW => ⟨rfl, Pr_mk hE hRc hRr hRo hP hD hS hU hW⟩⟩ rfl rfl hl.1 rfl (lv_room (Nat.le_of_ble_eq_true rfl)) dL_met_39 ⟨Nat.le_of_ble_eq_true rfl, Nat.le_of_ble_eq_true rfl⟩) hS (fun v9 _ H locs wl hv9 hRc hRr hRo hP hD hS => ?_)
      refine n_top (y := .int (nI (bN (c 9 u = 3 ∨ c 9 u = 4)))) (congrArg Value.int hv9) ?_
      clear hv9 v9
      refine n_ifb_eq (tgt := 55) hx hb dL_met_42 (by decide) (fun c_42 => ?_) (fun c_42 => ?_)
      · refine lv_iload hx hb dL_met_55 (lv_at hl 1 rfl) ?_
        refine y_calli (va_runS (As := [.int (nI (c 9 u))]) (rest := []) ⟨hx, hb, hml, hown, hts⟩ (k_L_isOff l D G h0 c r o (c 9 u) (hB _ _ (by decide))) (va_cwS 1 hts gL_met_L_isOff rfl rfl rfl (by decide +kernel) ⟨Nat.le_of_ble_eq_true rfl, Nat.le_of_ble_eq_true rfl⟩) ⟨fun a U g mk q => ⟨q.1, Pr_cg q.2⟩, fun U hU hW => ⟨rfl, Pr_mk hE hRc hRr hRo hP hD hS hU hW⟩⟩ rfl rfl hl.1 rfl (lv_room (Nat.le_of_ble_eq_true rfl)) dL_met_57 ⟨Nat.le_of_ble_eq_true rfl, Nat.le_of_ble_eq_true rfl⟩) hS (fun v9 _ H locs wl hv9 hRc hRr hRo hP hD hS => ?_)
        refine n_top (y := .int (nI (bN (c 9 u = 3 ∨ c 9 u = 4)))) (congrArg Value.int hv9) ?_
        clear hv9 v9
        refine n_ifb_eq (tgt := 75) hx hb dL_met_60 (by decide) (fun c_60 => ?_) (fun c_60 => ?_)
        · refine lv_iconst (v := nI 0) hx hb dL_met_75 (by decide) ?_
          exact W.iret (v := nI 0) hx hb hr (fun t ht hW => ⟨⟨_, (), rfl, (show nI 0 = nI (metV c u) from by exact congrArg nI (metV_0 (by simp only [metP, goneP, e6, Nat.add_sub_cancel]; omega) (by simp only [lostP, goneP, e6, Nat.add_sub_cancel]; omega)).symm), Wr_mk hRc hRr hRo hP hD ht⟩, hS.F ht⟩) hS.2.2 dL_met_76
        · refine lv_iload hx hb dL_met_63 (lv_at hl 0 rfl) ?_
          refine y_calli (va_runS (As := [.int (nI 4)]) (rest := []) ⟨hx, hb, hml, hown, hts⟩ (k_L_isOff l D G h0 c r o 4 (by decide)) (va_cwS 1 hts gL_met_L_isOff rfl rfl rfl (by decide +kernel) ⟨Nat.le_of_ble_eq_true rfl, Nat.le_of_ble_eq_true rfl⟩) ⟨fun a U g mk q => ⟨q.1, Pr_cg q.2⟩, fun U hU hW => ⟨rfl, Pr_mk hE hRc hRr hRo hP hD hS hU hW⟩⟩ rfl rfl hl.1 rfl (lv_room (Nat.le_of_ble_eq_true rfl)) dL_met_65 ⟨Nat.le_of_ble_eq_true rfl, Nat.le_of_ble_eq_true rfl⟩) hS (fun v9 _ H locs wl hv9 hRc hRr hRo hP hD hS => ?_)
          refine n_top (y := .int (nI (bN (4 = 3 ∨ 4 = 4)))) (congrArg Value.int hv9) ?_
          clear hv9 v9
          refine n_ifb_eq (tgt := 75) hx hb dL_met_68 (by decide) (fun c_68 => ?_) (fun c_68 => ?_)
          · refine lv_iconst (v := nI 0) hx hb dL_met_75 (by decide) ?_
            exact W.iret (v := nI 0) hx hb hr (fun t ht hW => ⟨⟨_, (), rfl, (show nI 0 = nI (metV c u) from by exact congrArg nI (metV_0 (by simp only [metP, goneP, e6, Nat.add_sub_cancel]; omega) (by simp only [lostP, goneP, e6, Nat.add_sub_cancel]; omega)).symm), Wr_mk hRc hRr hRo hP hD ht⟩, hS.F ht⟩) hS.2.2 dL_met_76
          · refine lv_iconst (v := nI 2) hx hb dL_met_71 (by decide) ?_
            refine lv_goto (tgt := 76) hx hb dL_met_72 (by decide) ?_
            exact W.iret (v := nI 2) hx hb hr (fun t ht hW => ⟨⟨_, (), rfl, (show nI 2 = nI (metV c u) from by exact congrArg nI (metV_2 (by simp only [metP, lostP, goneP, e6, Nat.add_sub_cancel]; first | omega | (constructor; omega; simp))).symm), Wr_mk hRc hRr hRo hP hD ht⟩, hS.F ht⟩) hS.2.2 dL_met_76
      · refine lv_iload hx hb dL_met_45 (lv_at hl 0 rfl) ?_
        refine lv_iconst (v := nI 2) hx hb dL_met_47 (by decide) ?_
        refine n_icmp_ne (tgt := 55) hx hb dL_met_48 (by decide) (by decide) (by decide) (fun c_48 => ?_) (fun c_48 => absurd c_48 (by decide))
        refine lv_iload hx hb dL_met_55 (lv_at hl 1 rfl) ?_
        refine y_calli (va_runS (As := [.int (nI (c 9 u))]) (rest := []) ⟨hx, hb, hml, hown, hts⟩ (k_L_isOff l D G h0 c r o (c 9 u) (hB _ _ (by decide))) (va_cwS 1 hts gL_met_L_isOff rfl rfl rfl (by decide +kernel) ⟨Nat.le_of_ble_eq_true rfl, Nat.le_of_ble_eq_true rfl⟩) ⟨fun a U g mk q => ⟨q.1, Pr_cg q.2⟩, fun U hU hW => ⟨rfl, Pr_mk hE hRc hRr hRo hP hD hS hU hW⟩⟩ rfl rfl hl.1 rfl (lv_room (Nat.le_of_ble_eq_true rfl)) dL_met_57 ⟨Nat.le_of_ble_eq_true rfl, Nat.le_of_ble_eq_true rfl⟩) hS (fun v9 _ H locs wl hv9 hRc hRr hRo hP hD hS => ?_)
        refine n_top (y := .int (nI (bN (c 9 u = 3 ∨ c 9 u = 4)))) (congrArg Value.int hv9) ?_
        clear hv9 v9
        refine n_ifb_eq (tgt := 75) hx hb dL_met_60 (by decide) (fun c_60 => ?_) (fun c_60 => ?_)
        · refine lv_iconst (v := nI 0) hx hb dL_met_75 (by decide) ?_
          exact W.iret (v := nI 0) hx hb hr (fun t ht hW => ⟨⟨_, (), rfl, (show nI 0 = nI (metV c u) from by exact congrArg nI (metV_0 (by simp only [metP, goneP, e6, Nat.add_sub_cancel]; omega) (by simp only [lostP, goneP, e6, Nat.add_sub_cancel]; omega)).symm), Wr_mk hRc hRr hRo hP hD ht⟩, hS.F ht⟩) hS.2.2 dL_met_76
        · refine lv_iload hx hb dL_met_63 (lv_at hl 0 rfl) ?_
          refine y_calli (va_runS (As := [.int (nI 4)]) (rest := []) ⟨hx, hb, hml, hown, hts⟩ (k_L_isOff l D G h0 c r o 4 (by decide)) (va_cwS 1 hts gL_met_L_isOff rfl rfl rfl (by decide +kernel) ⟨Nat.le_of_ble_eq_true rfl, Nat.le_of_ble_eq_true rfl⟩) ⟨fun a U g mk q => ⟨q.1, Pr_cg q.2⟩, fun U hU hW => ⟨rfl, Pr_mk hE hRc hRr hRo hP hD hS hU hW⟩⟩ rfl rfl hl.1 rfl (lv_room (Nat.le_of_ble_eq_true rfl)) dL_met_65 ⟨Nat.le_of_ble_eq_true rfl, Nat.le_of_ble_eq_true rfl⟩) hS (fun v9 _ H locs wl hv9 hRc hRr hRo hP hD hS => ?_)
          refine n_top (y := .int (nI (bN (4 = 3 ∨ 4 = 4)))) (congrArg Value.int hv9) ?_
          clear hv9 v9
          refine n_ifb_eq (tgt := 75) hx hb dL_met_68 (by decide) (fun c_68 => ?_) (fun c_68 => ?_)
          · refine lv_iconst (v := nI 0) hx hb dL_met_75 (by decide) ?_
            exact W.iret (v := nI 0) hx hb hr (fun t ht hW => ⟨⟨_, (), rfl, (show nI 0 = nI (metV c u) from by exact congrArg nI (metV_0 (by simp only [metP, goneP, e6, Nat.add_sub_cancel]; omega) (by simp only [lostP, goneP, e6, Nat.add_sub_cancel]; omega)).symm), Wr_mk hRc hRr hRo hP hD ht⟩, hS.F ht⟩) hS.2.2 dL_met_76
          · refine lv_iconst (v := nI 2) hx hb dL_met_71 (by decide) ?_
            refine lv_goto (tgt := 76) hx hb dL_met_72 (by decide) ?_
            exact W.iret (v := nI 2) hx hb hr (fun t ht hW => ⟨⟨_, (), rfl, (show nI 2 = nI (metV c u) from by exact congrArg nI (metV_2 (by simp only [metP, lostP, goneP, e6, Nat.add_sub_cancel]; first | omega | (constructor; omega; simp))).symm), Wr_mk hRc hRr hRo hP hD ht⟩, hS.F ht⟩) hS.2.2 dL_met_76
  · have e6 := h12.symm.trans hz_17
    have hw_w_17 : w_17 < c 20 1 := by have h9 := hI.2.2.1 u; omega
    refine n_top (y := .int (nI w_17)) (congrArg Value.int (by rw [hz_17]; exact siI_s _)) ?_
    refine lv_if_ge (tgt := 24) hx hb dL_met_17 (by decide) (fun c_17 => ?_) (fun c_17 => absurd c_17 (fun z => z (nI_ge0 (show w_17 < 2 ^ 31 from (by omega)))))
    refine lv_aload_n hx hb dL_met_24 rfl (lv_at hl 2 rfl) ?_
    refine lv_iload_n hx hb dL_met_25 rfl (lv_at hl 1 rfl) ?_
    refine n_top (y := .int (nI w_17)) (congrArg Value.int (by rw [hz_17]; exact siI_s _)) ?_
    refine y_calli (va_runV (As := [.int (nI w_17)]) (rest := []) ⟨hx, hb, hml, hown, hts⟩ (k_X2_state_ok l D G h0 c r o hI w_17 (by first | omega | assumption)) (cwV 1 hts gL_met_X2_state rfl rfl rfl (by decide +kernel) ⟨Nat.le_of_ble_eq_true rfl, Nat.le_of_ble_eq_true rfl⟩) ⟨fun a U g mk q => ⟨q.1, Pr_cg q.2⟩, va_recv (ci := 3) (q0 := 0) hK hP rfl (Q_o hRc), fun U hU hW => ⟨rfl, Pr_mk hE hRc hRr hRo hP hD hS hU hW⟩⟩ rfl rfl hl.1 rfl (lv_room (Nat.le_of_ble_eq_true rfl)) dL_met_26 ⟨Nat.le_of_ble_eq_true rfl, Nat.le_of_ble_eq_true rfl⟩) hS (fun v9 _ H locs wl hv9 hRc hRr hRo hP hD hS => ?_)
    refine n_top (y := .int (nI (c 9 w_17))) (congrArg Value.int hv9) ?_
    clear hv9 v9
    refine lv_istore (lv' := [(5, .int (nI (c 9 w_17))), (4, .int (nI (c 9 u))), (3, .int (siI (r 12 u))), (0, .ref (G 0)), (1, .ref (G 3)), (2, .int (nI u))]) hx hb dL_met_29 hl (by decide) rfl (fun ls hl => ?_)
    refine lv_iload hx hb dL_met_31 (lv_at hl 1 rfl) ?_
    refine lv_iconst (v := nI 2) hx hb dL_met_33 (by decide) ?_
    refine n_icmp_eq (tgt := 51) hx hb dL_met_34 (by decide) (hB _ _ (by decide)) (by decide) (fun c_34 => ?_) (fun c_34 => ?_)
    · refine lv_iconst (v := nI 1) hx hb dL_met_51 (by decide) ?_
      refine lv_goto (tgt := 76) hx hb dL_met_52 (by decide) ?_
      exact W.iret (v := nI 1) hx hb hr (fun t ht hW => ⟨⟨_, (), rfl, (show nI 1 = nI (metV c u) from by exact congrArg nI (metV_1 (by simp only [metP, lostP, goneP, e6, Nat.add_sub_cancel]; first | omega | (constructor; omega; simp))).symm), Wr_mk hRc hRr hRo hP hD ht⟩, hS.F ht⟩) hS.2.2 dL_met_76
    · refine lv_iload hx hb dL_met_37 (lv_at hl 1 rfl) ?_
      refine y_calli (va_runS (As := [.int (nI (c 9 u))]) (rest := []) ⟨hx, hb, hml, hown, hts⟩ (k_L_isOff l D G h0 c r o (c 9 u) (hB _ _ (by decide))) (va_cwS 1 hts gL_met_L_isOff rfl rfl rfl (by decide +kernel) ⟨Nat.le_of_ble_eq_true rfl, Nat.le_of_ble_eq_true rfl⟩) ⟨fun a U g mk q => ⟨q.1, Pr_cg q.2⟩, fun U hU hW => ⟨rfl, Pr_mk hE hRc hRr hRo hP hD hS hU hW⟩⟩ rfl rfl hl.1 rfl (lv_room (Nat.le_of_ble_eq_true rfl)) dL_met_39 ⟨Nat.le_of_ble_eq_true rfl, Nat.le_of_ble_eq_true rfl⟩) hS (fun v9 _ H locs wl hv9 hRc hRr hRo hP hD hS => ?_)
      refine n_top (y := .int (nI (bN (c 9 u = 3 ∨ c 9 u = 4)))) (congrArg Value.int hv9) ?_
      clear hv9 v9
      refine n_ifb_eq (tgt := 55) hx hb dL_met_42 (by decide) (fun c_42 => ?_) (fun c_42 => ?_)
      · refine lv_iload hx hb dL_met_55 (lv_at hl 1 rfl) ?_
        refine y_calli (va_runS (As := [.int (nI (c 9 u))]) (rest := []) ⟨hx, hb, hml, hown, hts⟩ (k_L_isOff l D G h0 c r o (c 9 u) (hB _ _ (by decide))) (va_cwS 1 hts gL_met_L_isOff rfl rfl rfl (by decide +kernel) ⟨Nat.le_of_ble_eq_true rfl, Nat.le_of_ble_eq_true rfl⟩) ⟨fun a U g mk q => ⟨q.1, Pr_cg q.2⟩, fun U hU hW => ⟨rfl, Pr_mk hE hRc hRr hRo hP hD hS hU hW⟩⟩ rfl rfl hl.1 rfl (lv_room (Nat.le_of_ble_eq_true rfl)) dL_met_57 ⟨Nat.le_of_ble_eq_true rfl, Nat.le_of_ble_eq_true rfl⟩) hS (fun v9 _ H locs wl hv9 hRc hRr hRo hP hD hS => ?_)
        refine n_top (y := .int (nI (bN (c 9 u = 3 ∨ c 9 u = 4)))) (congrArg Value.int hv9) ?_
        clear hv9 v9
        refine n_ifb_eq (tgt := 75) hx hb dL_met_60 (by decide) (fun c_60 => ?_) (fun c_60 => ?_)
        · refine lv_iconst (v := nI 0) hx hb dL_met_75 (by decide) ?_
          exact W.iret (v := nI 0) hx hb hr (fun t ht hW => ⟨⟨_, (), rfl, (show nI 0 = nI (metV c u) from by exact congrArg nI (metV_0 (by simp only [metP, goneP, e6, Nat.add_sub_cancel]; omega) (by simp only [lostP, goneP, e6, Nat.add_sub_cancel]; omega)).symm), Wr_mk hRc hRr hRo hP hD ht⟩, hS.F ht⟩) hS.2.2 dL_met_76
        · refine lv_iload hx hb dL_met_63 (lv_at hl 0 rfl) ?_
          refine y_calli (va_runS (As := [.int (nI (c 9 w_17))]) (rest := []) ⟨hx, hb, hml, hown, hts⟩ (k_L_isOff l D G h0 c r o (c 9 w_17) (hB _ _ (by decide))) (va_cwS 1 hts gL_met_L_isOff rfl rfl rfl (by decide +kernel) ⟨Nat.le_of_ble_eq_true rfl, Nat.le_of_ble_eq_true rfl⟩) ⟨fun a U g mk q => ⟨q.1, Pr_cg q.2⟩, fun U hU hW => ⟨rfl, Pr_mk hE hRc hRr hRo hP hD hS hU hW⟩⟩ rfl rfl hl.1 rfl (lv_room (Nat.le_of_ble_eq_true rfl)) dL_met_65 ⟨Nat.le_of_ble_eq_true rfl, Nat.le_of_ble_eq_true rfl⟩) hS (fun v9 _ H locs wl hv9 hRc hRr hRo hP hD hS => ?_)
          refine n_top (y := .int (nI (bN (c 9 w_17 = 3 ∨ c 9 w_17 = 4)))) (congrArg Value.int hv9) ?_
          clear hv9 v9
          refine n_ifb_eq (tgt := 75) hx hb dL_met_68 (by decide) (fun c_68 => ?_) (fun c_68 => ?_)
          · refine lv_iconst (v := nI 0) hx hb dL_met_75 (by decide) ?_
            exact W.iret (v := nI 0) hx hb hr (fun t ht hW => ⟨⟨_, (), rfl, (show nI 0 = nI (metV c u) from by exact congrArg nI (metV_0 (by simp only [metP, goneP, e6, Nat.add_sub_cancel]; omega) (by simp only [lostP, goneP, e6, Nat.add_sub_cancel]; omega)).symm), Wr_mk hRc hRr hRo hP hD ht⟩, hS.F ht⟩) hS.2.2 dL_met_76
          · refine lv_iconst (v := nI 2) hx hb dL_met_71 (by decide) ?_
            refine lv_goto (tgt := 76) hx hb dL_met_72 (by decide) ?_
            exact W.iret (v := nI 2) hx hb hr (fun t ht hW => ⟨⟨_, (), rfl, (show nI 2 = nI (metV c u) from by exact congrArg nI (metV_2 (by simp only [metP, lostP, goneP, e6, Nat.add_sub_cancel]; first | omega | (constructor; omega; simp))).symm), Wr_mk hRc hRr hRo hP hD ht⟩, hS.F ht⟩) hS.2.2 dL_met_76
      · refine lv_iload hx hb dL_met_45 (lv_at hl 0 rfl) ?_
        refine lv_iconst (v := nI 2) hx hb dL_met_47 (by decide) ?_
        refine n_icmp_ne (tgt := 55) hx hb dL_met_48 (by decide) (hB _ _ (by decide)) (by decide) (fun c_48 => ?_) (fun c_48 => ?_)
        · refine lv_iload hx hb dL_met_55 (lv_at hl 1 rfl) ?_
          refine y_calli (va_runS (As := [.int (nI (c 9 u))]) (rest := []) ⟨hx, hb, hml, hown, hts⟩ (k_L_isOff l D G h0 c r o (c 9 u) (hB _ _ (by decide))) (va_cwS 1 hts gL_met_L_isOff rfl rfl rfl (by decide +kernel) ⟨Nat.le_of_ble_eq_true rfl, Nat.le_of_ble_eq_true rfl⟩) ⟨fun a U g mk q => ⟨q.1, Pr_cg q.2⟩, fun U hU hW => ⟨rfl, Pr_mk hE hRc hRr hRo hP hD hS hU hW⟩⟩ rfl rfl hl.1 rfl (lv_room (Nat.le_of_ble_eq_true rfl)) dL_met_57 ⟨Nat.le_of_ble_eq_true rfl, Nat.le_of_ble_eq_true rfl⟩) hS (fun v9 _ H locs wl hv9 hRc hRr hRo hP hD hS => ?_)
          refine n_top (y := .int (nI (bN (c 9 u = 3 ∨ c 9 u = 4)))) (congrArg Value.int hv9) ?_
          clear hv9 v9
          refine n_ifb_eq (tgt := 75) hx hb dL_met_60 (by decide) (fun c_60 => ?_) (fun c_60 => ?_)
          · refine lv_iconst (v := nI 0) hx hb dL_met_75 (by decide) ?_
            exact W.iret (v := nI 0) hx hb hr (fun t ht hW => ⟨⟨_, (), rfl, (show nI 0 = nI (metV c u) from by exact congrArg nI (metV_0 (by simp only [metP, goneP, e6, Nat.add_sub_cancel]; omega) (by simp only [lostP, goneP, e6, Nat.add_sub_cancel]; omega)).symm), Wr_mk hRc hRr hRo hP hD ht⟩, hS.F ht⟩) hS.2.2 dL_met_76
          · refine lv_iload hx hb dL_met_63 (lv_at hl 0 rfl) ?_
            refine y_calli (va_runS (As := [.int (nI (c 9 w_17))]) (rest := []) ⟨hx, hb, hml, hown, hts⟩ (k_L_isOff l D G h0 c r o (c 9 w_17) (hB _ _ (by decide))) (va_cwS 1 hts gL_met_L_isOff rfl rfl rfl (by decide +kernel) ⟨Nat.le_of_ble_eq_true rfl, Nat.le_of_ble_eq_true rfl⟩) ⟨fun a U g mk q => ⟨q.1, Pr_cg q.2⟩, fun U hU hW => ⟨rfl, Pr_mk hE hRc hRr hRo hP hD hS hU hW⟩⟩ rfl rfl hl.1 rfl (lv_room (Nat.le_of_ble_eq_true rfl)) dL_met_65 ⟨Nat.le_of_ble_eq_true rfl, Nat.le_of_ble_eq_true rfl⟩) hS (fun v9 _ H locs wl hv9 hRc hRr hRo hP hD hS => ?_)
            refine n_top (y := .int (nI (bN (c 9 w_17 = 3 ∨ c 9 w_17 = 4)))) (congrArg Value.int hv9) ?_
            clear hv9 v9
            refine n_ifb_eq (tgt := 75) hx hb dL_met_68 (by decide) (fun c_68 => ?_) (fun c_68 => ?_)
            · refine lv_iconst (v := nI 0) hx hb dL_met_75 (by decide) ?_
              exact W.iret (v := nI 0) hx hb hr (fun t ht hW => ⟨⟨_, (), rfl, (show nI 0 = nI (metV c u) from by exact congrArg nI (metV_0 (by simp only [metP, goneP, e6, Nat.add_sub_cancel]; omega) (by simp only [lostP, goneP, e6, Nat.add_sub_cancel]; omega)).symm), Wr_mk hRc hRr hRo hP hD ht⟩, hS.F ht⟩) hS.2.2 dL_met_76
            · refine lv_iconst (v := nI 2) hx hb dL_met_71 (by decide) ?_
              refine lv_goto (tgt := 76) hx hb dL_met_72 (by decide) ?_
              exact W.iret (v := nI 2) hx hb hr (fun t ht hW => ⟨⟨_, (), rfl, (show nI 2 = nI (metV c u) from by exact congrArg nI (metV_2 (by simp only [metP, lostP, goneP, e6, Nat.add_sub_cancel]; first | omega | (constructor; omega; simp))).symm), Wr_mk hRc hRr hRo hP hD ht⟩, hS.F ht⟩) hS.2.2 dL_met_76
        · refine lv_iconst (v := nI 1) hx hb dL_met_51 (by decide) ?_
          refine lv_goto (tgt := 76) hx hb dL_met_52 (by decide) ?_
          exact W.iret (v := nI 1) hx hb hr (fun t ht hW => ⟨⟨_, (), rfl, (show nI 1 = nI (metV c u) from by exact congrArg nI (metV_1 (by simp only [metP, lostP, goneP, e6, Nat.add_sub_cancel]; first | omega | (constructor; omega; simp))).symm), Wr_mk hRc hRr hRo hP hD ht⟩, hS.F ht⟩) hS.2.2 dL_met_76
set_option maxHeartbeats 4000000 in
set_option maxRecDepth 100000 in
theorem k_L_hasLost (l : Launch) (D : va_G) (G : Nat → Nat) (h0 : Nat) (c r : Nat → Nat → Nat) (o : Nat) (hI : IC c) (hn8 : c 20 1 ≤ 8) (h12 : ∀ v, v < c 20 1 → r 12 v = c 6 v) (u : Nat) (hu : u < c 20 1) (h14 : r 14 u = c 7 u) (hBr : BR r) : Met l yL_hasLost wsL_hasLost ({ frames := 3, cells := 0, slots := 0, locals := 67 } : Room) (va_Pc [.ref (G 0), .ref (G 3), .int (nI u)] (fun U => Pr D G h0 c r o U)) (va_Qi (fun (v9 : Int32) (_ : Unit) => v9 = nI (bN (exQ (fun v => (c 7 u).testBit v = true ∧ lostP (c 9) (c 6) v) (c 20 1)))) (fun _ t => Wr D G h0 c r o t) (fun q => h0 ≤ q)) 0 0 (fun q => h0 ≤ q) := by
  refine Met.ofW (cc := cL_hasLost) (maxL := 5) (ret := (some .boolean)) (by decide) rfl ?_
  intro p e s m args below meth cd s₁ B hml hv
  obtain ⟨rfl, hE, wl, hRc, hRr, hRo, hP, hD⟩ := hv
  have hx := B.exec
  have hb := B.bytes
  have hr := B.returns
  have hts := atoms_spec (ws := wsL_hasLost) B.pre
  have hown : s.vm.findClass RL = some m.cls := findClass_of_methodNamed B.named
  have hlocks := B.notSynchronized
  have hK := hE.2.1
  have hS : va_S (fun q => h0 ≤ q) s.heap s.heap [] := va_S.rf
  have hl := lv_entry ([.ref (G 0), .ref (G 3), .int (nI u)]) (n := 5) (Nat.le_of_ble_eq_true rfl)
  rw [lg_entry_eq]
  generalize (lg_sl ([.ref (G 0), .ref (G 3), .int (nI u)]) ++ List.replicate (5 - (lg_sl ([.ref (G 0), .ref (G 3), .int (nI u)])).length) Slot.unset).toArray = ls at hl ⊢
  have hl : lv_has ls 5 [(0, .ref (G 0)), (1, .ref (G 3)), (2, .int (nI u))] := hl
  obtain ⟨Q, hQ⟩ : ∃ Q, Q = MQ below (va_Qi (fun (v9 : Int32) (_ : Unit) => v9 = nI (bN (exQ (fun v => (c 7 u).testBit v = true ∧ lostP (c 9) (c 6) v) (c 20 1)))) (fun _ t => Wr D G h0 c r o t) (fun q => h0 ≤ q)) ([.ref (G 0), .ref (G 3), .int (nI u)] : List Value).toArray s 0 0 (fun q => h0 ≤ q) := ⟨_, rfl⟩
  rw [← hQ]
  have hB := IC_B hI
  have hn := IC_n hI
  have hU := IC_U hI
  refine lv_iconst (v := nI 0) hx hb dL_hasLost_0 (by decide) ?_
  refine lv_istore_n (lv' := [(3, .int (nI 0)), (0, .ref (G 0)), (1, .ref (G 3)), (2, .int (nI u))]) hx hb dL_hasLost_1 rfl hl (by decide) rfl (fun ls hl => ?_)
  refine lv_iconst (v := nI 0) hx hb dL_hasLost_2 (by decide) ?_
  refine lv_istore (lv' := [(4, .int (nI 0)), (3, .int (nI 0)), (0, .ref (G 0)), (1, .ref (G 3)), (2, .int (nI u))]) hx hb dL_hasLost_3 hl (by decide) rfl (fun ls hl => ?_)
  have L5 : ∀ (d i : Nat), c 20 1 - i < d → i ≤ c 20 1 → ∀ (H : Heap) (locs : List Loc) (wl : va_W) (ls : Array Slot), Rc G c wl → Rr G r wl → Ro G o wl → va_P D vwCl wl H → va_D (fun q => h0 ≤ q) wl → va_S (fun q => h0 ≤ q) s.heap H locs → lv_has ls 5 [(4, .int (nI i)), (3, .int (nI (bN (exQ (fun v => (c 7 u).testBit v = true ∧ lostP (c 9) (c 6) v) i)))), (0, .ref (G 0)), (1, .ref (G 3)), (2, .int (nI u))] → W p l e (headSpec wsL_hasLost ({ frames := 3, cells := 0, slots := 0, locals := 67 } : Room)).room s m ([.ref (G 0), .ref (G 3), .int (nI u)] : List Value).toArray below meth cd H locs 0 0 Q (F0 m 5 ls []) := by
    intro d5
    induction d5 with
    | zero => intro i hd; exact absurd hd (Nat.not_lt_zero _)
    | succ d5 ih5 =>
      intro i hd hi  H locs wl ls hRc hRr hRo hP hD hS hl
      refine lv_iload hx hb dL_hasLost_5 (lv_at hl 0 rfl) ?_
      refine lv_aload_n hx hb dL_hasLost_7 rfl (lv_at hl 2 rfl) ?_
      refine y_calli (va_runV (As := []) (rest := [.int (nI i)]) ⟨hx, hb, hml, hown, hts⟩ (k_X2_units l D G h0 c r o ) (cwV 0 hts gL_hasLost_X2_units rfl rfl rfl (by decide +kernel) ⟨Nat.le_of_ble_eq_true rfl, Nat.le_of_ble_eq_true rfl⟩) ⟨fun a U g mk q => ⟨q.1, Pr_cg q.2⟩, va_recv (ci := 3) (q0 := 0) hK hP rfl (Q_o hRc), fun U hU hW => ⟨rfl, Pr_mk hE hRc hRr hRo hP hD hS hU hW⟩⟩ rfl rfl hl.1 rfl (lv_room (Nat.le_of_ble_eq_true rfl)) dL_hasLost_8 ⟨Nat.le_of_ble_eq_true rfl, Nat.le_of_ble_eq_true rfl⟩) hS (fun v9 _ H locs wl hv9 hRc hRr hRo hP hD hS => ?_)
      refine n_top (y := .int (nI (c 20 1))) (congrArg Value.int hv9) ?_
      clear hv9 v9
      refine n_icmp_ge (tgt := 58) hx hb dL_hasLost_11 (by decide) (by omega) (hB _ _ (by decide)) (fun c_11 => ?_) (fun c_11 => ?_)
      · refine lv_iload_n hx hb dL_hasLost_58 rfl (lv_at hl 1 rfl) ?_
        rw [hQ]
        exact W.zret (v := nI (bN (exQ (fun v => (c 7 u).testBit v = true ∧ lostP (c 9) (c 6) v) i))) (ty := .boolean) hx hb hr (nb_le (by first | exact bN_le _ | decide | omega | assumption)) (fun t ht hW => ⟨⟨_, (), rfl, (show nI (bN (exQ (fun v => (c 7 u).testBit v = true ∧ lostP (c 9) (c 6) v) i)) = nI (bN (exQ (fun v => (c 7 u).testBit v = true ∧ lostP (c 9) (c 6) v) (c 20 1))) from by rw [show i = c 20 1 by omega]), Wr_mk hRc hRr hRo hP hD ht⟩, hS.F ht⟩) hS.2.2 dL_hasLost_59
      · have J14 : (∀ (H : Heap) (locs : List Loc) (wl : va_W), Rc G c wl → Rr G r wl → Ro G o wl → va_P D vwCl wl H → va_D (fun q => h0 ≤ q) wl → va_S (fun q => h0 ≤ q) s.heap H locs → W p l e (headSpec wsL_hasLost ({ frames := 3, cells := 0, slots := 0, locals := 67 } : Room)).room s m ([.ref (G 0), .ref (G 3), .int (nI u)] : List Value).toArray below meth cd H locs 0 0 Q (F0 m 51 ls [.int (nI (bN (exQ (fun v => (c 7 u).testBit v = true ∧ lostP (c 9) (c 6) v) (i + 1))))])) → W p l e (headSpec wsL_hasLost ({ frames := 3, cells := 0, slots := 0, locals := 67 } : Room)).room s m ([.ref (G 0), .ref (G 3), .int (nI u)] : List Value).toArray below meth cd H locs 0 0 Q (F0 m 14 ls []) := by
          intro hk14
          refine lv_iload_n hx hb dL_hasLost_14 rfl (lv_at hl 1 rfl) ?_
          refine n_ifb_ne (tgt := 46) hx hb dL_hasLost_15 (by decide) (fun c_15 => ?_) (fun c_15 => ?_)
          · refine lv_iconst (v := nI 1) hx hb dL_hasLost_46 (by decide) ?_
            refine lv_goto (tgt := 51) hx hb dL_hasLost_47 (by decide) ?_
            refine n_top (y := .int (nI (bN (exQ (fun v => (c 7 u).testBit v = true ∧ lostP (c 9) (c 6) v) (i + 1))))) (congrArg Value.int (show nI 1 = nI (bN (exQ (fun v => (c 7 u).testBit v = true ∧ lostP (c 9) (c 6) v) (i + 1))) from by exact congrArg nI (bN_t (exQ_o c_15)).symm)) ?_
            exact hk14 _ _ _ hRc hRr hRo hP hD hS
          · refine lv_aload_n hx hb dL_hasLost_18 rfl (lv_at hl 3 rfl) ?_
            refine lv_bipush (v := nI 8) hx hb dL_hasLost_19 (by decide) ?_
            refine lv_iload_n hx hb dL_hasLost_21 rfl (lv_at hl 4 rfl) ?_
            refine n_imul hx hb dL_hasLost_22 ?_
            refine lv_iconst (v := nI 4) hx hb dL_hasLost_23 (by decide) ?_
            refine n_iadd hx hb dL_hasLost_24 ?_
            refine x_iald hx hb hK hP 3 (Q_g hRr) (by first | omega | decide | assumption) (by decide) dL_hasLost_25 (v := nI (r 14 u)) (gV_j _ (k := u) (j := 4) (by decide) (by decide)) ?_
            refine lv_iload hx hb dL_hasLost_26 (lv_at hl 0 rfl) ?_
            refine n_ishr hx hb dL_hasLost_28 (hBr _ _ (by decide)) (by omega) ?_
            refine lv_iconst (v := nI 1) hx hb dL_hasLost_29 (by decide) ?_
            refine n_bitt hx hb dL_hasLost_30 ?_
            refine lv_iconst (v := nI 1) hx hb dL_hasLost_31 (by decide) ?_
            refine n_icmpb_ne (tgt := 50) hx hb dL_hasLost_32 (by decide) (fun c_32 => ?_) (fun c_32 => ?_)
            · refine lv_iconst (v := nI 0) hx hb dL_hasLost_50 (by decide) ?_
              refine n_top (y := .int (nI (bN (exQ (fun v => (c 7 u).testBit v = true ∧ lostP (c 9) (c 6) v) (i + 1))))) (congrArg Value.int (show nI 0 = nI (bN (exQ (fun v => (c 7 u).testBit v = true ∧ lostP (c 9) (c 6) v) (i + 1))) from by exact congrArg nI (bN_f (exQ_f c_15 (fun q => c_32 (by rw [h14]; exact q.1)))).symm)) ?_
              exact hk14 _ _ _ hRc hRr hRo hP hD hS
            · refine lv_aload_n hx hb dL_hasLost_35 rfl (lv_at hl 2 rfl) ?_
              refine lv_aload_n hx hb dL_hasLost_36 rfl (lv_at hl 3 rfl) ?_
              refine lv_iload hx hb dL_hasLost_37 (lv_at hl 0 rfl) ?_
              refine y_calli (va_runS (As := [.ref (G 0), .ref (G 3), .int (nI i)]) (rest := []) ⟨hx, hb, hml, hown, hts⟩ (k_L_met l D G h0 c r o hI hn8 i (by first | omega | assumption) (h12 _ (by first | omega | assumption))) (va_cwS 3 hts gL_hasLost_L_met rfl rfl rfl (by decide +kernel) ⟨Nat.le_of_ble_eq_true rfl, Nat.le_of_ble_eq_true rfl⟩) ⟨fun a U g mk q => ⟨q.1, Pr_cg q.2⟩, fun U hU hW => ⟨rfl, Pr_mk hE hRc hRr hRo hP hD hS hU hW⟩⟩ rfl rfl hl.1 rfl (lv_room (Nat.le_of_ble_eq_true rfl)) dL_hasLost_39 ⟨Nat.le_of_ble_eq_true rfl, Nat.le_of_ble_eq_true rfl⟩) hS (fun v9 _ H locs wl hv9 hRc hRr hRo hP hD hS => ?_)
              refine n_top (y := .int (nI (metV c i))) (congrArg Value.int hv9) ?_
              clear hv9 v9
              refine lv_iconst (v := nI 2) hx hb dL_hasLost_42 (by decide) ?_
              refine n_icmp_ne (tgt := 50) hx hb dL_hasLost_43 (by decide) (metV_lt _ _) (by decide) (fun c_43 => ?_) (fun c_43 => ?_)
              · refine lv_iconst (v := nI 0) hx hb dL_hasLost_50 (by decide) ?_
                refine n_top (y := .int (nI (bN (exQ (fun v => (c 7 u).testBit v = true ∧ lostP (c 9) (c 6) v) (i + 1))))) (congrArg Value.int (show nI 0 = nI (bN (exQ (fun v => (c 7 u).testBit v = true ∧ lostP (c 9) (c 6) v) (i + 1))) from by exact congrArg nI (bN_f (exQ_f c_15 (fun q => c_43 (metV_2 q.2)))).symm)) ?_
                exact hk14 _ _ _ hRc hRr hRo hP hD hS
              · refine lv_iconst (v := nI 1) hx hb dL_hasLost_46 (by decide) ?_
                refine lv_goto (tgt := 51) hx hb dL_hasLost_47 (by decide) ?_
                refine n_top (y := .int (nI (bN (exQ (fun v => (c 7 u).testBit v = true ∧ lostP (c 9) (c 6) v) (i + 1))))) (congrArg Value.int (show nI 1 = nI (bN (exQ (fun v => (c 7 u).testBit v = true ∧ lostP (c 9) (c 6) v) (i + 1))) from by exact congrArg nI (bN_t (exQ_t ⟨by rw [← h14]; exact c_32, metV_2i c_43⟩)).symm)) ?_
                exact hk14 _ _ _ hRc hRr hRo hP hD hS
        refine J14 (fun H locs wl hRc hRr hRo hP hD hS => ?_)
        refine lv_istore_n (lv' := [(3, .int (nI (bN (exQ (fun v => (c 7 u).testBit v = true ∧ lostP (c 9) (c 6) v) (i + 1))))), (4, .int (nI i)), (0, .ref (G 0)), (1, .ref (G 3)), (2, .int (nI u))]) hx hb dL_hasLost_51 rfl hl (by decide) rfl (fun ls hl => ?_)
        refine lv_iinc (v := nI (i + 1)) (lv' := [(4, .int (nI (i + 1))), (3, .int (nI (bN (exQ (fun v => (c 7 u).testBit v = true ∧ lostP (c 9) (c 6) v) (i + 1))))), (0, .ref (G 0)), (1, .ref (G 3)), (2, .int (nI u))]) hx hb dL_hasLost_52 hl (k := 1) rfl (nI_add i 1) (by decide) rfl (fun ls hl => ?_)
        refine lv_goto (tgt := 5) hx hb dL_hasLost_55 (by decide) ?_
        exact ih5 (i + 1) (by omega) (by omega)   _ _ _ _ hRc hRr hRo hP hD hS (lv_sub hl [0, 1, 2, 3, 4] rfl)
  exact L5 _ 0 (Nat.lt_succ_self _) (by omega)   _ _ _ _ hRc hRr hRo hP hD hS (show lv_has ls 5 [(4, .int (nI 0)), (3, .int (nI (bN (exQ (fun v => (c 7 u).testBit v = true ∧ lostP (c 9) (c 6) v) 0)))), (0, .ref (G 0)), (1, .ref (G 3)), (2, .int (nI u))] from by rw [show ((.int (nI (bN (exQ (fun v => (c 7 u).testBit v = true ∧ lostP (c 9) (c 6) v) 0))) : Value)) = .int (nI 0) from by exact congrArg (fun z => Value.int (nI z)) (bN_f exQ_0)]; exact lv_sub hl [0, 1, 2, 3, 4] rfl)
set_option maxHeartbeats 4000000 in
set_option maxRecDepth 100000 in
theorem k_L_waited (l : Launch) (D : va_G) (G : Nat → Nat) (h0 : Nat) (c r : Nat → Nat → Nat) (o : Nat) (hI : IC c) (hn8 : c 20 1 ≤ 8) (h12 : ∀ v, v < c 20 1 → r 12 v = c 6 v) (u : Nat) (hu : u < c 20 1) (h14 : r 14 u = c 7 u) (hBr : BR r) (hw : ∀ v, v < c 20 1 → (wun r (8 * u + v) ↔ (c 8 u).testBit v = true)) : Met l yL_waited wsL_waited ({ frames := 3, cells := 0, slots := 0, locals := 67 } : Room) (va_Pc [.ref (G 0), .ref (G 3), .ref (G 4), .int (nI u)] (fun U => Pr D G h0 c r o U)) (va_Qi (fun (v9 : Int32) (_ : Unit) => v9 = siI (fP (awC c u) (c 20 1))) (fun _ t => Wr D G h0 c r o t) (fun q => h0 ≤ q)) 0 0 (fun q => h0 ≤ q) := by
  refine Met.ofW (cc := cL_waited) (maxL := 8) (ret := (some .int)) (by decide) rfl ?_
  intro p e s m args below meth cd s₁ B hml hv
  obtain ⟨rfl, hE, wl, hRc, hRr, hRo, hP, hD⟩ := hv
  have hx := B.exec
  have hb := B.bytes
  have hr := B.returns
  have hts := atoms_spec (ws := wsL_waited) B.pre
  have hown : s.vm.findClass RL = some m.cls := findClass_of_methodNamed B.named
  have hlocks := B.notSynchronized
  have hK := hE.2.1
  have hS : va_S (fun q => h0 ≤ q) s.heap s.heap [] := va_S.rf
  have hl := lv_entry ([.ref (G 0), .ref (G 3), .ref (G 4), .int (nI u)]) (n := 8) (Nat.le_of_ble_eq_true rfl)
  rw [lg_entry_eq]
  generalize (lg_sl ([.ref (G 0), .ref (G 3), .ref (G 4), .int (nI u)]) ++ List.replicate (8 - (lg_sl ([.ref (G 0), .ref (G 3), .ref (G 4), .int (nI u)])).length) Slot.unset).toArray = ls at hl ⊢
  have hl : lv_has ls 8 [(0, .ref (G 0)), (1, .ref (G 3)), (2, .ref (G 4)), (3, .int (nI u))] := hl
  obtain ⟨Q, hQ⟩ : ∃ Q, Q = MQ below (va_Qi (fun (v9 : Int32) (_ : Unit) => v9 = siI (fP (awC c u) (c 20 1))) (fun _ t => Wr D G h0 c r o t) (fun q => h0 ≤ q)) ([.ref (G 0), .ref (G 3), .ref (G 4), .int (nI u)] : List Value).toArray s 0 0 (fun q => h0 ≤ q) := ⟨_, rfl⟩
  rw [← hQ]
  have hB := IC_B hI
  have hn := IC_n hI
  have hU := IC_U hI
  refine lv_iconst (v := (-1)) hx hb dL_waited_0 (by decide) ?_
  refine lv_istore (lv' := [(4, .int (-1)), (0, .ref (G 0)), (1, .ref (G 3)), (2, .ref (G 4)), (3, .int (nI u))]) hx hb dL_waited_1 hl (by decide) rfl (fun ls hl => ?_)
  refine lv_aload_n hx hb dL_waited_3 rfl (lv_at hl 1 rfl) ?_
  refine y_calli (va_runV (As := []) (rest := []) ⟨hx, hb, hml, hown, hts⟩ (k_X2_units l D G h0 c r o ) (cwV 0 hts gL_waited_X2_units rfl rfl rfl (by decide +kernel) ⟨Nat.le_of_ble_eq_true rfl, Nat.le_of_ble_eq_true rfl⟩) ⟨fun a U g mk q => ⟨q.1, Pr_cg q.2⟩, va_recv (ci := 3) (q0 := 0) hK hP rfl (Q_o hRc), fun U hU hW => ⟨rfl, Pr_mk hE hRc hRr hRo hP hD hS hU hW⟩⟩ rfl rfl hl.1 rfl (lv_room (Nat.le_of_ble_eq_true rfl)) dL_waited_4 ⟨Nat.le_of_ble_eq_true rfl, Nat.le_of_ble_eq_true rfl⟩) hS (fun v9 _ H locs wl hv9 hRc hRr hRo hP hD hS => ?_)
  refine n_top (y := .int (nI (c 20 1))) (congrArg Value.int hv9) ?_
  clear hv9 v9
  refine lv_iconst (v := nI 1) hx hb dL_waited_7 (by decide) ?_
  refine n_isub hx hb dL_waited_8 (by first | omega | decide | assumption) ?_
  refine lv_istore (lv' := [(5, .int (nI ((c 20 1) - 1))), (4, .int (-1)), (0, .ref (G 0)), (1, .ref (G 3)), (2, .ref (G 4)), (3, .int (nI u))]) hx hb dL_waited_9 hl (by decide) rfl (fun ls hl => ?_)
  have L11 : ∀ (d i : Nat), c 20 1 - i < d → i ≤ c 20 1 → ∀ (H : Heap) (locs : List Loc) (wl : va_W) (ls : Array Slot), Rc G c wl → Rr G r wl → Ro G o wl → va_P D vwCl wl H → va_D (fun q => h0 ≤ q) wl → va_S (fun q => h0 ≤ q) s.heap H locs → lv_has ls 8 [(4, .int (siI (gP (awC c u) (c 20 1) i))), (5, .int (siI (c 20 1 - i))), (0, .ref (G 0)), (1, .ref (G 3)), (2, .ref (G 4)), (3, .int (nI u))] → W p l e (headSpec wsL_waited ({ frames := 3, cells := 0, slots := 0, locals := 67 } : Room)).room s m ([.ref (G 0), .ref (G 3), .ref (G 4), .int (nI u)] : List Value).toArray below meth cd H locs 0 0 Q (F0 m 11 ls []) := by
    intro d11
    induction d11 with
    | zero => intro i hd; exact absurd hd (Nat.not_lt_zero _)
    | succ d11 ih11 =>
      intro i hd hi  H locs wl ls hRc hRr hRo hP hD hS hl
      refine lv_iload hx hb dL_waited_11 (lv_at hl 1 rfl) ?_
      rcases (show c 20 1 - i = 0 ∨ ∃ w, c 20 1 - i = w + 1 from by cases h9 : c 20 1 - i with | zero => exact Or.inl rfl | succ w => exact Or.inr ⟨w, rfl⟩) with hz_13 | ⟨w_13, hz_13⟩
      · refine n_top (y := .int (-1)) (congrArg Value.int (by rw [hz_13]; exact siI_0)) ?_
        refine lv_if_lt (tgt := 128) hx hb dL_waited_13 (by decide) (fun c_13 => ?_) (fun c_13 => absurd c_13 (by decide))
        refine lv_iload hx hb dL_waited_128 (lv_at hl 0 rfl) ?_
        rw [hQ]
        exact W.iret (v := siI (gP (awC c u) (c 20 1) i)) hx hb hr (fun t ht hW => ⟨⟨_, (), rfl, (show siI (gP (awC c u) (c 20 1) i) = siI (fP (awC c u) (c 20 1)) from by rw [show i = c 20 1 by omega, gP_all]), Wr_mk hRc hRr hRo hP hD ht⟩, hS.F ht⟩) hS.2.2 dL_waited_130
      · have e9 : c 20 1 - 1 - i = w_13 := by omega
        refine n_top (y := .int (nI w_13)) (congrArg Value.int (by rw [hz_13]; exact siI_s _)) ?_
        refine lv_if_lt (tgt := 128) hx hb dL_waited_13 (by decide) (fun c_13 => absurd c_13 (nI_pos (show w_13 < 2 ^ 31 from (by omega)))) (fun c_13 => ?_)
        have J16 : (∀ (H : Heap) (locs : List Loc) (wl : va_W), Rc G c wl → Rr G r wl → Ro G o wl → va_P D vwCl wl H → va_D (fun q => h0 ≤ q) wl → va_S (fun q => h0 ≤ q) s.heap H locs → W p l e (headSpec wsL_waited ({ frames := 3, cells := 0, slots := 0, locals := 67 } : Room)).room s m ([.ref (G 0), .ref (G 3), .ref (G 4), .int (nI u)] : List Value).toArray below meth cd H locs 0 0 Q (F0 m 48 ls [.int (nI (bN (wun r (8 * u + w_13))))])) → W p l e (headSpec wsL_waited ({ frames := 3, cells := 0, slots := 0, locals := 67 } : Room)).room s m ([.ref (G 0), .ref (G 3), .ref (G 4), .int (nI u)] : List Value).toArray below meth cd H locs 0 0 Q (F0 m 16 ls []) := by
          intro hk16
          refine lv_aload_n hx hb dL_waited_16 rfl (lv_at hl 4 rfl) ?_
          refine lv_bipush (v := nI 8) hx hb dL_waited_17 (by decide) ?_
          refine lv_iload_n hx hb dL_waited_19 rfl (lv_at hl 5 rfl) ?_
          refine n_imul hx hb dL_waited_20 ?_
          refine lv_iload hx hb dL_waited_21 (lv_at hl 1 rfl) ?_
          refine n_top (y := .int (nI w_13)) (congrArg Value.int (by rw [hz_13]; exact siI_s _)) ?_
          refine n_iadd hx hb dL_waited_23 ?_
          refine x_iald hx hb hK hP 4 (Q_a2 hRr) (by first | omega | decide | assumption) (by decide) dL_waited_24 (v := nI (r 2 ((8 * u) + w_13))) rfl ?_
          refine n_if_le (tgt := 47) hx hb dL_waited_25 (by decide) (hBr _ _ (by decide)) (fun c_25 => ?_) (fun c_25 => ?_)
          · refine lv_iconst (v := nI 0) hx hb dL_waited_47 (by decide) ?_
            refine n_top (y := .int (nI (bN (wun r (8 * u + w_13))))) (congrArg Value.int (show nI 0 = nI (bN (wun r (8 * u + w_13))) from by exact congrArg nI (bN_f (by first | (exact ⟨c_25, c_40⟩) | (exact fun q => Nat.ne_of_gt q.1 c_25) | (exact fun q => Nat.ne_of_gt c_40 q.2))).symm)) ?_
            exact hk16 _ _ _ hRc hRr hRo hP hD hS
          · refine lv_aload_n hx hb dL_waited_28 rfl (lv_at hl 4 rfl) ?_
            refine lv_bipush (v := nI 8) hx hb dL_waited_29 (by decide) ?_
            refine lv_iload_n hx hb dL_waited_31 rfl (lv_at hl 5 rfl) ?_
            refine n_imul hx hb dL_waited_32 ?_
            refine lv_iload hx hb dL_waited_33 (lv_at hl 1 rfl) ?_
            refine n_top (y := .int (nI w_13)) (congrArg Value.int (by rw [hz_13]; exact siI_s _)) ?_
            refine n_iadd hx hb dL_waited_35 ?_
            refine x_iald hx hb hK hP 4 (Q_a2 hRr) (by first | omega | decide | assumption) (by decide) dL_waited_36 (v := nI (r 2 ((8 * u) + w_13))) rfl ?_
            refine lv_bipush (v := nI 20) hx hb dL_waited_37 (by decide) ?_
            refine n_ishr hx hb dL_waited_39 (hBr _ _ (by decide)) (by omega) ?_
            refine n_if_ne (tgt := 47) hx hb dL_waited_40 (by decide) (Nat.lt_of_le_of_lt (Nat.div_le_self _ _) (hBr _ _ (by decide))) (fun c_40 => ?_) (fun c_40 => ?_)
            · refine lv_iconst (v := nI 0) hx hb dL_waited_47 (by decide) ?_
              refine n_top (y := .int (nI (bN (wun r (8 * u + w_13))))) (congrArg Value.int (show nI 0 = nI (bN (wun r (8 * u + w_13))) from by exact congrArg nI (bN_f (by first | (exact ⟨c_25, c_40⟩) | (exact fun q => Nat.ne_of_gt q.1 c_25) | (exact fun q => Nat.ne_of_gt c_40 q.2))).symm)) ?_
              exact hk16 _ _ _ hRc hRr hRo hP hD hS
            · refine lv_iconst (v := nI 1) hx hb dL_waited_43 (by decide) ?_
              refine lv_goto (tgt := 48) hx hb dL_waited_44 (by decide) ?_
              refine n_top (y := .int (nI (bN (wun r (8 * u + w_13))))) (congrArg Value.int (show nI 1 = nI (bN (wun r (8 * u + w_13))) from by exact congrArg nI (bN_t (by first | (exact ⟨c_25, c_40⟩) | (exact fun q => Nat.ne_of_gt q.1 c_25) | (exact fun q => Nat.ne_of_gt c_40 q.2))).symm)) ?_
              exact hk16 _ _ _ hRc hRr hRo hP hD hS
        refine J16 (fun H locs wl hRc hRr hRo hP hD hS => ?_)
        refine lv_istore (lv' := [(6, .int (nI (bN (wun r (8 * u + w_13))))), (4, .int (siI (gP (awC c u) (c 20 1) i))), (5, .int (siI (c 20 1 - i))), (0, .ref (G 0)), (1, .ref (G 3)), (2, .ref (G 4)), (3, .int (nI u))]) hx hb dL_waited_48 hl (by decide) rfl (fun ls hl => ?_)
        have J50 : (∀ (H : Heap) (locs : List Loc) (wl : va_W), Rc G c wl → Rr G r wl → Ro G o wl → va_P D vwCl wl H → va_D (fun q => h0 ≤ q) wl → va_S (fun q => h0 ≤ q) s.heap H locs → W p l e (headSpec wsL_waited ({ frames := 3, cells := 0, slots := 0, locals := 67 } : Room)).room s m ([.ref (G 0), .ref (G 3), .ref (G 4), .int (nI u)] : List Value).toArray below meth cd H locs 0 0 Q (F0 m 74 ls [.int (nI (bN (c 9 w_13 = 0 ∨ c 9 w_13 = 1)))])) → W p l e (headSpec wsL_waited ({ frames := 3, cells := 0, slots := 0, locals := 67 } : Room)).room s m ([.ref (G 0), .ref (G 3), .ref (G 4), .int (nI u)] : List Value).toArray below meth cd H locs 0 0 Q (F0 m 50 ls []) := by
          intro hk50
          refine lv_aload_n hx hb dL_waited_50 rfl (lv_at hl 3 rfl) ?_
          refine lv_iload hx hb dL_waited_51 (lv_at hl 2 rfl) ?_
          refine n_top (y := .int (nI w_13)) (congrArg Value.int (by rw [hz_13]; exact siI_s _)) ?_
          refine y_calli (va_runV (As := [.int (nI w_13)]) (rest := []) ⟨hx, hb, hml, hown, hts⟩ (k_X2_state_ok l D G h0 c r o hI w_13 (by first | omega | assumption)) (cwV 1 hts gL_waited_X2_state rfl rfl rfl (by decide +kernel) ⟨Nat.le_of_ble_eq_true rfl, Nat.le_of_ble_eq_true rfl⟩) ⟨fun a U g mk q => ⟨q.1, Pr_cg q.2⟩, va_recv (ci := 3) (q0 := 0) hK hP rfl (Q_o hRc), fun U hU hW => ⟨rfl, Pr_mk hE hRc hRr hRo hP hD hS hU hW⟩⟩ rfl rfl hl.1 rfl (lv_room (Nat.le_of_ble_eq_true rfl)) dL_waited_53 ⟨Nat.le_of_ble_eq_true rfl, Nat.le_of_ble_eq_true rfl⟩) hS (fun v9 _ H locs wl hv9 hRc hRr hRo hP hD hS => ?_)
          refine n_top (y := .int (nI (c 9 w_13))) (congrArg Value.int hv9) ?_
          clear hv9 v9
          refine n_if_eq (tgt := 69) hx hb dL_waited_56 (by decide) (hB _ _ (by decide)) (fun c_56 => ?_) (fun c_56 => ?_)
          · refine lv_iconst (v := nI 1) hx hb dL_waited_69 (by decide) ?_
            refine lv_goto (tgt := 74) hx hb dL_waited_70 (by decide) ?_
            refine n_top (y := .int (nI (bN (c 9 w_13 = 0 ∨ c 9 w_13 = 1)))) (congrArg Value.int (show nI 1 = nI (bN (c 9 w_13 = 0 ∨ c 9 w_13 = 1)) from by exact congrArg nI (bN_t (by omega)).symm)) ?_
            exact hk50 _ _ _ hRc hRr hRo hP hD hS
          · refine lv_aload_n hx hb dL_waited_59 rfl (lv_at hl 3 rfl) ?_
            refine lv_iload hx hb dL_waited_60 (lv_at hl 2 rfl) ?_
            refine n_top (y := .int (nI w_13)) (congrArg Value.int (by rw [hz_13]; exact siI_s _)) ?_
            refine y_calli (va_runV (As := [.int (nI w_13)]) (rest := []) ⟨hx, hb, hml, hown, hts⟩ (k_X2_state_ok l D G h0 c r o hI w_13 (by first | omega | assumption)) (cwV 1 hts gL_waited_X2_state rfl rfl rfl (by decide +kernel) ⟨Nat.le_of_ble_eq_true rfl, Nat.le_of_ble_eq_true rfl⟩) ⟨fun a U g mk q => ⟨q.1, Pr_cg q.2⟩, va_recv (ci := 3) (q0 := 0) hK hP rfl (Q_o hRc), fun U hU hW => ⟨rfl, Pr_mk hE hRc hRr hRo hP hD hS hU hW⟩⟩ rfl rfl hl.1 rfl (lv_room (Nat.le_of_ble_eq_true rfl)) dL_waited_62 ⟨Nat.le_of_ble_eq_true rfl, Nat.le_of_ble_eq_true rfl⟩) hS (fun v9 _ H locs wl hv9 hRc hRr hRo hP hD hS => ?_)
            refine n_top (y := .int (nI (c 9 w_13))) (congrArg Value.int hv9) ?_
            clear hv9 v9
            refine lv_iconst (v := nI 1) hx hb dL_waited_65 (by decide) ?_
            refine n_icmp_ne (tgt := 73) hx hb dL_waited_66 (by decide) (hB _ _ (by decide)) (by decide) (fun c_66 => ?_) (fun c_66 => ?_)
            · refine lv_iconst (v := nI 0) hx hb dL_waited_73 (by decide) ?_
              refine n_top (y := .int (nI (bN (c 9 w_13 = 0 ∨ c 9 w_13 = 1)))) (congrArg Value.int (show nI 0 = nI (bN (c 9 w_13 = 0 ∨ c 9 w_13 = 1)) from by exact congrArg nI (bN_f (by omega)).symm)) ?_
              exact hk50 _ _ _ hRc hRr hRo hP hD hS
            · refine lv_iconst (v := nI 1) hx hb dL_waited_69 (by decide) ?_
              refine lv_goto (tgt := 74) hx hb dL_waited_70 (by decide) ?_
              refine n_top (y := .int (nI (bN (c 9 w_13 = 0 ∨ c 9 w_13 = 1)))) (congrArg Value.int (show nI 1 = nI (bN (c 9 w_13 = 0 ∨ c 9 w_13 = 1)) from by exact congrArg nI (bN_t (by omega)).symm)) ?_
              exact hk50 _ _ _ hRc hRr hRo hP hD hS
        refine J50 (fun H locs wl hRc hRr hRo hP hD hS => ?_)
        refine lv_istore (lv' := [(7, .int (nI (bN (c 9 w_13 = 0 ∨ c 9 w_13 = 1)))), (6, .int (nI (bN (wun r (8 * u + w_13))))), (4, .int (siI (gP (awC c u) (c 20 1) i))), (5, .int (siI (c 20 1 - i))), (0, .ref (G 0)), (1, .ref (G 3)), (2, .ref (G 4)), (3, .int (nI u))]) hx hb dL_waited_74 hl (by decide) rfl (fun ls hl => ?_)
        have J76 : (∀ (H : Heap) (locs : List Loc) (wl : va_W), Rc G c wl → Rr G r wl → Ro G o wl → va_P D vwCl wl H → va_D (fun q => h0 ≤ q) wl → va_S (fun q => h0 ≤ q) s.heap H locs → W p l e (headSpec wsL_waited ({ frames := 3, cells := 0, slots := 0, locals := 67 } : Room)).room s m ([.ref (G 0), .ref (G 3), .ref (G 4), .int (nI u)] : List Value).toArray below meth cd H locs 0 0 Q (F0 m 120 ls [.int (siI (gP (awC c u) (c 20 1) (i + 1)))])) → W p l e (headSpec wsL_waited ({ frames := 3, cells := 0, slots := 0, locals := 67 } : Room)).room s m ([.ref (G 0), .ref (G 3), .ref (G 4), .int (nI u)] : List Value).toArray below meth cd H locs 0 0 Q (F0 m 76 ls []) := by
          intro hk76
          refine lv_aload_n hx hb dL_waited_76 rfl (lv_at hl 5 rfl) ?_
          refine lv_bipush (v := nI 8) hx hb dL_waited_77 (by decide) ?_
          refine lv_iload_n hx hb dL_waited_79 rfl (lv_at hl 7 rfl) ?_
          refine n_imul hx hb dL_waited_80 ?_
          refine lv_iconst (v := nI 4) hx hb dL_waited_81 (by decide) ?_
          refine n_iadd hx hb dL_waited_82 ?_
          refine x_iald hx hb hK hP 3 (Q_g hRr) (by first | omega | decide | assumption) (by decide) dL_waited_83 (v := nI (r 14 u)) (gV_j _ (k := u) (j := 4) (by decide) (by decide)) ?_
          refine lv_iload hx hb dL_waited_84 (lv_at hl 3 rfl) ?_
          refine n_top (y := .int (nI w_13)) (congrArg Value.int (by rw [hz_13]; exact siI_s _)) ?_
          refine n_ishr hx hb dL_waited_86 (hBr _ _ (by decide)) (by omega) ?_
          refine lv_iconst (v := nI 1) hx hb dL_waited_87 (by decide) ?_
          refine n_bitt hx hb dL_waited_88 ?_
          refine lv_iconst (v := nI 1) hx hb dL_waited_89 (by decide) ?_
          refine n_icmpb_ne (tgt := 103) hx hb dL_waited_90 (by decide) (fun c_90 => ?_) (fun c_90 => ?_)
          · refine lv_iload hx hb dL_waited_103 (lv_at hl 1 rfl) ?_
            refine n_ifb_eq (tgt := 118) hx hb dL_waited_105 (by decide) (fun c_105 => ?_) (fun c_105 => ?_)
            · refine lv_iload hx hb dL_waited_118 (lv_at hl 2 rfl) ?_
              refine n_top (y := .int (siI (gP (awC c u) (c 20 1) (i + 1)))) (congrArg Value.int (show siI (gP (awC c u) (c 20 1) i) = siI (gP (awC c u) (c 20 1) (i + 1)) from by rw [gP_f (by rw [e9]; exact fun q => q.elim (fun q => c_90 (by rw [h14]; exact q.1)) (fun q => c_105 ((hw _ (by omega)).mpr q.1)))])) ?_
              exact hk76 _ _ _ hRc hRr hRo hP hD hS
            · refine lv_iload hx hb dL_waited_108 (lv_at hl 0 rfl) ?_
              refine n_ifb_eq (tgt := 118) hx hb dL_waited_110 (by decide) (fun c_110 => ?_) (fun c_110 => ?_)
              · refine lv_iload hx hb dL_waited_118 (lv_at hl 2 rfl) ?_
                refine n_top (y := .int (siI (gP (awC c u) (c 20 1) (i + 1)))) (congrArg Value.int (show siI (gP (awC c u) (c 20 1) i) = siI (gP (awC c u) (c 20 1) (i + 1)) from by rw [gP_f (by rw [e9]; exact fun q => q.elim (fun q => c_90 (by rw [h14]; exact q.1)) (fun q => c_110 (notdone (hU _).2.2.2.2.2.2.1 q.2)))])) ?_
                exact hk76 _ _ _ hRc hRr hRo hP hD hS
              · refine lv_iload hx hb dL_waited_113 (lv_at hl 3 rfl) ?_
                refine n_top (y := .int (nI w_13)) (congrArg Value.int (by rw [hz_13]; exact siI_s _)) ?_
                refine lv_goto (tgt := 120) hx hb dL_waited_115 (by decide) ?_
                refine n_top (y := .int (siI (gP (awC c u) (c 20 1) (i + 1)))) (congrArg Value.int (show nI w_13 = siI (gP (awC c u) (c 20 1) (i + 1)) from by rw [gP_t (by rw [e9]; exact Or.inr ⟨(hw _ (by omega)).mp c_105, fun q => by rcases q with q | q | q <;> omega⟩), e9]; exact (siI_s _).symm)) ?_
                exact hk76 _ _ _ hRc hRr hRo hP hD hS
          · refine lv_aload_n hx hb dL_waited_93 rfl (lv_at hl 4 rfl) ?_
            refine lv_aload_n hx hb dL_waited_94 rfl (lv_at hl 5 rfl) ?_
            refine lv_iload hx hb dL_waited_95 (lv_at hl 3 rfl) ?_
            refine n_top (y := .int (nI w_13)) (congrArg Value.int (by rw [hz_13]; exact siI_s _)) ?_
            refine y_calli (va_runS (As := [.ref (G 0), .ref (G 3), .int (nI w_13)]) (rest := []) ⟨hx, hb, hml, hown, hts⟩ (k_L_met l D G h0 c r o hI hn8 w_13 (by first | omega | assumption) (h12 _ (by first | omega | assumption))) (va_cwS 3 hts gL_waited_L_met rfl rfl rfl (by decide +kernel) ⟨Nat.le_of_ble_eq_true rfl, Nat.le_of_ble_eq_true rfl⟩) ⟨fun a U g mk q => ⟨q.1, Pr_cg q.2⟩, fun U hU hW => ⟨rfl, Pr_mk hE hRc hRr hRo hP hD hS hU hW⟩⟩ rfl rfl hl.1 rfl (lv_room (Nat.le_of_ble_eq_true rfl)) dL_waited_97 ⟨Nat.le_of_ble_eq_true rfl, Nat.le_of_ble_eq_true rfl⟩) hS (fun v9 _ H locs wl hv9 hRc hRr hRo hP hD hS => ?_)
            refine n_top (y := .int (nI (metV c w_13))) (congrArg Value.int hv9) ?_
            clear hv9 v9
            refine n_if_eq (tgt := 113) hx hb dL_waited_100 (by decide) (metV_lt _ _) (fun c_100 => ?_) (fun c_100 => ?_)
            · refine lv_iload hx hb dL_waited_113 (lv_at hl 3 rfl) ?_
              refine n_top (y := .int (nI w_13)) (congrArg Value.int (by rw [hz_13]; exact siI_s _)) ?_
              refine lv_goto (tgt := 120) hx hb dL_waited_115 (by decide) ?_
              refine n_top (y := .int (siI (gP (awC c u) (c 20 1) (i + 1)))) (congrArg Value.int (show nI w_13 = siI (gP (awC c u) (c 20 1) (i + 1)) from by rw [gP_t (by rw [e9]; exact Or.inl ⟨by rw [← h14]; exact c_90, (metV_0i c_100).1, (metV_0i c_100).2⟩), e9]; exact (siI_s _).symm)) ?_
              exact hk76 _ _ _ hRc hRr hRo hP hD hS
            · refine lv_iload hx hb dL_waited_103 (lv_at hl 1 rfl) ?_
              refine n_ifb_eq (tgt := 118) hx hb dL_waited_105 (by decide) (fun c_105 => ?_) (fun c_105 => ?_)
              · refine lv_iload hx hb dL_waited_118 (lv_at hl 2 rfl) ?_
                refine n_top (y := .int (siI (gP (awC c u) (c 20 1) (i + 1)))) (congrArg Value.int (show siI (gP (awC c u) (c 20 1) i) = siI (gP (awC c u) (c 20 1) (i + 1)) from by rw [gP_f (by rw [e9]; exact fun q => q.elim (fun q => absurd (metV_0 q.2.1 q.2.2) (Nat.ne_of_gt c_100)) (fun q => c_105 ((hw _ (by omega)).mpr q.1)))])) ?_
                exact hk76 _ _ _ hRc hRr hRo hP hD hS
              · refine lv_iload hx hb dL_waited_108 (lv_at hl 0 rfl) ?_
                refine n_ifb_eq (tgt := 118) hx hb dL_waited_110 (by decide) (fun c_110 => ?_) (fun c_110 => ?_)
                · refine lv_iload hx hb dL_waited_118 (lv_at hl 2 rfl) ?_
                  refine n_top (y := .int (siI (gP (awC c u) (c 20 1) (i + 1)))) (congrArg Value.int (show siI (gP (awC c u) (c 20 1) i) = siI (gP (awC c u) (c 20 1) (i + 1)) from by rw [gP_f (by rw [e9]; exact fun q => q.elim (fun q => absurd (metV_0 q.2.1 q.2.2) (Nat.ne_of_gt c_100)) (fun q => c_110 (notdone (hU _).2.2.2.2.2.2.1 q.2)))])) ?_
                  exact hk76 _ _ _ hRc hRr hRo hP hD hS
                · refine lv_iload hx hb dL_waited_113 (lv_at hl 3 rfl) ?_
                  refine n_top (y := .int (nI w_13)) (congrArg Value.int (by rw [hz_13]; exact siI_s _)) ?_
                  refine lv_goto (tgt := 120) hx hb dL_waited_115 (by decide) ?_
                  refine n_top (y := .int (siI (gP (awC c u) (c 20 1) (i + 1)))) (congrArg Value.int (show nI w_13 = siI (gP (awC c u) (c 20 1) (i + 1)) from by rw [gP_t (by rw [e9]; exact Or.inr ⟨(hw _ (by omega)).mp c_105, fun q => by rcases q with q | q | q <;> omega⟩), e9]; exact (siI_s _).symm)) ?_
                  exact hk76 _ _ _ hRc hRr hRo hP hD hS
        refine J76 (fun H locs wl hRc hRr hRo hP hD hS => ?_)
        refine lv_istore (lv' := [(4, .int (siI (gP (awC c u) (c 20 1) (i + 1)))), (7, .int (nI (bN (c 9 w_13 = 0 ∨ c 9 w_13 = 1)))), (6, .int (nI (bN (wun r (8 * u + w_13))))), (5, .int (siI (c 20 1 - i))), (0, .ref (G 0)), (1, .ref (G 3)), (2, .ref (G 4)), (3, .int (nI u))]) hx hb dL_waited_120 hl (by decide) rfl (fun ls hl => ?_)
        refine lv_iinc (v := siI (c 20 1 - (i + 1))) (lv' := [(5, .int (siI (c 20 1 - (i + 1)))), (4, .int (siI (gP (awC c u) (c 20 1) (i + 1)))), (7, .int (nI (bN (c 9 w_13 = 0 ∨ c 9 w_13 = 1)))), (6, .int (nI (bN (wun r (8 * u + w_13))))), (0, .ref (G 0)), (1, .ref (G 3)), (2, .ref (G 4)), (3, .int (nI u))]) hx hb dL_waited_122 hl (k := 3) rfl (siI_dn (by omega)) (by decide) rfl (fun ls hl => ?_)
        refine lv_goto (tgt := 11) hx hb dL_waited_125 (by decide) ?_
        exact ih11 (i + 1) (by omega) (by omega)   _ _ _ _ hRc hRr hRo hP hD hS (lv_sub hl [1, 0, 4, 5, 6, 7] rfl)
  exact L11 _ 0 (Nat.lt_succ_self _) (by omega)   _ _ _ _ hRc hRr hRo hP hD hS (show lv_has ls 8 [(4, .int (siI (gP (awC c u) (c 20 1) 0))), (5, .int (siI (c 20 1 - 0))), (0, .ref (G 0)), (1, .ref (G 3)), (2, .ref (G 4)), (3, .int (nI u))] from by rw [show ((.int (siI (gP (awC c u) (c 20 1) 0)) : Value)) = .int (-1) from by exact congrArg Value.int (show siI 0 = -1 from siI_0), show ((.int (siI (c 20 1 - 0)) : Value)) = .int (nI ((c 20 1) - 1)) from by exact congrArg Value.int (siI_p (by omega))]; exact lv_sub hl [1, 0, 2, 3, 4, 5] rfl)
set_option maxHeartbeats 4000000 in
set_option maxRecDepth 100000 in
theorem k_L_areUnits (l : Launch) (D : va_G) (G : Nat → Nat) (h0 : Nat) (c r : Nat → Nat → Nat) (o : Nat) (hI : IC c) (hn8 : c 20 1 ≤ 8) (h12 : ∀ v, v < c 20 1 → r 12 v = c 6 v) (h14 : ∀ u, u < c 20 1 → r 14 u = c 7 u) (hBr : BR r) (hw : ∀ u v, u < c 20 1 → v < c 20 1 → (wun r (8 * u + v) ↔ (c 8 u).testBit v = true)) (hbar : c 20 6 ≤ 1000) : Met l yL_areUnits wsL_areUnits ({ frames := 4, cells := 0, slots := 0, locals := 94 } : Room) (va_Pc [.ref (G 0), .ref (G 3), .ref (G 4)] (fun U => Pr D G h0 c r o U)) (va_Qi (fun (v9 : Int32) (_ : Unit) => v9 = nI 1) (fun _ t => Wr D G h0 c r o t) (fun q => h0 ≤ q)) 0 0 (fun q => h0 ≤ q) := by
  refine Met.ofW (cc := cL_areUnits) (maxL := 7) (ret := (some .boolean)) (by decide) rfl ?_
  intro p e s m args below meth cd s₁ B hml hv
  obtain ⟨rfl, hE, wl, hRc, hRr, hRo, hP, hD⟩ := hv
  have hx := B.exec
  have hb := B.bytes
  have hr := B.returns
  have hts := atoms_spec (ws := wsL_areUnits) B.pre
  have hown : s.vm.findClass RL = some m.cls := findClass_of_methodNamed B.named
  have hlocks := B.notSynchronized
  have hK := hE.2.1
  have hS : va_S (fun q => h0 ≤ q) s.heap s.heap [] := va_S.rf
  have hl := lv_entry ([.ref (G 0), .ref (G 3), .ref (G 4)]) (n := 7) (Nat.le_of_ble_eq_true rfl)
  rw [lg_entry_eq]
  generalize (lg_sl ([.ref (G 0), .ref (G 3), .ref (G 4)]) ++ List.replicate (7 - (lg_sl ([.ref (G 0), .ref (G 3), .ref (G 4)])).length) Slot.unset).toArray = ls at hl ⊢
  have hl : lv_has ls 7 [(0, .ref (G 0)), (1, .ref (G 3)), (2, .ref (G 4))] := hl
  obtain ⟨Q, hQ⟩ : ∃ Q, Q = MQ below (va_Qi (fun (v9 : Int32) (_ : Unit) => v9 = nI 1) (fun _ t => Wr D G h0 c r o t) (fun q => h0 ≤ q)) ([.ref (G 0), .ref (G 3), .ref (G 4)] : List Value).toArray s 0 0 (fun q => h0 ≤ q) := ⟨_, rfl⟩
  rw [← hQ]
  have hB := IC_B hI
  have hn := IC_n hI
  have hU := IC_U hI
  refine lv_iconst (v := nI 0) hx hb dL_areUnits_0 (by decide) ?_
  refine lv_istore_n (lv' := [(3, .int (nI 0)), (0, .ref (G 0)), (1, .ref (G 3)), (2, .ref (G 4))]) hx hb dL_areUnits_1 rfl hl (by decide) rfl (fun ls hl => ?_)
  refine lv_aload_n hx hb dL_areUnits_2 rfl (lv_at hl 1 rfl) ?_
  refine y_calli (va_runV (As := []) (rest := []) ⟨hx, hb, hml, hown, hts⟩ (k_X2_bar l D G h0 c r o ) (cwV 0 hts gL_areUnits_X2_bar rfl rfl rfl (by decide +kernel) ⟨Nat.le_of_ble_eq_true rfl, Nat.le_of_ble_eq_true rfl⟩) ⟨fun a U g mk q => ⟨q.1, Pr_cg q.2⟩, va_recv (ci := 3) (q0 := 0) hK hP rfl (Q_o hRc), fun U hU hW => ⟨rfl, Pr_mk hE hRc hRr hRo hP hD hS hU hW⟩⟩ rfl rfl hl.1 rfl (lv_room (Nat.le_of_ble_eq_true rfl)) dL_areUnits_3 ⟨Nat.le_of_ble_eq_true rfl, Nat.le_of_ble_eq_true rfl⟩) hS (fun v9 _ H locs wl hv9 hRc hRr hRo hP hD hS => ?_)
  refine n_top (y := .int (nI (c 20 6))) (congrArg Value.int hv9) ?_
  clear hv9 v9
  refine lv_if_lt (tgt := 23) hx hb dL_areUnits_6 (by decide) (fun c_6 => absurd c_6 (nI_pos (show c 20 6 < 2 ^ 31 from (hB _ _ (by decide))))) (fun c_6 => ?_)
  refine lv_aload_n hx hb dL_areUnits_9 rfl (lv_at hl 1 rfl) ?_
  refine y_calli (va_runV (As := []) (rest := []) ⟨hx, hb, hml, hown, hts⟩ (k_X2_bar l D G h0 c r o ) (cwV 0 hts gL_areUnits_X2_bar rfl rfl rfl (by decide +kernel) ⟨Nat.le_of_ble_eq_true rfl, Nat.le_of_ble_eq_true rfl⟩) ⟨fun a U g mk q => ⟨q.1, Pr_cg q.2⟩, va_recv (ci := 3) (q0 := 0) hK hP rfl (Q_o hRc), fun U hU hW => ⟨rfl, Pr_mk hE hRc hRr hRo hP hD hS hU hW⟩⟩ rfl rfl hl.1 rfl (lv_room (Nat.le_of_ble_eq_true rfl)) dL_areUnits_10 ⟨Nat.le_of_ble_eq_true rfl, Nat.le_of_ble_eq_true rfl⟩) hS (fun v9 _ H locs wl hv9 hRc hRr hRo hP hD hS => ?_)
  refine n_top (y := .int (nI (c 20 6))) (congrArg Value.int hv9) ?_
  clear hv9 v9
  refine lv_sipush (v := nI 1000) hx hb dL_areUnits_13 (by decide) ?_
  refine n_icmp_gt (tgt := 23) hx hb dL_areUnits_16 (by decide) (hB _ _ (by decide)) (by decide) (fun c_16 => ?_) (fun c_16 => ?_)
  · exfalso; omega
  · refine lv_iconst (v := nI 1) hx hb dL_areUnits_19 (by decide) ?_
    refine lv_goto (tgt := 24) hx hb dL_areUnits_20 (by decide) ?_
    refine lv_istore (lv' := [(4, .int (nI 1)), (3, .int (nI 0)), (0, .ref (G 0)), (1, .ref (G 3)), (2, .ref (G 4))]) hx hb dL_areUnits_24 hl (by decide) rfl (fun ls hl => ?_)
    refine lv_iconst (v := nI 0) hx hb dL_areUnits_26 (by decide) ?_
    refine lv_istore (lv' := [(5, .int (nI 0)), (4, .int (nI 1)), (3, .int (nI 0)), (0, .ref (G 0)), (1, .ref (G 3)), (2, .ref (G 4))]) hx hb dL_areUnits_27 hl (by decide) rfl (fun ls hl => ?_)
    have L29 : ∀ (d i : Nat), c 20 1 - i < d → i ≤ c 20 1 → ∀ (H : Heap) (locs : List Loc) (wl : va_W) (ls : Array Slot), Rc G c wl → Rr G r wl → Ro G o wl → va_P D vwCl wl H → va_D (fun q => h0 ≤ q) wl → va_S (fun q => h0 ≤ q) s.heap H locs → lv_has ls 7 [(5, .int (nI i)), (3, .int (nI (mk (fun w => c 9 w = 2) i))), (4, .int (nI 1)), (0, .ref (G 0)), (1, .ref (G 3)), (2, .ref (G 4))] → W p l e (headSpec wsL_areUnits ({ frames := 4, cells := 0, slots := 0, locals := 94 } : Room)).room s m ([.ref (G 0), .ref (G 3), .ref (G 4)] : List Value).toArray below meth cd H locs 0 0 Q (F0 m 29 ls []) := by
      intro d29
      induction d29 with
      | zero => intro i hd; exact absurd hd (Nat.not_lt_zero _)
      | succ d29 ih29 =>
        intro i hd hi  H locs wl ls hRc hRr hRo hP hD hS hl
        obtain ⟨u1, u2, u3, u4, u5, u6, u7, u8, u9, u10, u11⟩ := hU i
        refine lv_iload hx hb dL_areUnits_29 (lv_at hl 0 rfl) ?_
        refine lv_aload_n hx hb dL_areUnits_31 rfl (lv_at hl 3 rfl) ?_
        refine y_calli (va_runV (As := []) (rest := [.int (nI i)]) ⟨hx, hb, hml, hown, hts⟩ (k_X2_units l D G h0 c r o ) (cwV 0 hts gL_areUnits_X2_units rfl rfl rfl (by decide +kernel) ⟨Nat.le_of_ble_eq_true rfl, Nat.le_of_ble_eq_true rfl⟩) ⟨fun a U g mk q => ⟨q.1, Pr_cg q.2⟩, va_recv (ci := 3) (q0 := 0) hK hP rfl (Q_o hRc), fun U hU hW => ⟨rfl, Pr_mk hE hRc hRr hRo hP hD hS hU hW⟩⟩ rfl rfl hl.1 rfl (lv_room (Nat.le_of_ble_eq_true rfl)) dL_areUnits_32 ⟨Nat.le_of_ble_eq_true rfl, Nat.le_of_ble_eq_true rfl⟩) hS (fun v9 _ H locs wl hv9 hRc hRr hRo hP hD hS => ?_)
        refine n_top (y := .int (nI (c 20 1))) (congrArg Value.int hv9) ?_
        clear hv9 v9
        refine n_icmp_ge (tgt := 139) hx hb dL_areUnits_35 (by decide) (by omega) (hB _ _ (by decide)) (fun c_35 => ?_) (fun c_35 => ?_)
        · refine lv_iload hx hb dL_areUnits_139 (lv_at hl 2 rfl) ?_
          refine n_if_eq (tgt := 156) hx hb dL_areUnits_141 (by decide) (by decide) (fun c_141 => absurd c_141 (by decide)) (fun c_141 => ?_)
          refine lv_aload_n hx hb dL_areUnits_144 rfl (lv_at hl 3 rfl) ?_
          refine y_calli (va_runV (As := []) (rest := []) ⟨hx, hb, hml, hown, hts⟩ (k_X2_ready l D G h0 c r o hI) (cwV 0 hts gL_areUnits_X2_ready rfl rfl rfl (by decide +kernel) ⟨Nat.le_of_ble_eq_true rfl, Nat.le_of_ble_eq_true rfl⟩) ⟨fun a U g mk q => ⟨q.1, Pr_cg q.2⟩, va_recv (ci := 3) (q0 := 0) hK hP rfl (Q_o hRc), fun U hU hW => ⟨rfl, Pr_mk hE hRc hRr hRo hP hD hS hU hW⟩⟩ rfl rfl hl.1 rfl (lv_room (Nat.le_of_ble_eq_true rfl)) dL_areUnits_145 ⟨Nat.le_of_ble_eq_true rfl, Nat.le_of_ble_eq_true rfl⟩) hS (fun v9 _ H locs wl hv9 hRc hRr hRo hP hD hS => ?_)
          refine n_top (y := .int (nI (mk (fun w => c 9 w = 2) (c 20 1)))) (congrArg Value.int hv9) ?_
          clear hv9 v9
          refine lv_iload_n hx hb dL_areUnits_148 rfl (lv_at hl 1 rfl) ?_
          refine n_icmp_ne (tgt := 156) hx hb dL_areUnits_149 (by decide) (mk31 (by omega)) (mk31 (by omega)) (fun c_149 => ?_) (fun c_149 => ?_)
          · exfalso; exact c_149 (by rw [show i = c 20 1 by omega])
          · refine lv_iconst (v := nI 1) hx hb dL_areUnits_152 (by decide) ?_
            refine lv_goto (tgt := 157) hx hb dL_areUnits_153 (by decide) ?_
            rw [hQ]
            exact W.zret (v := nI 1) (ty := .boolean) hx hb hr (nb_le (by first | exact bN_le _ | decide | omega | assumption)) (fun t ht hW => ⟨⟨_, (), rfl, (show nI 1 = nI 1 from by first | rfl | (apply congrArg nI; omega) | exact congrArg nI (bN_t (by omega)).symm | exact congrArg nI (bN_f (by omega)).symm), Wr_mk hRc hRr hRo hP hD ht⟩, hS.F ht⟩) hS.2.2 dL_areUnits_157
        · refine lv_iload hx hb dL_areUnits_38 (lv_at hl 2 rfl) ?_
          refine n_if_eq (tgt := 139) hx hb dL_areUnits_40 (by decide) (by decide) (fun c_40 => absurd c_40 (by decide)) (fun c_40 => ?_)
          refine lv_aload_n hx hb dL_areUnits_43 rfl (lv_at hl 3 rfl) ?_
          refine lv_iload hx hb dL_areUnits_44 (lv_at hl 0 rfl) ?_
          refine y_calli (va_runV (As := [.int (nI i)]) (rest := []) ⟨hx, hb, hml, hown, hts⟩ (k_X2_state_ok l D G h0 c r o hI i (by first | omega | assumption)) (cwV 1 hts gL_areUnits_X2_state rfl rfl rfl (by decide +kernel) ⟨Nat.le_of_ble_eq_true rfl, Nat.le_of_ble_eq_true rfl⟩) ⟨fun a U g mk q => ⟨q.1, Pr_cg q.2⟩, va_recv (ci := 3) (q0 := 0) hK hP rfl (Q_o hRc), fun U hU hW => ⟨rfl, Pr_mk hE hRc hRr hRo hP hD hS hU hW⟩⟩ rfl rfl hl.1 rfl (lv_room (Nat.le_of_ble_eq_true rfl)) dL_areUnits_46 ⟨Nat.le_of_ble_eq_true rfl, Nat.le_of_ble_eq_true rfl⟩) hS (fun v9 _ H locs wl hv9 hRc hRr hRo hP hD hS => ?_)
          refine n_top (y := .int (nI (c 9 i))) (congrArg Value.int hv9) ?_
          clear hv9 v9
          refine lv_istore (lv' := [(6, .int (nI (c 9 i))), (5, .int (nI i)), (3, .int (nI (mk (fun w => c 9 w = 2) i))), (4, .int (nI 1)), (0, .ref (G 0)), (1, .ref (G 3)), (2, .ref (G 4))]) hx hb dL_areUnits_49 hl (by decide) rfl (fun ls hl => ?_)
          refine lv_iload_n hx hb dL_areUnits_51 rfl (lv_at hl 2 rfl) ?_
          have J52 : (∀ (H : Heap) (locs : List Loc) (wl : va_W), Rc G c wl → Rr G r wl → Ro G o wl → va_P D vwCl wl H → va_D (fun q => h0 ≤ q) wl → va_S (fun q => h0 ≤ q) s.heap H locs → W p l e (headSpec wsL_areUnits ({ frames := 4, cells := 0, slots := 0, locals := 94 } : Room)).room s m ([.ref (G 0), .ref (G 3), .ref (G 4)] : List Value).toArray below meth cd H locs 0 0 Q (F0 m 66 ls [.int (nI (bN (c 9 i = 2) * 2 ^ i)), .int (nI (mk (fun w => c 9 w = 2) i))])) → W p l e (headSpec wsL_areUnits ({ frames := 4, cells := 0, slots := 0, locals := 94 } : Room)).room s m ([.ref (G 0), .ref (G 3), .ref (G 4)] : List Value).toArray below meth cd H locs 0 0 Q (F0 m 52 ls [.int (nI (mk (fun w => c 9 w = 2) i))]) := by
            intro hk52
            refine lv_iload hx hb dL_areUnits_52 (lv_at hl 0 rfl) ?_
            refine lv_iconst (v := nI 2) hx hb dL_areUnits_54 (by decide) ?_
            refine n_icmp_ne (tgt := 65) hx hb dL_areUnits_55 (by decide) (hB _ _ (by decide)) (by decide) (fun c_55 => ?_) (fun c_55 => ?_)
            · refine lv_iconst (v := nI 0) hx hb dL_areUnits_65 (by decide) ?_
              refine n_top (y := .int (nI (bN (c 9 i = 2) * 2 ^ i))) (congrArg Value.int (show nI 0 = nI (bN (c 9 i = 2) * 2 ^ i) from by rw [bN_f c_55, Nat.zero_mul])) ?_
              exact hk52 _ _ _ hRc hRr hRo hP hD hS
            · refine lv_iconst (v := nI 1) hx hb dL_areUnits_58 (by decide) ?_
              refine lv_iload hx hb dL_areUnits_59 (lv_at hl 1 rfl) ?_
              refine n_bit hx hb dL_areUnits_61 (by omega) ?_
              refine lv_goto (tgt := 66) hx hb dL_areUnits_62 (by decide) ?_
              refine n_top (y := .int (nI (bN (c 9 i = 2) * 2 ^ i))) (congrArg Value.int (show nI (2 ^ i) = nI (bN (c 9 i = 2) * 2 ^ i) from by rw [bN_t c_55, Nat.one_mul])) ?_
              exact hk52 _ _ _ hRc hRr hRo hP hD hS
          refine J52 (fun H locs wl hRc hRr hRo hP hD hS => ?_)
          refine n_ior hx hb dL_areUnits_66 ?_
          refine lv_istore_n (lv' := [(3, .int (nI ((mk (fun w => c 9 w = 2) i) ||| (bN (c 9 i = 2) * 2 ^ i)))), (6, .int (nI (c 9 i))), (5, .int (nI i)), (4, .int (nI 1)), (0, .ref (G 0)), (1, .ref (G 3)), (2, .ref (G 4))]) hx hb dL_areUnits_67 rfl hl (by decide) rfl (fun ls hl => ?_)
          refine lv_iload hx hb dL_areUnits_68 (lv_at hl 1 rfl) ?_
          refine lv_if_lt (tgt := 130) hx hb dL_areUnits_70 (by decide) (fun c_70 => absurd c_70 (nI_pos (show c 9 i < 2 ^ 31 from (hB _ _ (by decide))))) (fun c_70 => ?_)
          refine lv_iload hx hb dL_areUnits_73 (lv_at hl 1 rfl) ?_
          refine lv_iconst (v := nI 4) hx hb dL_areUnits_75 (by decide) ?_
          refine n_icmp_gt (tgt := 130) hx hb dL_areUnits_76 (by decide) (hB _ _ (by decide)) (by decide) (fun c_76 => ?_) (fun c_76 => ?_)
          · exfalso; omega
          · refine lv_aload_n hx hb dL_areUnits_79 rfl (lv_at hl 4 rfl) ?_
            refine lv_iload hx hb dL_areUnits_80 (lv_at hl 2 rfl) ?_
            refine y_calli (va_runV (As := [.int (nI i)]) (rest := []) ⟨hx, hb, hml, hown, hts⟩ (k_X2_waitsFor_ok l D G h0 c r o hI i (by first | omega | assumption)) (cwV 1 hts gL_areUnits_X2_waitsFor rfl rfl rfl (by decide +kernel) ⟨Nat.le_of_ble_eq_true rfl, Nat.le_of_ble_eq_true rfl⟩) ⟨fun a U g mk q => ⟨q.1, Pr_cg q.2⟩, va_recv (ci := 3) (q0 := 0) hK hP rfl (Q_o hRc), fun U hU hW => ⟨rfl, Pr_mk hE hRc hRr hRo hP hD hS hU hW⟩⟩ rfl rfl hl.1 rfl (lv_room (Nat.le_of_ble_eq_true rfl)) dL_areUnits_82 ⟨Nat.le_of_ble_eq_true rfl, Nat.le_of_ble_eq_true rfl⟩) hS (fun v9 _ H locs wl hv9 hRc hRr hRo hP hD hS => ?_)
            refine n_top (y := .int (siI (if c 9 i = 0 then fP (awC c i) (c 20 1) else 0))) (congrArg Value.int hv9) ?_
            clear hv9 v9
            refine lv_iload hx hb dL_areUnits_85 (lv_at hl 1 rfl) ?_
            refine n_if_ne (tgt := 101) hx hb dL_areUnits_87 (by decide) (hB _ _ (by decide)) (fun c_87 => ?_) (fun c_87 => ?_)
            · refine lv_iconst (v := (-1)) hx hb dL_areUnits_101 (by decide) ?_
              refine lv_icmp_ne (tgt := 130) hx hb dL_areUnits_102 (by decide) (fun c_102 => ?_) (fun c_102 => ?_)
              · exfalso; exact c_102 (by rw [if_neg (Nat.ne_of_gt c_87)]; exact siI_0)
              · refine lv_aload_n hx hb dL_areUnits_105 rfl (lv_at hl 4 rfl) ?_
                refine lv_iload hx hb dL_areUnits_106 (lv_at hl 2 rfl) ?_
                refine y_calli (va_runV (As := [.int (nI i)]) (rest := []) ⟨hx, hb, hml, hown, hts⟩ (k_X2_learned_ok l D G h0 c r o hI i (by first | omega | assumption)) (cwV 1 hts gL_areUnits_X2_learned rfl rfl rfl (by decide +kernel) ⟨Nat.le_of_ble_eq_true rfl, Nat.le_of_ble_eq_true rfl⟩) ⟨fun a U g mk q => ⟨q.1, Pr_cg q.2⟩, va_recv (ci := 3) (q0 := 0) hK hP rfl (Q_o hRc), fun U hU hW => ⟨rfl, Pr_mk hE hRc hRr hRo hP hD hS hU hW⟩⟩ rfl rfl hl.1 rfl (lv_room (Nat.le_of_ble_eq_true rfl)) dL_areUnits_108 ⟨Nat.le_of_ble_eq_true rfl, Nat.le_of_ble_eq_true rfl⟩) hS (fun v9 _ H locs wl hv9 hRc hRr hRo hP hD hS => ?_)
                refine n_top (y := .int (nI (c 3 i))) (congrArg Value.int hv9) ?_
                clear hv9 v9
                refine lv_iconst (v := nI 1) hx hb dL_areUnits_111 (by decide) ?_
                refine n_icmp_lt (tgt := 130) hx hb dL_areUnits_112 (by decide) (hB _ _ (by decide)) (by decide) (fun c_112 => ?_) (fun c_112 => ?_)
                · exfalso; omega
                · refine lv_aload_n hx hb dL_areUnits_115 rfl (lv_at hl 4 rfl) ?_
                  refine lv_iload hx hb dL_areUnits_116 (lv_at hl 2 rfl) ?_
                  refine y_calli (va_runV (As := [.int (nI i)]) (rest := []) ⟨hx, hb, hml, hown, hts⟩ (k_X2_learned_ok l D G h0 c r o hI i (by first | omega | assumption)) (cwV 1 hts gL_areUnits_X2_learned rfl rfl rfl (by decide +kernel) ⟨Nat.le_of_ble_eq_true rfl, Nat.le_of_ble_eq_true rfl⟩) ⟨fun a U g mk q => ⟨q.1, Pr_cg q.2⟩, va_recv (ci := 3) (q0 := 0) hK hP rfl (Q_o hRc), fun U hU hW => ⟨rfl, Pr_mk hE hRc hRr hRo hP hD hS hU hW⟩⟩ rfl rfl hl.1 rfl (lv_room (Nat.le_of_ble_eq_true rfl)) dL_areUnits_118 ⟨Nat.le_of_ble_eq_true rfl, Nat.le_of_ble_eq_true rfl⟩) hS (fun v9 _ H locs wl hv9 hRc hRr hRo hP hD hS => ?_)
                  refine n_top (y := .int (nI (c 3 i))) (congrArg Value.int hv9) ?_
                  clear hv9 v9
                  refine lv_bipush (v := nI 100) hx hb dL_areUnits_121 (by decide) ?_
                  refine n_icmp_gt (tgt := 130) hx hb dL_areUnits_123 (by decide) (hB _ _ (by decide)) (by decide) (fun c_123 => ?_) (fun c_123 => ?_)
                  · exfalso; omega
                  · refine lv_iconst (v := nI 1) hx hb dL_areUnits_126 (by decide) ?_
                    refine lv_goto (tgt := 131) hx hb dL_areUnits_127 (by decide) ?_
                    refine lv_istore (lv' := [(4, .int (nI 1)), (3, .int (nI ((mk (fun w => c 9 w = 2) i) ||| (bN (c 9 i = 2) * 2 ^ i)))), (6, .int (nI (c 9 i))), (5, .int (nI i)), (0, .ref (G 0)), (1, .ref (G 3)), (2, .ref (G 4))]) hx hb dL_areUnits_131 hl (by decide) rfl (fun ls hl => ?_)
                    refine lv_iinc (v := nI (i + 1)) (lv' := [(5, .int (nI (i + 1))), (4, .int (nI 1)), (3, .int (nI ((mk (fun w => c 9 w = 2) i) ||| (bN (c 9 i = 2) * 2 ^ i)))), (6, .int (nI (c 9 i))), (0, .ref (G 0)), (1, .ref (G 3)), (2, .ref (G 4))]) hx hb dL_areUnits_133 hl (k := 3) rfl (nI_add i 1) (by decide) rfl (fun ls hl => ?_)
                    refine lv_goto (tgt := 29) hx hb dL_areUnits_136 (by decide) ?_
                    exact ih29 (i + 1) (by omega) (by omega)   _ _ _ _ hRc hRr hRo hP hD hS (show lv_has ls 7 [(5, .int (nI (i + 1))), (3, .int (nI (mk (fun w => c 9 w = 2) (i + 1)))), (4, .int (nI 1)), (0, .ref (G 0)), (1, .ref (G 3)), (2, .ref (G 4))] from by rw [show ((.int (nI (mk (fun w => c 9 w = 2) (i + 1))) : Value)) = .int (nI ((mk (fun w => c 9 w = 2) i) ||| (bN (c 9 i = 2) * 2 ^ i))) from by rfl]; exact lv_sub hl [0, 2, 1, 4, 5, 6] rfl)
            · refine lv_aload_n hx hb dL_areUnits_90 rfl (lv_at hl 4 rfl) ?_
              refine lv_aload_n hx hb dL_areUnits_91 rfl (lv_at hl 5 rfl) ?_
              refine lv_aload_n hx hb dL_areUnits_92 rfl (lv_at hl 6 rfl) ?_
              refine lv_iload hx hb dL_areUnits_93 (lv_at hl 2 rfl) ?_
              refine y_calli (va_runS (As := [.ref (G 0), .ref (G 3), .ref (G 4), .int (nI i)]) (rest := [.int (siI (if c 9 i = 0 then fP (awC c i) (c 20 1) else 0))]) ⟨hx, hb, hml, hown, hts⟩ (k_L_waited l D G h0 c r o hI hn8 h12 i (by first | omega | assumption) (h14 _ (by first | omega | assumption)) hBr (fun v hv => hw _ v (by first | omega | assumption) hv)) (va_cwS 4 hts gL_areUnits_L_waited rfl rfl rfl (by decide +kernel) ⟨Nat.le_of_ble_eq_true rfl, Nat.le_of_ble_eq_true rfl⟩) ⟨fun a U g mk q => ⟨q.1, Pr_cg q.2⟩, fun U hU hW => ⟨rfl, Pr_mk hE hRc hRr hRo hP hD hS hU hW⟩⟩ rfl rfl hl.1 rfl (lv_room (Nat.le_of_ble_eq_true rfl)) dL_areUnits_95 ⟨Nat.le_of_ble_eq_true rfl, Nat.le_of_ble_eq_true rfl⟩) hS (fun v9 _ H locs wl hv9 hRc hRr hRo hP hD hS => ?_)
              refine n_top (y := .int (siI (fP (awC c i) (c 20 1)))) (congrArg Value.int hv9) ?_
              clear hv9 v9
              refine lv_goto (tgt := 102) hx hb dL_areUnits_98 (by decide) ?_
              refine lv_icmp_ne (tgt := 130) hx hb dL_areUnits_102 (by decide) (fun c_102 => ?_) (fun c_102 => ?_)
              · exfalso; exact c_102 (by rw [if_pos c_87])
              · refine lv_aload_n hx hb dL_areUnits_105 rfl (lv_at hl 4 rfl) ?_
                refine lv_iload hx hb dL_areUnits_106 (lv_at hl 2 rfl) ?_
                refine y_calli (va_runV (As := [.int (nI i)]) (rest := []) ⟨hx, hb, hml, hown, hts⟩ (k_X2_learned_ok l D G h0 c r o hI i (by first | omega | assumption)) (cwV 1 hts gL_areUnits_X2_learned rfl rfl rfl (by decide +kernel) ⟨Nat.le_of_ble_eq_true rfl, Nat.le_of_ble_eq_true rfl⟩) ⟨fun a U g mk q => ⟨q.1, Pr_cg q.2⟩, va_recv (ci := 3) (q0 := 0) hK hP rfl (Q_o hRc), fun U hU hW => ⟨rfl, Pr_mk hE hRc hRr hRo hP hD hS hU hW⟩⟩ rfl rfl hl.1 rfl (lv_room (Nat.le_of_ble_eq_true rfl)) dL_areUnits_108 ⟨Nat.le_of_ble_eq_true rfl, Nat.le_of_ble_eq_true rfl⟩) hS (fun v9 _ H locs wl hv9 hRc hRr hRo hP hD hS => ?_)
                refine n_top (y := .int (nI (c 3 i))) (congrArg Value.int hv9) ?_
                clear hv9 v9
                refine lv_iconst (v := nI 1) hx hb dL_areUnits_111 (by decide) ?_
                refine n_icmp_lt (tgt := 130) hx hb dL_areUnits_112 (by decide) (hB _ _ (by decide)) (by decide) (fun c_112 => ?_) (fun c_112 => ?_)
                · exfalso; omega
                · refine lv_aload_n hx hb dL_areUnits_115 rfl (lv_at hl 4 rfl) ?_
                  refine lv_iload hx hb dL_areUnits_116 (lv_at hl 2 rfl) ?_
                  refine y_calli (va_runV (As := [.int (nI i)]) (rest := []) ⟨hx, hb, hml, hown, hts⟩ (k_X2_learned_ok l D G h0 c r o hI i (by first | omega | assumption)) (cwV 1 hts gL_areUnits_X2_learned rfl rfl rfl (by decide +kernel) ⟨Nat.le_of_ble_eq_true rfl, Nat.le_of_ble_eq_true rfl⟩) ⟨fun a U g mk q => ⟨q.1, Pr_cg q.2⟩, va_recv (ci := 3) (q0 := 0) hK hP rfl (Q_o hRc), fun U hU hW => ⟨rfl, Pr_mk hE hRc hRr hRo hP hD hS hU hW⟩⟩ rfl rfl hl.1 rfl (lv_room (Nat.le_of_ble_eq_true rfl)) dL_areUnits_118 ⟨Nat.le_of_ble_eq_true rfl, Nat.le_of_ble_eq_true rfl⟩) hS (fun v9 _ H locs wl hv9 hRc hRr hRo hP hD hS => ?_)
                  refine n_top (y := .int (nI (c 3 i))) (congrArg Value.int hv9) ?_
                  clear hv9 v9
                  refine lv_bipush (v := nI 100) hx hb dL_areUnits_121 (by decide) ?_
                  refine n_icmp_gt (tgt := 130) hx hb dL_areUnits_123 (by decide) (hB _ _ (by decide)) (by decide) (fun c_123 => ?_) (fun c_123 => ?_)
                  · exfalso; omega
                  · refine lv_iconst (v := nI 1) hx hb dL_areUnits_126 (by decide) ?_
                    refine lv_goto (tgt := 131) hx hb dL_areUnits_127 (by decide) ?_
                    refine lv_istore (lv' := [(4, .int (nI 1)), (3, .int (nI ((mk (fun w => c 9 w = 2) i) ||| (bN (c 9 i = 2) * 2 ^ i)))), (6, .int (nI (c 9 i))), (5, .int (nI i)), (0, .ref (G 0)), (1, .ref (G 3)), (2, .ref (G 4))]) hx hb dL_areUnits_131 hl (by decide) rfl (fun ls hl => ?_)
                    refine lv_iinc (v := nI (i + 1)) (lv' := [(5, .int (nI (i + 1))), (4, .int (nI 1)), (3, .int (nI ((mk (fun w => c 9 w = 2) i) ||| (bN (c 9 i = 2) * 2 ^ i)))), (6, .int (nI (c 9 i))), (0, .ref (G 0)), (1, .ref (G 3)), (2, .ref (G 4))]) hx hb dL_areUnits_133 hl (k := 3) rfl (nI_add i 1) (by decide) rfl (fun ls hl => ?_)
                    refine lv_goto (tgt := 29) hx hb dL_areUnits_136 (by decide) ?_
                    exact ih29 (i + 1) (by omega) (by omega)   _ _ _ _ hRc hRr hRo hP hD hS (show lv_has ls 7 [(5, .int (nI (i + 1))), (3, .int (nI (mk (fun w => c 9 w = 2) (i + 1)))), (4, .int (nI 1)), (0, .ref (G 0)), (1, .ref (G 3)), (2, .ref (G 4))] from by rw [show ((.int (nI (mk (fun w => c 9 w = 2) (i + 1))) : Value)) = .int (nI ((mk (fun w => c 9 w = 2) i) ||| (bN (c 9 i = 2) * 2 ^ i))) from by rfl]; exact lv_sub hl [0, 2, 1, 4, 5, 6] rfl)
    exact L29 _ 0 (Nat.lt_succ_self _) (by omega)   _ _ _ _ hRc hRr hRo hP hD hS (show lv_has ls 7 [(5, .int (nI 0)), (3, .int (nI (mk (fun w => c 9 w = 2) 0))), (4, .int (nI 1)), (0, .ref (G 0)), (1, .ref (G 3)), (2, .ref (G 4))] from by rw [show ((.int (nI (mk (fun w => c 9 w = 2) 0)) : Value)) = .int (nI 0) from by rfl]; exact lv_sub hl [0, 2, 1, 3, 4, 5] rfl)
set_option maxHeartbeats 4000000 in
set_option maxRecDepth 100000 in
theorem k_L_areRunning (l : Launch) (D : va_G) (G : Nat → Nat) (h0 : Nat) (c r : Nat → Nat → Nat) (o : Nat) (hI : IC c) (hn8 : c 20 1 ≤ 8) (h12 : ∀ v, v < c 20 1 → r 12 v = c 6 v) (h14 : ∀ u, u < c 20 1 → r 14 u = c 7 u) (h13 : ∀ u, u < c 20 1 → r 13 u = c 5 u) (h11 : ∀ u, u < c 20 1 → r 11 u = c 2 u) (hBr : BR r) : Met l yL_areRunning wsL_areRunning ({ frames := 4, cells := 0, slots := 0, locals := 90 } : Room) (va_Pc [.ref (G 0), .ref (G 3)] (fun U => Pr D G h0 c r o U)) (va_Qi (fun (v9 : Int32) (_ : Unit) => v9 = nI 1) (fun _ t => Wr D G h0 c r o t) (fun q => h0 ≤ q)) 0 0 (fun q => h0 ≤ q) := by
  refine Met.ofW (cc := cL_areRunning) (maxL := 9) (ret := (some .boolean)) (by decide) rfl ?_
  intro p e s m args below meth cd s₁ B hml hv
  obtain ⟨rfl, hE, wl, hRc, hRr, hRo, hP, hD⟩ := hv
  have hx := B.exec
  have hb := B.bytes
  have hr := B.returns
  have hts := atoms_spec (ws := wsL_areRunning) B.pre
  have hown : s.vm.findClass RL = some m.cls := findClass_of_methodNamed B.named
  have hlocks := B.notSynchronized
  have hK := hE.2.1
  have hS : va_S (fun q => h0 ≤ q) s.heap s.heap [] := va_S.rf
  have hl := lv_entry ([.ref (G 0), .ref (G 3)]) (n := 9) (Nat.le_of_ble_eq_true rfl)
  rw [lg_entry_eq]
  generalize (lg_sl ([.ref (G 0), .ref (G 3)]) ++ List.replicate (9 - (lg_sl ([.ref (G 0), .ref (G 3)])).length) Slot.unset).toArray = ls at hl ⊢
  have hl : lv_has ls 9 [(0, .ref (G 0)), (1, .ref (G 3))] := hl
  obtain ⟨Q, hQ⟩ : ∃ Q, Q = MQ below (va_Qi (fun (v9 : Int32) (_ : Unit) => v9 = nI 1) (fun _ t => Wr D G h0 c r o t) (fun q => h0 ≤ q)) ([.ref (G 0), .ref (G 3)] : List Value).toArray s 0 0 (fun q => h0 ≤ q) := ⟨_, rfl⟩
  rw [← hQ]
  have hB := IC_B hI
  have hn := IC_n hI
  have hU := IC_U hI
  have hcan := can_gs hI
  have hp8 : 2 ^ c 20 1 < 2 ^ 31 := Nat.pow_lt_pow_right (by decide) (by omega)
  refine lv_aload_n hx hb dL_areRunning_0 rfl (lv_at hl 0 rfl) ?_
  refine y_calli (va_runV (As := []) (rest := []) ⟨hx, hb, hml, hown, hts⟩ (k_X2_canRun l D G h0 c r o hI) (cwV 0 hts gL_areRunning_X2_canRun rfl rfl rfl (by decide +kernel) ⟨Nat.le_of_ble_eq_true rfl, Nat.le_of_ble_eq_true rfl⟩) ⟨fun a U g mk q => ⟨q.1, Pr_cg q.2⟩, va_recv (ci := 3) (q0 := 0) hK hP rfl (Q_o hRc), fun U hU hW => ⟨rfl, Pr_mk hE hRc hRr hRo hP hD hS hU hW⟩⟩ rfl rfl hl.1 rfl (lv_room (Nat.le_of_ble_eq_true rfl)) dL_areRunning_1 ⟨Nat.le_of_ble_eq_true rfl, Nat.le_of_ble_eq_true rfl⟩) hS (fun v9 _ H locs wl hv9 hRc hRr hRo hP hD hS => ?_)
  refine n_top (y := .int (nI (canC c))) (congrArg Value.int hv9) ?_
  clear hv9 v9
  refine lv_istore_n (lv' := [(2, .int (nI (canC c))), (0, .ref (G 0)), (1, .ref (G 3))]) hx hb dL_areRunning_4 rfl hl (by decide) rfl (fun ls hl => ?_)
  refine lv_iconst (v := nI 1) hx hb dL_areRunning_5 (by decide) ?_
  refine lv_aload_n hx hb dL_areRunning_6 rfl (lv_at hl 1 rfl) ?_
  refine y_calli (va_runV (As := []) (rest := [.int (nI 1)]) ⟨hx, hb, hml, hown, hts⟩ (k_X2_units l D G h0 c r o ) (cwV 0 hts gL_areRunning_X2_units rfl rfl rfl (by decide +kernel) ⟨Nat.le_of_ble_eq_true rfl, Nat.le_of_ble_eq_true rfl⟩) ⟨fun a U g mk q => ⟨q.1, Pr_cg q.2⟩, va_recv (ci := 3) (q0 := 0) hK hP rfl (Q_o hRc), fun U hU hW => ⟨rfl, Pr_mk hE hRc hRr hRo hP hD hS hU hW⟩⟩ rfl rfl hl.1 rfl (lv_room (Nat.le_of_ble_eq_true rfl)) dL_areRunning_7 ⟨Nat.le_of_ble_eq_true rfl, Nat.le_of_ble_eq_true rfl⟩) hS (fun v9 _ H locs wl hv9 hRc hRr hRo hP hD hS => ?_)
  refine n_top (y := .int (nI (c 20 1))) (congrArg Value.int hv9) ?_
  clear hv9 v9
  refine n_bit hx hb dL_areRunning_10 (by omega) ?_
  refine lv_iconst (v := nI 1) hx hb dL_areRunning_11 (by decide) ?_
  refine n_isub hx hb dL_areRunning_12 (by exact Nat.two_pow_pos _) ?_
  refine lv_istore_n (lv' := [(3, .int (nI ((2 ^ (c 20 1)) - 1))), (2, .int (nI (canC c))), (0, .ref (G 0)), (1, .ref (G 3))]) hx hb dL_areRunning_13 rfl hl (by decide) rfl (fun ls hl => ?_)
  refine lv_iconst (v := nI 0) hx hb dL_areRunning_14 (by decide) ?_
  refine lv_istore (lv' := [(4, .int (nI 0)), (3, .int (nI ((2 ^ (c 20 1)) - 1))), (2, .int (nI (canC c))), (0, .ref (G 0)), (1, .ref (G 3))]) hx hb dL_areRunning_15 hl (by decide) rfl (fun ls hl => ?_)
  have L17 : ∀ (d q : Nat), c 20 1 + 1 - q < d → q ≤ c 20 1 + 1 → ∀ (H : Heap) (locs : List Loc) (wl : va_W) (ls : Array Slot), Rc G c wl → Rr G r wl → Ro G o wl → va_P D vwCl wl H → va_D (fun q => h0 ≤ q) wl → va_S (fun q => h0 ≤ q) s.heap H locs → lv_has ls 9 [(4, .int (nI q)), (3, .int (nI (grI c q))), (0, .ref (G 0)), (1, .ref (G 3)), (2, .int (nI (canC c)))] → W p l e (headSpec wsL_areRunning ({ frames := 4, cells := 0, slots := 0, locals := 90 } : Room)).room s m ([.ref (G 0), .ref (G 3)] : List Value).toArray below meth cd H locs 0 0 Q (F0 m 17 ls []) := by
    intro d17
    induction d17 with
    | zero => intro q hd; exact absurd hd (Nat.not_lt_zero _)
    | succ d17 ih17 =>
      intro q hd hi  H locs wl ls hRc hRr hRo hP hD hS hl
      have hg31 : grI c q < 2 ^ 31 := Nat.lt_trans (grI_lt c q) (Nat.pow_lt_pow_right (by decide) (by omega))
      refine lv_iload hx hb dL_areRunning_17 (lv_at hl 0 rfl) ?_
      refine lv_aload_n hx hb dL_areRunning_19 rfl (lv_at hl 2 rfl) ?_
      refine y_calli (va_runV (As := []) (rest := [.int (nI q)]) ⟨hx, hb, hml, hown, hts⟩ (k_X2_units l D G h0 c r o ) (cwV 0 hts gL_areRunning_X2_units rfl rfl rfl (by decide +kernel) ⟨Nat.le_of_ble_eq_true rfl, Nat.le_of_ble_eq_true rfl⟩) ⟨fun a U g mk q => ⟨q.1, Pr_cg q.2⟩, va_recv (ci := 3) (q0 := 0) hK hP rfl (Q_o hRc), fun U hU hW => ⟨rfl, Pr_mk hE hRc hRr hRo hP hD hS hU hW⟩⟩ rfl rfl hl.1 rfl (lv_room (Nat.le_of_ble_eq_true rfl)) dL_areRunning_20 ⟨Nat.le_of_ble_eq_true rfl, Nat.le_of_ble_eq_true rfl⟩) hS (fun v9 _ H locs wl hv9 hRc hRr hRo hP hD hS => ?_)
      refine n_top (y := .int (nI (c 20 1))) (congrArg Value.int hv9) ?_
      clear hv9 v9
      refine n_icmp_gt (tgt := 203) hx hb dL_areRunning_23 (by decide) (by omega) (hB _ _ (by decide)) (fun c_23 => ?_) (fun c_23 => ?_)
      · refine lv_iload_n hx hb dL_areRunning_203 rfl (lv_at hl 4 rfl) ?_
        refine lv_iload_n hx hb dL_areRunning_204 rfl (lv_at hl 1 rfl) ?_
        refine n_icmp_ne (tgt := 212) hx hb dL_areRunning_205 (by decide) (Nat.lt_of_le_of_lt (Nat.le_of_eq hcan) (Nat.lt_trans (grI_lt c _) hp8)) hg31 (fun c_205 => ?_) (fun c_205 => ?_)
        · exfalso; exact c_205 (by rw [show q = c 20 1 + 1 by omega]; exact hcan)
        · refine lv_iconst (v := nI 1) hx hb dL_areRunning_208 (by decide) ?_
          refine lv_goto (tgt := 213) hx hb dL_areRunning_209 (by decide) ?_
          rw [hQ]
          exact W.zret (v := nI 1) (ty := .boolean) hx hb hr (nb_le (by first | exact bN_le _ | decide | omega | assumption)) (fun t ht hW => ⟨⟨_, (), rfl, (show nI 1 = nI 1 from by first | rfl | (apply congrArg nI; omega) | exact congrArg nI (bN_t (by omega)).symm | exact congrArg nI (bN_f (by omega)).symm), Wr_mk hRc hRr hRo hP hD ht⟩, hS.F ht⟩) hS.2.2 dL_areRunning_213
      · refine lv_iconst (v := nI 0) hx hb dL_areRunning_26 (by decide) ?_
        refine lv_istore (lv' := [(5, .int (nI 0)), (4, .int (nI q)), (3, .int (nI (grI c q))), (0, .ref (G 0)), (1, .ref (G 3)), (2, .int (nI (canC c)))]) hx hb dL_areRunning_27 hl (by decide) rfl (fun ls hl => ?_)
        have L29 : ∀ (d i : Nat), c 20 1 - i < d → i ≤ c 20 1 → ∀ (H : Heap) (locs : List Loc) (wl : va_W) (ls : Array Slot), Rc G c wl → Rr G r wl → Ro G o wl → va_P D vwCl wl H → va_D (fun q => h0 ≤ q) wl → va_S (fun q => h0 ≤ q) s.heap H locs → lv_has ls 9 [(5, .int (nI i)), (3, .int (nI (gsI c (grI c q) i))), (0, .ref (G 0)), (1, .ref (G 3)), (2, .int (nI (canC c))), (4, .int (nI q))] → W p l e (headSpec wsL_areRunning ({ frames := 4, cells := 0, slots := 0, locals := 90 } : Room)).room s m ([.ref (G 0), .ref (G 3)] : List Value).toArray below meth cd H locs 0 0 Q (F0 m 29 ls []) := by
          intro d29
          induction d29 with
          | zero => intro i hd; exact absurd hd (Nat.not_lt_zero _)
          | succ d29 ih29 =>
            intro i hd hi  H locs wl ls hRc hRr hRo hP hD hS hl
            have hf31 : (gsI c (grI c q) i) < 2 ^ 31 := Nat.lt_of_le_of_lt (gsI_le _ _ _) hg31
            refine lv_iload hx hb dL_areRunning_29 (lv_at hl 0 rfl) ?_
            refine lv_aload_n hx hb dL_areRunning_31 rfl (lv_at hl 2 rfl) ?_
            refine y_calli (va_runV (As := []) (rest := [.int (nI i)]) ⟨hx, hb, hml, hown, hts⟩ (k_X2_units l D G h0 c r o ) (cwV 0 hts gL_areRunning_X2_units rfl rfl rfl (by decide +kernel) ⟨Nat.le_of_ble_eq_true rfl, Nat.le_of_ble_eq_true rfl⟩) ⟨fun a U g mk q => ⟨q.1, Pr_cg q.2⟩, va_recv (ci := 3) (q0 := 0) hK hP rfl (Q_o hRc), fun U hU hW => ⟨rfl, Pr_mk hE hRc hRr hRo hP hD hS hU hW⟩⟩ rfl rfl hl.1 rfl (lv_room (Nat.le_of_ble_eq_true rfl)) dL_areRunning_32 ⟨Nat.le_of_ble_eq_true rfl, Nat.le_of_ble_eq_true rfl⟩) hS (fun v9 _ H locs wl hv9 hRc hRr hRo hP hD hS => ?_)
            refine n_top (y := .int (nI (c 20 1))) (congrArg Value.int hv9) ?_
            clear hv9 v9
            refine n_icmp_ge (tgt := 197) hx hb dL_areRunning_35 (by decide) (by omega) (hB _ _ (by decide)) (fun c_35 => ?_) (fun c_35 => ?_)
            · refine lv_iinc (v := nI (q + 1)) (lv' := [(4, .int (nI (q + 1))), (5, .int (nI i)), (3, .int (nI (gsI c (grI c q) i))), (0, .ref (G 0)), (1, .ref (G 3)), (2, .int (nI (canC c)))]) hx hb dL_areRunning_197 hl (k := 5) rfl (nI_add q 1) (by decide) rfl (fun ls hl => ?_)
              refine lv_goto (tgt := 17) hx hb dL_areRunning_200 (by decide) ?_
              exact ih17 (q + 1) (by omega) (by omega)   _ _ _ _ hRc hRr hRo hP hD hS (show lv_has ls 9 [(4, .int (nI (q + 1))), (3, .int (nI (grI c (q + 1)))), (0, .ref (G 0)), (1, .ref (G 3)), (2, .int (nI (canC c)))] from by rw [show ((.int (nI (grI c (q + 1))) : Value)) = .int (nI (gsI c (grI c q) i)) from by exact congrArg (fun z => Value.int (nI z)) ((show grI c (q + 1) = gsI c (grI c q) i from by rw [show i = c 20 1 by omega]; rfl))]; exact lv_sub hl [0, 2, 3, 4, 5] rfl)
            · have J38 : (∀ (H : Heap) (locs : List Loc) (wl : va_W), Rc G c wl → Rr G r wl → Ro G o wl → va_P D vwCl wl H → va_D (fun q => h0 ≤ q) wl → va_S (fun q => h0 ≤ q) s.heap H locs → W p l e (headSpec wsL_areRunning ({ frames := 4, cells := 0, slots := 0, locals := 90 } : Room)).room s m ([.ref (G 0), .ref (G 3)] : List Value).toArray below meth cd H locs 0 0 Q (F0 m 73 ls [.int (nI (bN (c 5 i = 0 ∧ c 4 i ≤ c 2 i)))])) → W p l e (headSpec wsL_areRunning ({ frames := 4, cells := 0, slots := 0, locals := 90 } : Room)).room s m ([.ref (G 0), .ref (G 3)] : List Value).toArray below meth cd H locs 0 0 Q (F0 m 38 ls []) := by
                intro hk38
                refine lv_aload_n hx hb dL_areRunning_38 rfl (lv_at hl 3 rfl) ?_
                refine lv_bipush (v := nI 8) hx hb dL_areRunning_39 (by decide) ?_
                refine lv_iload hx hb dL_areRunning_41 (lv_at hl 0 rfl) ?_
                refine n_imul hx hb dL_areRunning_43 ?_
                refine lv_iconst (v := nI 3) hx hb dL_areRunning_44 (by decide) ?_
                refine n_iadd hx hb dL_areRunning_45 ?_
                refine x_iald hx hb hK hP 3 (Q_g hRr) (by first | omega | decide | assumption) (by decide) dL_areRunning_46 (v := nI (r 13 i)) (gV_j _ (k := i) (j := 3) (by decide) (by decide)) ?_
                refine n_if_ne (tgt := 72) hx hb dL_areRunning_47 (by decide) (hBr _ _ (by decide)) (fun c_47 => ?_) (fun c_47 => ?_)
                · refine lv_iconst (v := nI 0) hx hb dL_areRunning_72 (by decide) ?_
                  refine n_top (y := .int (nI (bN (c 5 i = 0 ∧ c 4 i ≤ c 2 i)))) (congrArg Value.int (show nI 0 = nI (bN (c 5 i = 0 ∧ c 4 i ≤ c 2 i)) from by exact congrArg nI (bN_f (by have e13 := h13 i (by omega); have e11 := h11 i (by omega); omega)).symm)) ?_
                  exact hk38 _ _ _ hRc hRr hRo hP hD hS
                · refine lv_aload_n hx hb dL_areRunning_50 rfl (lv_at hl 2 rfl) ?_
                  refine lv_iload hx hb dL_areRunning_51 (lv_at hl 0 rfl) ?_
                  refine y_calli (va_runV (As := [.int (nI i)]) (rest := []) ⟨hx, hb, hml, hown, hts⟩ (k_X2_faults_ok l D G h0 c r o hI i (by first | omega | assumption)) (cwV 1 hts gL_areRunning_X2_faults rfl rfl rfl (by decide +kernel) ⟨Nat.le_of_ble_eq_true rfl, Nat.le_of_ble_eq_true rfl⟩) ⟨fun a U g mk q => ⟨q.1, Pr_cg q.2⟩, va_recv (ci := 3) (q0 := 0) hK hP rfl (Q_o hRc), fun U hU hW => ⟨rfl, Pr_mk hE hRc hRr hRo hP hD hS hU hW⟩⟩ rfl rfl hl.1 rfl (lv_room (Nat.le_of_ble_eq_true rfl)) dL_areRunning_53 ⟨Nat.le_of_ble_eq_true rfl, Nat.le_of_ble_eq_true rfl⟩) hS (fun v9 _ H locs wl hv9 hRc hRr hRo hP hD hS => ?_)
                  refine n_top (y := .int (nI (c 4 i))) (congrArg Value.int hv9) ?_
                  clear hv9 v9
                  refine lv_aload_n hx hb dL_areRunning_56 rfl (lv_at hl 3 rfl) ?_
                  refine lv_bipush (v := nI 8) hx hb dL_areRunning_57 (by decide) ?_
                  refine lv_iload hx hb dL_areRunning_59 (lv_at hl 0 rfl) ?_
                  refine n_imul hx hb dL_areRunning_61 ?_
                  refine lv_iconst (v := nI 1) hx hb dL_areRunning_62 (by decide) ?_
                  refine n_iadd hx hb dL_areRunning_63 ?_
                  refine x_iald hx hb hK hP 3 (Q_g hRr) (by first | omega | decide | assumption) (by decide) dL_areRunning_64 (v := nI (r 11 i)) (gV_j _ (k := i) (j := 1) (by decide) (by decide)) ?_
                  refine n_icmp_gt (tgt := 72) hx hb dL_areRunning_65 (by decide) (hB _ _ (by decide)) (hBr _ _ (by decide)) (fun c_65 => ?_) (fun c_65 => ?_)
                  · refine lv_iconst (v := nI 0) hx hb dL_areRunning_72 (by decide) ?_
                    refine n_top (y := .int (nI (bN (c 5 i = 0 ∧ c 4 i ≤ c 2 i)))) (congrArg Value.int (show nI 0 = nI (bN (c 5 i = 0 ∧ c 4 i ≤ c 2 i)) from by exact congrArg nI (bN_f (by have e13 := h13 i (by omega); have e11 := h11 i (by omega); omega)).symm)) ?_
                    exact hk38 _ _ _ hRc hRr hRo hP hD hS
                  · refine lv_iconst (v := nI 1) hx hb dL_areRunning_68 (by decide) ?_
                    refine lv_goto (tgt := 73) hx hb dL_areRunning_69 (by decide) ?_
                    refine n_top (y := .int (nI (bN (c 5 i = 0 ∧ c 4 i ≤ c 2 i)))) (congrArg Value.int (show nI 1 = nI (bN (c 5 i = 0 ∧ c 4 i ≤ c 2 i)) from by exact congrArg nI (bN_t (by have e13 := h13 i (by omega); have e11 := h11 i (by omega); omega)).symm)) ?_
                    exact hk38 _ _ _ hRc hRr hRo hP hD hS
              refine J38 (fun H locs wl hRc hRr hRo hP hD hS => ?_)
              refine lv_istore (lv' := [(6, .int (nI (bN (c 5 i = 0 ∧ c 4 i ≤ c 2 i)))), (5, .int (nI i)), (3, .int (nI (gsI c (grI c q) i))), (0, .ref (G 0)), (1, .ref (G 3)), (2, .int (nI (canC c))), (4, .int (nI q))]) hx hb dL_areRunning_73 hl (by decide) rfl (fun ls hl => ?_)
              refine lv_iconst (v := nI 0) hx hb dL_areRunning_75 (by decide) ?_
              refine lv_istore (lv' := [(7, .int (nI 0)), (6, .int (nI (bN (c 5 i = 0 ∧ c 4 i ≤ c 2 i)))), (5, .int (nI i)), (3, .int (nI (gsI c (grI c q) i))), (0, .ref (G 0)), (1, .ref (G 3)), (2, .int (nI (canC c))), (4, .int (nI q))]) hx hb dL_areRunning_76 hl (by decide) rfl (fun ls hl => ?_)
              have L78 : ∀ (d j : Nat), c 20 1 - j < d → j ≤ c 20 1 → ∀ (H : Heap) (locs : List Loc) (wl : va_W) (ls : Array Slot), Rc G c wl → Rr G r wl → Ro G o wl → va_P D vwCl wl H → va_D (fun q => h0 ≤ q) wl → va_S (fun q => h0 ≤ q) s.heap H locs → lv_has ls 9 [(7, .int (nI j)), (6, .int (nI (bN (gsA c (gsI c (grI c q) i) i j)))), (0, .ref (G 0)), (1, .ref (G 3)), (2, .int (nI (canC c))), (3, .int (nI (gsI c (grI c q) i))), (4, .int (nI q)), (5, .int (nI i))] → W p l e (headSpec wsL_areRunning ({ frames := 4, cells := 0, slots := 0, locals := 90 } : Room)).room s m ([.ref (G 0), .ref (G 3)] : List Value).toArray below meth cd H locs 0 0 Q (F0 m 78 ls []) := by
                intro d78
                induction d78 with
                | zero => intro j hd; exact absurd hd (Nat.not_lt_zero _)
                | succ d78 ih78 =>
                  intro j hd hi  H locs wl ls hRc hRr hRo hP hD hS hl
                  refine lv_iload hx hb dL_areRunning_78 (lv_at hl 0 rfl) ?_
                  refine lv_aload_n hx hb dL_areRunning_80 rfl (lv_at hl 2 rfl) ?_
                  refine y_calli (va_runV (As := []) (rest := [.int (nI j)]) ⟨hx, hb, hml, hown, hts⟩ (k_X2_units l D G h0 c r o ) (cwV 0 hts gL_areRunning_X2_units rfl rfl rfl (by decide +kernel) ⟨Nat.le_of_ble_eq_true rfl, Nat.le_of_ble_eq_true rfl⟩) ⟨fun a U g mk q => ⟨q.1, Pr_cg q.2⟩, va_recv (ci := 3) (q0 := 0) hK hP rfl (Q_o hRc), fun U hU hW => ⟨rfl, Pr_mk hE hRc hRr hRo hP hD hS hU hW⟩⟩ rfl rfl hl.1 rfl (lv_room (Nat.le_of_ble_eq_true rfl)) dL_areRunning_81 ⟨Nat.le_of_ble_eq_true rfl, Nat.le_of_ble_eq_true rfl⟩) hS (fun v9 _ H locs wl hv9 hRc hRr hRo hP hD hS => ?_)
                  refine n_top (y := .int (nI (c 20 1))) (congrArg Value.int hv9) ?_
                  clear hv9 v9
                  refine n_icmp_ge (tgt := 173) hx hb dL_areRunning_84 (by decide) (by omega) (hB _ _ (by decide)) (fun c_84 => ?_) (fun c_84 => ?_)
                  · refine lv_iload_n hx hb dL_areRunning_173 rfl (lv_at hl 5 rfl) ?_
                    refine lv_iload hx hb dL_areRunning_174 (lv_at hl 1 rfl) ?_
                    refine n_ifb_eq (tgt := 183) hx hb dL_areRunning_176 (by decide) (fun c_176 => ?_) (fun c_176 => ?_)
                    · refine lv_iconst (v := nI 1) hx hb dL_areRunning_183 (by decide) ?_
                      refine lv_iload hx hb dL_areRunning_184 (lv_at hl 7 rfl) ?_
                      refine n_bit hx hb dL_areRunning_186 (by omega) ?_
                      refine lv_iconst (v := (-1)) hx hb dL_areRunning_187 (by decide) ?_
                      refine lv_ixor hx hb dL_areRunning_188 ?_
                      refine n_nand hx hb dL_areRunning_189 ?_
                      refine lv_istore_n (lv' := [(3, .int (nI (anN (gsI c (grI c q) i) (2 ^ i)))), (7, .int (nI j)), (6, .int (nI (bN (gsA c (gsI c (grI c q) i) i j)))), (0, .ref (G 0)), (1, .ref (G 3)), (2, .int (nI (canC c))), (4, .int (nI q)), (5, .int (nI i))]) hx hb dL_areRunning_190 rfl hl (by decide) rfl (fun ls hl => ?_)
                      refine lv_iinc (v := nI (i + 1)) (lv' := [(5, .int (nI (i + 1))), (3, .int (nI (anN (gsI c (grI c q) i) (2 ^ i)))), (7, .int (nI j)), (6, .int (nI (bN (gsA c (gsI c (grI c q) i) i j)))), (0, .ref (G 0)), (1, .ref (G 3)), (2, .int (nI (canC c))), (4, .int (nI q))]) hx hb dL_areRunning_191 hl (k := 7) rfl (nI_add i 1) (by decide) rfl (fun ls hl => ?_)
                      refine lv_goto (tgt := 29) hx hb dL_areRunning_194 (by decide) ?_
                      exact ih29 (i + 1) (by omega) (by omega)   _ _ _ _ hRc hRr hRo hP hD hS (show lv_has ls 9 [(5, .int (nI (i + 1))), (3, .int (nI (gsI c (grI c q) (i + 1)))), (0, .ref (G 0)), (1, .ref (G 3)), (2, .int (nI (canC c))), (4, .int (nI q))] from by rw [show ((.int (nI (gsI c (grI c q) (i + 1))) : Value)) = .int (nI (anN (gsI c (grI c q) i) (2 ^ i))) from by exact congrArg (fun z => Value.int (nI z)) ((gsI_f (show ¬ gsA c _ i (c 20 1) from by rw [show c 20 1 = j by omega]; exact c_176)))]; exact lv_sub hl [0, 1, 4, 5, 6, 7] rfl)
                    · refine lv_iconst (v := (-1)) hx hb dL_areRunning_179 (by decide) ?_
                      refine lv_goto (tgt := 189) hx hb dL_areRunning_180 (by decide) ?_
                      refine n_andm1 hx hb dL_areRunning_189 ?_
                      refine lv_istore_n (lv' := [(3, .int (nI (gsI c (grI c q) i))), (7, .int (nI j)), (6, .int (nI (bN (gsA c (gsI c (grI c q) i) i j)))), (0, .ref (G 0)), (1, .ref (G 3)), (2, .int (nI (canC c))), (4, .int (nI q)), (5, .int (nI i))]) hx hb dL_areRunning_190 rfl hl (by decide) rfl (fun ls hl => ?_)
                      refine lv_iinc (v := nI (i + 1)) (lv' := [(5, .int (nI (i + 1))), (3, .int (nI (gsI c (grI c q) i))), (7, .int (nI j)), (6, .int (nI (bN (gsA c (gsI c (grI c q) i) i j)))), (0, .ref (G 0)), (1, .ref (G 3)), (2, .int (nI (canC c))), (4, .int (nI q))]) hx hb dL_areRunning_191 hl (k := 7) rfl (nI_add i 1) (by decide) rfl (fun ls hl => ?_)
                      refine lv_goto (tgt := 29) hx hb dL_areRunning_194 (by decide) ?_
                      exact ih29 (i + 1) (by omega) (by omega)   _ _ _ _ hRc hRr hRo hP hD hS (show lv_has ls 9 [(5, .int (nI (i + 1))), (3, .int (nI (gsI c (grI c q) (i + 1)))), (0, .ref (G 0)), (1, .ref (G 3)), (2, .int (nI (canC c))), (4, .int (nI q))] from by rw [show ((.int (nI (gsI c (grI c q) (i + 1))) : Value)) = .int (nI (gsI c (grI c q) i)) from by exact congrArg (fun z => Value.int (nI z)) ((gsI_t (show gsA c _ i (c 20 1) from by rw [show c 20 1 = j by omega]; exact c_176)))]; exact lv_sub hl [0, 1, 4, 5, 6, 7] rfl)
                  · have J87 : (∀ (H : Heap) (locs : List Loc) (wl : va_W), Rc G c wl → Rr G r wl → Ro G o wl → va_P D vwCl wl H → va_D (fun q => h0 ≤ q) wl → va_S (fun q => h0 ≤ q) s.heap H locs → W p l e (headSpec wsL_areRunning ({ frames := 4, cells := 0, slots := 0, locals := 90 } : Room)).room s m ([.ref (G 0), .ref (G 3)] : List Value).toArray below meth cd H locs 0 0 Q (F0 m 131 ls [.int (nI (bN (Nat.testBit (gsI c (grI c q) i) j = true ∨ (c 6 j ≠ 0 ∧ Nat.testBit (gsI c (grI c q) i) (c 6 j - 1) = true))))])) → W p l e (headSpec wsL_areRunning ({ frames := 4, cells := 0, slots := 0, locals := 90 } : Room)).room s m ([.ref (G 0), .ref (G 3)] : List Value).toArray below meth cd H locs 0 0 Q (F0 m 87 ls []) := by
                      intro hk87
                      refine lv_iload_n hx hb dL_areRunning_87 rfl (lv_at hl 5 rfl) ?_
                      refine lv_iload hx hb dL_areRunning_88 (lv_at hl 0 rfl) ?_
                      refine n_ishr hx hb dL_areRunning_90 hf31 (by omega) ?_
                      refine lv_iconst (v := nI 1) hx hb dL_areRunning_91 (by decide) ?_
                      refine n_bitt hx hb dL_areRunning_92 ?_
                      refine lv_iconst (v := nI 1) hx hb dL_areRunning_93 (by decide) ?_
                      refine n_icmpb_eq (tgt := 126) hx hb dL_areRunning_94 (by decide) (fun c_94 => ?_) (fun c_94 => ?_)
                      · refine lv_iconst (v := nI 1) hx hb dL_areRunning_126 (by decide) ?_
                        refine lv_goto (tgt := 131) hx hb dL_areRunning_127 (by decide) ?_
                        refine n_top (y := .int (nI (bN (Nat.testBit (gsI c (grI c q) i) j = true ∨ (c 6 j ≠ 0 ∧ Nat.testBit (gsI c (grI c q) i) (c 6 j - 1) = true))))) (congrArg Value.int (show nI 1 = nI (bN (Nat.testBit (gsI c (grI c q) i) j = true ∨ (c 6 j ≠ 0 ∧ Nat.testBit (gsI c (grI c q) i) (c 6 j - 1) = true))) from by exact congrArg nI (bN_t (Or.inl c_94)).symm)) ?_
                        exact hk87 _ _ _ hRc hRr hRo hP hD hS
                      · refine lv_aload_n hx hb dL_areRunning_97 rfl (lv_at hl 3 rfl) ?_
                        refine lv_bipush (v := nI 8) hx hb dL_areRunning_98 (by decide) ?_
                        refine lv_iload hx hb dL_areRunning_100 (lv_at hl 0 rfl) ?_
                        refine n_imul hx hb dL_areRunning_102 ?_
                        refine lv_iconst (v := nI 2) hx hb dL_areRunning_103 (by decide) ?_
                        refine n_iadd hx hb dL_areRunning_104 ?_
                        refine x_iald hx hb hK hP 3 (Q_g hRr) (by first | omega | decide | assumption) (by decide) dL_areRunning_105 (v := siI (r 12 j)) (gV_2 _ j) ?_
                        rcases (show r 12 j = 0 ∨ ∃ w, r 12 j = w + 1 from by cases h9 : r 12 j with | zero => exact Or.inl rfl | succ w => exact Or.inr ⟨w, rfl⟩) with hz_106 | ⟨w_106, hz_106⟩
                        · have e6 := (h12 j (by omega)).symm.trans hz_106
                          refine n_top (y := .int (-1)) (congrArg Value.int (by rw [hz_106]; exact siI_0)) ?_
                          refine lv_if_lt (tgt := 130) hx hb dL_areRunning_106 (by decide) (fun c_106 => ?_) (fun c_106 => absurd c_106 (by decide))
                          refine lv_iconst (v := nI 0) hx hb dL_areRunning_130 (by decide) ?_
                          refine n_top (y := .int (nI (bN (Nat.testBit (gsI c (grI c q) i) j = true ∨ (c 6 j ≠ 0 ∧ Nat.testBit (gsI c (grI c q) i) (c 6 j - 1) = true))))) (congrArg Value.int (show nI 0 = nI (bN (Nat.testBit (gsI c (grI c q) i) j = true ∨ (c 6 j ≠ 0 ∧ Nat.testBit (gsI c (grI c q) i) (c 6 j - 1) = true))) from by exact congrArg nI (bN_f (fun q => q.elim c_94 (fun q => by rw [e6] at q; exact absurd rfl q.1))).symm)) ?_
                          exact hk87 _ _ _ hRc hRr hRo hP hD hS
                        · have e6 := (h12 j (by omega)).symm.trans hz_106
                          have hw_w_106 : w_106 < c 20 1 := by have h9 := hI.2.2.1 j; omega
                          refine n_top (y := .int (nI w_106)) (congrArg Value.int (by rw [hz_106]; exact siI_s _)) ?_
                          refine lv_if_lt (tgt := 130) hx hb dL_areRunning_106 (by decide) (fun c_106 => absurd c_106 (nI_pos (show w_106 < 2 ^ 31 from (by omega)))) (fun c_106 => ?_)
                          refine lv_iload_n hx hb dL_areRunning_109 rfl (lv_at hl 5 rfl) ?_
                          refine lv_aload_n hx hb dL_areRunning_110 rfl (lv_at hl 3 rfl) ?_
                          refine lv_bipush (v := nI 8) hx hb dL_areRunning_111 (by decide) ?_
                          refine lv_iload hx hb dL_areRunning_113 (lv_at hl 0 rfl) ?_
                          refine n_imul hx hb dL_areRunning_115 ?_
                          refine lv_iconst (v := nI 2) hx hb dL_areRunning_116 (by decide) ?_
                          refine n_iadd hx hb dL_areRunning_117 ?_
                          refine x_iald hx hb hK hP 3 (Q_g hRr) (by first | omega | decide | assumption) (by decide) dL_areRunning_118 (v := siI (r 12 j)) (gV_2 _ j) ?_
                          refine n_top (y := .int (nI w_106)) (congrArg Value.int (by rw [hz_106]; exact siI_s _)) ?_
                          refine n_ishr hx hb dL_areRunning_119 hf31 (by omega) ?_
                          refine lv_iconst (v := nI 1) hx hb dL_areRunning_120 (by decide) ?_
                          refine n_bitt hx hb dL_areRunning_121 ?_
                          refine lv_iconst (v := nI 1) hx hb dL_areRunning_122 (by decide) ?_
                          refine n_icmpb_ne (tgt := 130) hx hb dL_areRunning_123 (by decide) (fun c_123 => ?_) (fun c_123 => ?_)
                          · refine lv_iconst (v := nI 0) hx hb dL_areRunning_130 (by decide) ?_
                            refine n_top (y := .int (nI (bN (Nat.testBit (gsI c (grI c q) i) j = true ∨ (c 6 j ≠ 0 ∧ Nat.testBit (gsI c (grI c q) i) (c 6 j - 1) = true))))) (congrArg Value.int (show nI 0 = nI (bN (Nat.testBit (gsI c (grI c q) i) j = true ∨ (c 6 j ≠ 0 ∧ Nat.testBit (gsI c (grI c q) i) (c 6 j - 1) = true))) from by exact congrArg nI (bN_f (fun q => q.elim c_94 (fun q => by rw [e6, Nat.add_sub_cancel] at q; exact c_123 q.2))).symm)) ?_
                            exact hk87 _ _ _ hRc hRr hRo hP hD hS
                          · refine lv_iconst (v := nI 1) hx hb dL_areRunning_126 (by decide) ?_
                            refine lv_goto (tgt := 131) hx hb dL_areRunning_127 (by decide) ?_
                            refine n_top (y := .int (nI (bN (Nat.testBit (gsI c (grI c q) i) j = true ∨ (c 6 j ≠ 0 ∧ Nat.testBit (gsI c (grI c q) i) (c 6 j - 1) = true))))) (congrArg Value.int (show nI 1 = nI (bN (Nat.testBit (gsI c (grI c q) i) j = true ∨ (c 6 j ≠ 0 ∧ Nat.testBit (gsI c (grI c q) i) (c 6 j - 1) = true))) from by exact congrArg nI (bN_t (Or.inr ⟨by rw [e6]; omega, by rw [e6, Nat.add_sub_cancel]; exact c_123⟩)).symm)) ?_
                            exact hk87 _ _ _ hRc hRr hRo hP hD hS
                    refine J87 (fun H locs wl hRc hRr hRo hP hD hS => ?_)
                    refine lv_istore (lv' := [(8, .int (nI (bN (Nat.testBit (gsI c (grI c q) i) j = true ∨ (c 6 j ≠ 0 ∧ Nat.testBit (gsI c (grI c q) i) (c 6 j - 1) = true))))), (7, .int (nI j)), (6, .int (nI (bN (gsA c (gsI c (grI c q) i) i j)))), (0, .ref (G 0)), (1, .ref (G 3)), (2, .int (nI (canC c))), (3, .int (nI (gsI c (grI c q) i))), (4, .int (nI q)), (5, .int (nI i))]) hx hb dL_areRunning_131 hl (by decide) rfl (fun ls hl => ?_)
                    have J133 : (∀ (H : Heap) (locs : List Loc) (wl : va_W), Rc G c wl → Rr G r wl → Ro G o wl → va_P D vwCl wl H → va_D (fun q => h0 ≤ q) wl → va_S (fun q => h0 ≤ q) s.heap H locs → W p l e (headSpec wsL_areRunning ({ frames := 4, cells := 0, slots := 0, locals := 90 } : Room)).room s m ([.ref (G 0), .ref (G 3)] : List Value).toArray below meth cd H locs 0 0 Q (F0 m 165 ls [.int (nI (bN (gsA c (gsI c (grI c q) i) i (j + 1))))])) → W p l e (headSpec wsL_areRunning ({ frames := 4, cells := 0, slots := 0, locals := 90 } : Room)).room s m ([.ref (G 0), .ref (G 3)] : List Value).toArray below meth cd H locs 0 0 Q (F0 m 133 ls []) := by
                      intro hk133
                      have e14 := h14 i (by omega)
                      refine lv_iload hx hb dL_areRunning_133 (lv_at hl 2 rfl) ?_
                      refine n_ifb_eq (tgt := 164) hx hb dL_areRunning_135 (by decide) (fun c_135 => ?_) (fun c_135 => ?_)
                      · refine lv_iconst (v := nI 0) hx hb dL_areRunning_164 (by decide) ?_
                        refine n_top (y := .int (nI (bN (gsA c (gsI c (grI c q) i) i (j + 1))))) (congrArg Value.int (show nI 0 = nI (bN (gsA c (gsI c (grI c q) i) i (j + 1))) from by exact congrArg nI (bN_f (fun z => c_135 (gsA_o z))).symm)) ?_
                        exact hk133 _ _ _ hRc hRr hRo hP hD hS
                      · refine lv_aload_n hx hb dL_areRunning_138 rfl (lv_at hl 4 rfl) ?_
                        refine lv_bipush (v := nI 8) hx hb dL_areRunning_139 (by decide) ?_
                        refine lv_iload hx hb dL_areRunning_141 (lv_at hl 8 rfl) ?_
                        refine n_imul hx hb dL_areRunning_143 ?_
                        refine lv_iconst (v := nI 4) hx hb dL_areRunning_144 (by decide) ?_
                        refine n_iadd hx hb dL_areRunning_145 ?_
                        refine x_iald hx hb hK hP 3 (Q_g hRr) (by first | omega | decide | assumption) (by decide) dL_areRunning_146 (v := nI (r 14 i)) (gV_j _ (k := i) (j := 4) (by decide) (by decide)) ?_
                        refine lv_iload hx hb dL_areRunning_147 (lv_at hl 1 rfl) ?_
                        refine n_ishr hx hb dL_areRunning_149 (hBr _ _ (by decide)) (by omega) ?_
                        refine lv_iconst (v := nI 1) hx hb dL_areRunning_150 (by decide) ?_
                        refine n_bitt hx hb dL_areRunning_151 ?_
                        refine n_ifb_eq (tgt := 160) hx hb dL_areRunning_152 (by decide) (fun c_152 => ?_) (fun c_152 => ?_)
                        · refine lv_iconst (v := nI 1) hx hb dL_areRunning_160 (by decide) ?_
                          refine lv_goto (tgt := 165) hx hb dL_areRunning_161 (by decide) ?_
                          refine n_top (y := .int (nI (bN (gsA c (gsI c (grI c q) i) i (j + 1))))) (congrArg Value.int (show nI 1 = nI (bN (gsA c (gsI c (grI c q) i) i (j + 1))) from by exact congrArg nI (bN_t (gsA_t c_135 (fun z => absurd (by rw [e14]; exact z) c_152))).symm)) ?_
                          exact hk133 _ _ _ hRc hRr hRo hP hD hS
                        · refine lv_iload hx hb dL_areRunning_155 (lv_at hl 0 rfl) ?_
                          refine n_ifb_eq (tgt := 164) hx hb dL_areRunning_157 (by decide) (fun c_157 => ?_) (fun c_157 => ?_)
                          · refine lv_iconst (v := nI 0) hx hb dL_areRunning_164 (by decide) ?_
                            refine n_top (y := .int (nI (bN (gsA c (gsI c (grI c q) i) i (j + 1))))) (congrArg Value.int (show nI 0 = nI (bN (gsA c (gsI c (grI c q) i) i (j + 1))) from by exact congrArg nI (bN_f (fun z => c_157 (gsA_e z (by rw [← e14]; exact c_152)))).symm)) ?_
                            exact hk133 _ _ _ hRc hRr hRo hP hD hS
                          · refine lv_iconst (v := nI 1) hx hb dL_areRunning_160 (by decide) ?_
                            refine lv_goto (tgt := 165) hx hb dL_areRunning_161 (by decide) ?_
                            refine n_top (y := .int (nI (bN (gsA c (gsI c (grI c q) i) i (j + 1))))) (congrArg Value.int (show nI 1 = nI (bN (gsA c (gsI c (grI c q) i) i (j + 1))) from by exact congrArg nI (bN_t (gsA_t c_135 (fun _ => c_157))).symm)) ?_
                            exact hk133 _ _ _ hRc hRr hRo hP hD hS
                    refine J133 (fun H locs wl hRc hRr hRo hP hD hS => ?_)
                    refine lv_istore (lv' := [(6, .int (nI (bN (gsA c (gsI c (grI c q) i) i (j + 1))))), (8, .int (nI (bN (Nat.testBit (gsI c (grI c q) i) j = true ∨ (c 6 j ≠ 0 ∧ Nat.testBit (gsI c (grI c q) i) (c 6 j - 1) = true))))), (7, .int (nI j)), (0, .ref (G 0)), (1, .ref (G 3)), (2, .int (nI (canC c))), (3, .int (nI (gsI c (grI c q) i))), (4, .int (nI q)), (5, .int (nI i))]) hx hb dL_areRunning_165 hl (by decide) rfl (fun ls hl => ?_)
                    refine lv_iinc (v := nI (j + 1)) (lv' := [(7, .int (nI (j + 1))), (6, .int (nI (bN (gsA c (gsI c (grI c q) i) i (j + 1))))), (8, .int (nI (bN (Nat.testBit (gsI c (grI c q) i) j = true ∨ (c 6 j ≠ 0 ∧ Nat.testBit (gsI c (grI c q) i) (c 6 j - 1) = true))))), (0, .ref (G 0)), (1, .ref (G 3)), (2, .int (nI (canC c))), (3, .int (nI (gsI c (grI c q) i))), (4, .int (nI q)), (5, .int (nI i))]) hx hb dL_areRunning_167 hl (k := 2) rfl (nI_add j 1) (by decide) rfl (fun ls hl => ?_)
                    refine lv_goto (tgt := 78) hx hb dL_areRunning_170 (by decide) ?_
                    exact ih78 (j + 1) (by omega) (by omega)   _ _ _ _ hRc hRr hRo hP hD hS (lv_sub hl [0, 1, 3, 4, 5, 6, 7, 8] rfl)
              exact L78 _ 0 (Nat.lt_succ_self _) (by omega)   _ _ _ _ hRc hRr hRo hP hD hS (show lv_has ls 9 [(7, .int (nI 0)), (6, .int (nI (bN (gsA c (gsI c (grI c q) i) i 0)))), (0, .ref (G 0)), (1, .ref (G 3)), (2, .int (nI (canC c))), (3, .int (nI (gsI c (grI c q) i))), (4, .int (nI q)), (5, .int (nI i))] from by rw [show ((.int (nI (bN (gsA c (gsI c (grI c q) i) i 0))) : Value)) = .int (nI (bN (c 5 i = 0 ∧ c 4 i ≤ c 2 i))) from by exact congrArg (fun z => Value.int (nI z)) (bN_c ⟨fun z => z.1, fun z => ⟨z, fun v hv => absurd hv (Nat.not_lt_zero v)⟩⟩)]; exact lv_sub hl [0, 1, 4, 5, 6, 3, 7, 2] rfl)
        exact L29 _ 0 (Nat.lt_succ_self _) (by omega)   _ _ _ _ hRc hRr hRo hP hD hS (show lv_has ls 9 [(5, .int (nI 0)), (3, .int (nI (gsI c (grI c q) 0))), (0, .ref (G 0)), (1, .ref (G 3)), (2, .int (nI (canC c))), (4, .int (nI q))] from by rw [show ((.int (nI (gsI c (grI c q) 0)) : Value)) = .int (nI (grI c q)) from by rfl]; exact lv_sub hl [0, 2, 3, 4, 5, 1] rfl)
  exact L17 _ 0 (Nat.lt_succ_self _) (by omega)   _ _ _ _ hRc hRr hRo hP hD hS (show lv_has ls 9 [(4, .int (nI 0)), (3, .int (nI (grI c 0))), (0, .ref (G 0)), (1, .ref (G 3)), (2, .int (nI (canC c)))] from by rw [show ((.int (nI (grI c 0)) : Value)) = .int (nI ((2 ^ (c 20 1)) - 1)) from by rfl]; exact lv_sub hl [0, 1, 3, 4, 2] rfl)
set_option maxHeartbeats 4000000 in
set_option maxRecDepth 100000 in
theorem k_L_isReached (l : Launch) (D : va_G) (G : Nat → Nat) (h0 : Nat) (c r : Nat → Nat → Nat) (o : Nat) (n a b : Nat) (hn : n ≤ 8) (ha : a < n) (hb2 : b < n) (h14 : ∀ u, u < n → r 14 u < 2 ^ n) (hBr : BR r) : Met l yL_isReached wsL_isReached ({ frames := 0, cells := 0, slots := 0, locals := 0 } : Room) (va_Pc [.ref (G 3), .ref (G 4), .int (nI n), .int (nI a), .int (nI b)] (fun U => Pr D G h0 c r o U)) (va_Qi (fun (v9 : Int32) (_ : Unit) => v9 = nI (bN (Rch (eC (cL r n) 1) a b))) (fun _ t => Wr D G h0 c r o t) (fun q => h0 ≤ q)) 0 0 (fun q => h0 ≤ q) := by
  refine Met.ofW (cc := cL_isReached) (maxL := 9) (ret := (some .boolean)) (by decide) rfl ?_
  intro p e s m args below meth cd s₁ B hml hv
  obtain ⟨rfl, hE, wl, hRc, hRr, hRo, hP, hD⟩ := hv
  have hx := B.exec
  have hb := B.bytes
  have hr := B.returns
  have hts := atoms_spec (ws := wsL_isReached) B.pre
  have hown : s.vm.findClass RL = some m.cls := findClass_of_methodNamed B.named
  have hlocks := B.notSynchronized
  have hK := hE.2.1
  have hS : va_S (fun q => h0 ≤ q) s.heap s.heap [] := va_S.rf
  have hl := lv_entry ([.ref (G 3), .ref (G 4), .int (nI n), .int (nI a), .int (nI b)]) (n := 9) (Nat.le_of_ble_eq_true rfl)
  rw [lg_entry_eq]
  generalize (lg_sl ([.ref (G 3), .ref (G 4), .int (nI n), .int (nI a), .int (nI b)]) ++ List.replicate (9 - (lg_sl ([.ref (G 3), .ref (G 4), .int (nI n), .int (nI a), .int (nI b)])).length) Slot.unset).toArray = ls at hl ⊢
  have hl : lv_has ls 9 [(0, .ref (G 3)), (1, .ref (G 4)), (2, .int (nI n)), (3, .int (nI a)), (4, .int (nI b))] := hl
  obtain ⟨Q, hQ⟩ : ∃ Q, Q = MQ below (va_Qi (fun (v9 : Int32) (_ : Unit) => v9 = nI (bN (Rch (eC (cL r n) 1) a b))) (fun _ t => Wr D G h0 c r o t) (fun q => h0 ≤ q)) ([.ref (G 3), .ref (G 4), .int (nI n), .int (nI a), .int (nI b)] : List Value).toArray s 0 0 (fun q => h0 ≤ q) := ⟨_, rfl⟩
  rw [← hQ]
  have h7 := cL_7 h14
  have h8 := cL_8 r n
  have e20 : (cL r n) 20 1 = n := rfl
  have hp8 : 2 ^ n < 2 ^ 31 := Nat.pow_lt_pow_right (by decide) (by omega)
  refine lv_iconst (v := nI 1) hx hb dL_isReached_0 (by decide) ?_
  refine lv_iload_n hx hb dL_isReached_1 rfl (lv_at hl 3 rfl) ?_
  refine n_bit hx hb dL_isReached_2 (by omega) ?_
  refine lv_istore (lv' := [(5, .int (nI (2 ^ a))), (0, .ref (G 3)), (1, .ref (G 4)), (2, .int (nI n)), (3, .int (nI a)), (4, .int (nI b))]) hx hb dL_isReached_3 hl (by decide) rfl (fun ls hl => ?_)
  refine lv_iconst (v := nI 0) hx hb dL_isReached_5 (by decide) ?_
  refine lv_istore (lv' := [(6, .int (nI 0)), (5, .int (nI (2 ^ a))), (0, .ref (G 3)), (1, .ref (G 4)), (2, .int (nI n)), (3, .int (nI a)), (4, .int (nI b))]) hx hb dL_isReached_6 hl (by decide) rfl (fun ls hl => ?_)
  have L8 : ∀ (d t : Nat), n + 1 - t < d → t ≤ n + 1 → ∀ (H : Heap) (locs : List Loc) (wl : va_W) (ls : Array Slot), Rc G c wl → Rr G r wl → Ro G o wl → va_P D vwCl wl H → va_D (fun q => h0 ≤ q) wl → va_S (fun q => h0 ≤ q) s.heap H locs → lv_has ls 9 [(5, .int (nI (rdI (cL r n) 1 a t))), (6, .int (nI (rdB (cL r n) 1 a t))), (0, .ref (G 3)), (1, .ref (G 4)), (2, .int (nI n)), (3, .int (nI a)), (4, .int (nI b))] → W p l e (headSpec wsL_isReached ({ frames := 0, cells := 0, slots := 0, locals := 0 } : Room)).room s m ([.ref (G 3), .ref (G 4), .int (nI n), .int (nI a), .int (nI b)] : List Value).toArray below meth cd H locs 0 0 Q (F0 m 8 ls []) := by
    intro d8
    induction d8 with
    | zero => intro t hd; exact absurd hd (Nat.not_lt_zero _)
    | succ d8 ih8 =>
      intro t hd hi  H locs wl ls hRc hRr hRo hP hD hS hl
      have hrd : (rdI (cL r n) 1 a t) < 2 ^ 31 := Nat.lt_trans (rdI_lt h7 h8 ha t) hp8
      have hrb : rdB (cL r n) 1 a t < 2 ^ 31 := Nat.lt_trans (rdB_lt h7 h8 ha t) hp8
      refine lv_iload hx hb dL_isReached_8 (lv_at hl 1 rfl) ?_
      refine lv_iload hx hb dL_isReached_10 (lv_at hl 0 rfl) ?_
      refine n_icmp_eq (tgt := 119) hx hb dL_isReached_12 (by decide) hrb hrd (fun c_12 => ?_) (fun c_12 => ?_)
      · refine lv_iload hx hb dL_isReached_119 (lv_at hl 0 rfl) ?_
        refine lv_iload hx hb dL_isReached_121 (lv_at hl 6 rfl) ?_
        refine n_ishr hx hb dL_isReached_123 hrd (by omega) ?_
        refine lv_iconst (v := nI 1) hx hb dL_isReached_124 (by decide) ?_
        refine n_bitt hx hb dL_isReached_125 ?_
        refine lv_iconst (v := nI 1) hx hb dL_isReached_126 (by decide) ?_
        refine n_icmpb_ne (tgt := 134) hx hb dL_isReached_127 (by decide) (fun c_127 => ?_) (fun c_127 => ?_)
        · refine lv_iconst (v := nI 0) hx hb dL_isReached_134 (by decide) ?_
          rw [hQ]
          exact W.zret (v := nI 0) (ty := .boolean) hx hb hr (nb_le (by first | exact bN_le _ | decide | omega | assumption)) (fun t ht hW => ⟨⟨_, (), rfl, (show nI 0 = nI (bN (Rch (eC (cL r n) 1) a b)) from by exact congrArg nI (bN_f (fun z => c_127 ((reach_fin h7 h8 ha (Or.inr c_12.symm)).mpr z))).symm), Wr_mk hRc hRr hRo hP hD ht⟩, hS.F ht⟩) hS.2.2 dL_isReached_135
        · refine lv_iconst (v := nI 1) hx hb dL_isReached_130 (by decide) ?_
          refine lv_goto (tgt := 135) hx hb dL_isReached_131 (by decide) ?_
          rw [hQ]
          exact W.zret (v := nI 1) (ty := .boolean) hx hb hr (nb_le (by first | exact bN_le _ | decide | omega | assumption)) (fun t ht hW => ⟨⟨_, (), rfl, (show nI 1 = nI (bN (Rch (eC (cL r n) 1) a b)) from by exact congrArg nI (bN_t ((reach_fin h7 h8 ha (Or.inr c_12.symm)).mp c_127)).symm), Wr_mk hRc hRr hRo hP hD ht⟩, hS.F ht⟩) hS.2.2 dL_isReached_135
      · refine lv_iload hx hb dL_isReached_15 (lv_at hl 0 rfl) ?_
        refine lv_istore (lv' := [(6, .int (nI (rdI (cL r n) 1 a t))), (5, .int (nI (rdI (cL r n) 1 a t))), (0, .ref (G 3)), (1, .ref (G 4)), (2, .int (nI n)), (3, .int (nI a)), (4, .int (nI b))]) hx hb dL_isReached_17 hl (by decide) rfl (fun ls hl => ?_)
        refine lv_iconst (v := nI 0) hx hb dL_isReached_19 (by decide) ?_
        refine lv_istore (lv' := [(7, .int (nI 0)), (6, .int (nI (rdI (cL r n) 1 a t))), (5, .int (nI (rdI (cL r n) 1 a t))), (0, .ref (G 3)), (1, .ref (G 4)), (2, .int (nI n)), (3, .int (nI a)), (4, .int (nI b))]) hx hb dL_isReached_20 hl (by decide) rfl (fun ls hl => ?_)
        have L22 : ∀ (d i : Nat), n - i < d → i ≤ n → ∀ (H : Heap) (locs : List Loc) (wl : va_W) (ls : Array Slot), Rc G c wl → Rr G r wl → Ro G o wl → va_P D vwCl wl H → va_D (fun q => h0 ≤ q) wl → va_S (fun q => h0 ≤ q) s.heap H locs → lv_has ls 9 [(7, .int (nI i)), (5, .int (nI (rsI (cL r n) 1 (rdI (cL r n) 1 a t) i))), (0, .ref (G 3)), (1, .ref (G 4)), (2, .int (nI n)), (3, .int (nI a)), (4, .int (nI b)), (6, .int (nI (rdI (cL r n) 1 a t)))] → W p l e (headSpec wsL_isReached ({ frames := 0, cells := 0, slots := 0, locals := 0 } : Room)).room s m ([.ref (G 3), .ref (G 4), .int (nI n), .int (nI a), .int (nI b)] : List Value).toArray below meth cd H locs 0 0 Q (F0 m 22 ls []) := by
          intro d22
          induction d22 with
          | zero => intro i hd; exact absurd hd (Nat.not_lt_zero _)
          | succ d22 ih22 =>
            intro i hd hi  H locs wl ls hRc hRr hRo hP hD hS hl
            have hrs : (rsI (cL r n) 1 (rdI (cL r n) 1 a t) i) < 2 ^ 31 := Nat.lt_trans (rsI_lt h7 h8 (rdI_lt h7 h8 ha t) i) hp8
            refine lv_iload hx hb dL_isReached_22 (lv_at hl 0 rfl) ?_
            refine lv_iload_n hx hb dL_isReached_24 rfl (lv_at hl 4 rfl) ?_
            refine n_icmp_ge (tgt := 116) hx hb dL_isReached_25 (by decide) (by omega) (by omega) (fun c_25 => ?_) (fun c_25 => ?_)
            · refine lv_goto (tgt := 8) hx hb dL_isReached_116 (by decide) ?_
              exact ih8 (t + 1) (by have h9 : ¬ n < t := fun z => c_12 (rd_stop h7 h8 ha z).symm; omega) (by have h9 : ¬ n < t := fun z => c_12 (rd_stop h7 h8 ha z).symm; omega)   _ _ _ _ hRc hRr hRo hP hD hS (show lv_has ls 9 [(5, .int (nI (rdI (cL r n) 1 a (t + 1)))), (6, .int (nI (rdB (cL r n) 1 a (t + 1)))), (0, .ref (G 3)), (1, .ref (G 4)), (2, .int (nI n)), (3, .int (nI a)), (4, .int (nI b))] from by rw [show ((.int (nI (rdI (cL r n) 1 a (t + 1))) : Value)) = .int (nI (rsI (cL r n) 1 (rdI (cL r n) 1 a t) i)) from by exact congrArg (fun z => Value.int (nI z)) ((show rdI (cL r n) 1 a (t + 1) = rsI (cL r n) 1 (rdI (cL r n) 1 a t) i from by rw [show i = n by omega]; rfl)), show ((.int (nI (rdB (cL r n) 1 a (t + 1))) : Value)) = .int (nI (rdI (cL r n) 1 a t)) from by rfl]; exact lv_sub hl [1, 7, 2, 3, 4, 5, 6] rfl)
            · refine lv_iload hx hb dL_isReached_28 (lv_at hl 1 rfl) ?_
              refine lv_iload hx hb dL_isReached_30 (lv_at hl 0 rfl) ?_
              refine n_ishr hx hb dL_isReached_32 hrs (by omega) ?_
              refine lv_iconst (v := nI 1) hx hb dL_isReached_33 (by decide) ?_
              refine n_bitt hx hb dL_isReached_34 ?_
              refine lv_iconst (v := nI 1) hx hb dL_isReached_35 (by decide) ?_
              refine n_icmpb_ne (tgt := 110) hx hb dL_isReached_36 (by decide) (fun c_36 => ?_) (fun c_36 => ?_)
              · refine lv_iinc (v := nI (i + 1)) (lv' := [(7, .int (nI (i + 1))), (5, .int (nI (rsI (cL r n) 1 (rdI (cL r n) 1 a t) i))), (0, .ref (G 3)), (1, .ref (G 4)), (2, .int (nI n)), (3, .int (nI a)), (4, .int (nI b)), (6, .int (nI (rdI (cL r n) 1 a t)))]) hx hb dL_isReached_110 hl (k := 0) rfl (nI_add i 1) (by decide) rfl (fun ls hl => ?_)
                refine lv_goto (tgt := 22) hx hb dL_isReached_113 (by decide) ?_
                exact ih22 (i + 1) (by omega) (by omega)   _ _ _ _ hRc hRr hRo hP hD hS (show lv_has ls 9 [(7, .int (nI (i + 1))), (5, .int (nI (rsI (cL r n) 1 (rdI (cL r n) 1 a t) (i + 1)))), (0, .ref (G 3)), (1, .ref (G 4)), (2, .int (nI n)), (3, .int (nI a)), (4, .int (nI b)), (6, .int (nI (rdI (cL r n) 1 a t)))] from by rw [show ((.int (nI (rsI (cL r n) 1 (rdI (cL r n) 1 a t) (i + 1))) : Value)) = .int (nI (rsI (cL r n) 1 (rdI (cL r n) 1 a t) i)) from by exact congrArg (fun z => Value.int (nI z)) (rsI_no c_36)]; exact lv_sub hl [0, 1, 2, 3, 4, 5, 6, 7] rfl)
              · refine lv_iload hx hb dL_isReached_39 (lv_at hl 1 rfl) ?_
                refine lv_aload_n hx hb dL_isReached_41 rfl (lv_at hl 2 rfl) ?_
                refine lv_bipush (v := nI 8) hx hb dL_isReached_42 (by decide) ?_
                refine lv_iload hx hb dL_isReached_44 (lv_at hl 0 rfl) ?_
                refine n_imul hx hb dL_isReached_46 ?_
                refine lv_iconst (v := nI 4) hx hb dL_isReached_47 (by decide) ?_
                refine n_iadd hx hb dL_isReached_48 ?_
                refine x_iald hx hb hK hP 3 (Q_g hRr) (by first | omega | decide | assumption) (by decide) dL_isReached_49 (v := nI (r 14 i)) (gV_j _ (k := i) (j := 4) (by decide) (by decide)) ?_
                refine n_ior hx hb dL_isReached_50 ?_
                refine lv_istore (lv' := [(5, .int (nI ((rsI (cL r n) 1 (rdI (cL r n) 1 a t) i) ||| (r 14 i)))), (7, .int (nI i)), (0, .ref (G 3)), (1, .ref (G 4)), (2, .int (nI n)), (3, .int (nI a)), (4, .int (nI b)), (6, .int (nI (rdI (cL r n) 1 a t)))]) hx hb dL_isReached_51 hl (by decide) rfl (fun ls hl => ?_)
                refine lv_iconst (v := nI 0) hx hb dL_isReached_53 (by decide) ?_
                refine lv_istore (lv' := [(8, .int (nI 0)), (5, .int (nI ((rsI (cL r n) 1 (rdI (cL r n) 1 a t) i) ||| (r 14 i)))), (7, .int (nI i)), (0, .ref (G 3)), (1, .ref (G 4)), (2, .int (nI n)), (3, .int (nI a)), (4, .int (nI b)), (6, .int (nI (rdI (cL r n) 1 a t)))]) hx hb dL_isReached_54 hl (by decide) rfl (fun ls hl => ?_)
                have L56 : ∀ (d j : Nat), n - j < d → j ≤ n → ∀ (H : Heap) (locs : List Loc) (wl : va_W) (ls : Array Slot), Rc G c wl → Rr G r wl → Ro G o wl → va_P D vwCl wl H → va_D (fun q => h0 ≤ q) wl → va_S (fun q => h0 ≤ q) s.heap H locs → lv_has ls 9 [(8, .int (nI j)), (5, .int (nI ((rsI (cL r n) 1 (rdI (cL r n) 1 a t) i) ||| (r 14 i) ||| mk (fun v => wun r (8 * i + v)) j))), (0, .ref (G 3)), (1, .ref (G 4)), (2, .int (nI n)), (3, .int (nI a)), (4, .int (nI b)), (6, .int (nI (rdI (cL r n) 1 a t))), (7, .int (nI i))] → W p l e (headSpec wsL_isReached ({ frames := 0, cells := 0, slots := 0, locals := 0 } : Room)).room s m ([.ref (G 3), .ref (G 4), .int (nI n), .int (nI a), .int (nI b)] : List Value).toArray below meth cd H locs 0 0 Q (F0 m 56 ls []) := by
                  intro d56
                  induction d56 with
                  | zero => intro j hd; exact absurd hd (Nat.not_lt_zero _)
                  | succ d56 ih56 =>
                    intro j hd hi  H locs wl ls hRc hRr hRo hP hD hS hl
                    refine lv_iload hx hb dL_isReached_56 (lv_at hl 0 rfl) ?_
                    refine lv_iload_n hx hb dL_isReached_58 rfl (lv_at hl 4 rfl) ?_
                    refine n_icmp_ge (tgt := 110) hx hb dL_isReached_59 (by decide) (by omega) (by omega) (fun c_59 => ?_) (fun c_59 => ?_)
                    · refine lv_iinc (v := nI (i + 1)) (lv' := [(7, .int (nI (i + 1))), (8, .int (nI j)), (5, .int (nI ((rsI (cL r n) 1 (rdI (cL r n) 1 a t) i) ||| (r 14 i) ||| mk (fun v => wun r (8 * i + v)) j))), (0, .ref (G 3)), (1, .ref (G 4)), (2, .int (nI n)), (3, .int (nI a)), (4, .int (nI b)), (6, .int (nI (rdI (cL r n) 1 a t)))]) hx hb dL_isReached_110 hl (k := 8) rfl (nI_add i 1) (by decide) rfl (fun ls hl => ?_)
                      refine lv_goto (tgt := 22) hx hb dL_isReached_113 (by decide) ?_
                      exact ih22 (i + 1) (by omega) (by omega)   _ _ _ _ hRc hRr hRo hP hD hS (show lv_has ls 9 [(7, .int (nI (i + 1))), (5, .int (nI (rsI (cL r n) 1 (rdI (cL r n) 1 a t) (i + 1)))), (0, .ref (G 3)), (1, .ref (G 4)), (2, .int (nI n)), (3, .int (nI a)), (4, .int (nI b)), (6, .int (nI (rdI (cL r n) 1 a t)))] from by rw [show ((.int (nI (rsI (cL r n) 1 (rdI (cL r n) 1 a t) (i + 1))) : Value)) = .int (nI ((rsI (cL r n) 1 (rdI (cL r n) 1 a t) i) ||| (r 14 i) ||| mk (fun v => wun r (8 * i + v)) j)) from by exact congrArg (fun z => Value.int (nI z)) ((rsI_yes c_36 (by omega) (show j = n by omega)))]; exact lv_sub hl [0, 2, 3, 4, 5, 6, 7, 8] rfl)
                    · refine lv_iload hx hb dL_isReached_62 (lv_at hl 1 rfl) ?_
                      have J64 : (∀ (H : Heap) (locs : List Loc) (wl : va_W), Rc G c wl → Rr G r wl → Ro G o wl → va_P D vwCl wl H → va_D (fun q => h0 ≤ q) wl → va_S (fun q => h0 ≤ q) s.heap H locs → W p l e (headSpec wsL_isReached ({ frames := 0, cells := 0, slots := 0, locals := 0 } : Room)).room s m ([.ref (G 3), .ref (G 4), .int (nI n), .int (nI a), .int (nI b)] : List Value).toArray below meth cd H locs 0 0 Q (F0 m 101 ls [.int (nI (bN (wun r (8 * i + j)) * 2 ^ j)), .int (nI ((rsI (cL r n) 1 (rdI (cL r n) 1 a t) i) ||| (r 14 i) ||| mk (fun v => wun r (8 * i + v)) j))])) → W p l e (headSpec wsL_isReached ({ frames := 0, cells := 0, slots := 0, locals := 0 } : Room)).room s m ([.ref (G 3), .ref (G 4), .int (nI n), .int (nI a), .int (nI b)] : List Value).toArray below meth cd H locs 0 0 Q (F0 m 64 ls [.int (nI ((rsI (cL r n) 1 (rdI (cL r n) 1 a t) i) ||| (r 14 i) ||| mk (fun v => wun r (8 * i + v)) j))]) := by
                        intro hk64
                        refine lv_aload_n hx hb dL_isReached_64 rfl (lv_at hl 3 rfl) ?_
                        refine lv_bipush (v := nI 8) hx hb dL_isReached_65 (by decide) ?_
                        refine lv_iload hx hb dL_isReached_67 (lv_at hl 8 rfl) ?_
                        refine n_imul hx hb dL_isReached_69 ?_
                        refine lv_iload hx hb dL_isReached_70 (lv_at hl 0 rfl) ?_
                        refine n_iadd hx hb dL_isReached_72 ?_
                        refine x_iald hx hb hK hP 4 (Q_a2 hRr) (by first | omega | decide | assumption) (by decide) dL_isReached_73 (v := nI (r 2 ((8 * i) + j))) rfl ?_
                        refine n_if_le (tgt := 100) hx hb dL_isReached_74 (by decide) (hBr _ _ (by decide)) (fun c_74 => ?_) (fun c_74 => ?_)
                        · refine lv_iconst (v := nI 0) hx hb dL_isReached_100 (by decide) ?_
                          refine n_top (y := .int (nI (bN (wun r (8 * i + j)) * 2 ^ j))) (congrArg Value.int (show nI 0 = nI (bN (wun r (8 * i + j)) * 2 ^ j) from by rw [bN_f (show ¬ wun r (8 * i + j) from fun z => Nat.ne_of_gt z.1 c_74), Nat.zero_mul])) ?_
                          exact hk64 _ _ _ hRc hRr hRo hP hD hS
                        · refine lv_aload_n hx hb dL_isReached_77 rfl (lv_at hl 3 rfl) ?_
                          refine lv_bipush (v := nI 8) hx hb dL_isReached_78 (by decide) ?_
                          refine lv_iload hx hb dL_isReached_80 (lv_at hl 8 rfl) ?_
                          refine n_imul hx hb dL_isReached_82 ?_
                          refine lv_iload hx hb dL_isReached_83 (lv_at hl 0 rfl) ?_
                          refine n_iadd hx hb dL_isReached_85 ?_
                          refine x_iald hx hb hK hP 4 (Q_a2 hRr) (by first | omega | decide | assumption) (by decide) dL_isReached_86 (v := nI (r 2 ((8 * i) + j))) rfl ?_
                          refine lv_bipush (v := nI 20) hx hb dL_isReached_87 (by decide) ?_
                          refine n_ishr hx hb dL_isReached_89 (hBr _ _ (by decide)) (by omega) ?_
                          refine n_if_ne (tgt := 100) hx hb dL_isReached_90 (by decide) (Nat.lt_of_le_of_lt (Nat.div_le_self _ _) (hBr _ _ (by decide))) (fun c_90 => ?_) (fun c_90 => ?_)
                          · refine lv_iconst (v := nI 0) hx hb dL_isReached_100 (by decide) ?_
                            refine n_top (y := .int (nI (bN (wun r (8 * i + j)) * 2 ^ j))) (congrArg Value.int (show nI 0 = nI (bN (wun r (8 * i + j)) * 2 ^ j) from by rw [bN_f (show ¬ wun r (8 * i + j) from fun z => Nat.ne_of_gt c_90 z.2), Nat.zero_mul])) ?_
                            exact hk64 _ _ _ hRc hRr hRo hP hD hS
                          · refine lv_iconst (v := nI 1) hx hb dL_isReached_93 (by decide) ?_
                            refine lv_iload hx hb dL_isReached_94 (lv_at hl 0 rfl) ?_
                            refine n_bit hx hb dL_isReached_96 (by omega) ?_
                            refine lv_goto (tgt := 101) hx hb dL_isReached_97 (by decide) ?_
                            refine n_top (y := .int (nI (bN (wun r (8 * i + j)) * 2 ^ j))) (congrArg Value.int (show nI (2 ^ j) = nI (bN (wun r (8 * i + j)) * 2 ^ j) from by rw [bN_t (show wun r (8 * i + j) from ⟨c_74, c_90⟩), Nat.one_mul])) ?_
                            exact hk64 _ _ _ hRc hRr hRo hP hD hS
                      refine J64 (fun H locs wl hRc hRr hRo hP hD hS => ?_)
                      refine n_ior hx hb dL_isReached_101 ?_
                      refine lv_istore (lv' := [(5, .int (nI (((rsI (cL r n) 1 (rdI (cL r n) 1 a t) i) ||| (r 14 i) ||| mk (fun v => wun r (8 * i + v)) j) ||| (bN (wun r (8 * i + j)) * 2 ^ j)))), (8, .int (nI j)), (0, .ref (G 3)), (1, .ref (G 4)), (2, .int (nI n)), (3, .int (nI a)), (4, .int (nI b)), (6, .int (nI (rdI (cL r n) 1 a t))), (7, .int (nI i))]) hx hb dL_isReached_102 hl (by decide) rfl (fun ls hl => ?_)
                      refine lv_iinc (v := nI (j + 1)) (lv' := [(8, .int (nI (j + 1))), (5, .int (nI (((rsI (cL r n) 1 (rdI (cL r n) 1 a t) i) ||| (r 14 i) ||| mk (fun v => wun r (8 * i + v)) j) ||| (bN (wun r (8 * i + j)) * 2 ^ j)))), (0, .ref (G 3)), (1, .ref (G 4)), (2, .int (nI n)), (3, .int (nI a)), (4, .int (nI b)), (6, .int (nI (rdI (cL r n) 1 a t))), (7, .int (nI i))]) hx hb dL_isReached_104 hl (k := 1) rfl (nI_add j 1) (by decide) rfl (fun ls hl => ?_)
                      refine lv_goto (tgt := 56) hx hb dL_isReached_107 (by decide) ?_
                      exact ih56 (j + 1) (by omega) (by omega)   _ _ _ _ hRc hRr hRo hP hD hS (show lv_has ls 9 [(8, .int (nI (j + 1))), (5, .int (nI ((rsI (cL r n) 1 (rdI (cL r n) 1 a t) i) ||| (r 14 i) ||| mk (fun v => wun r (8 * i + v)) (j + 1)))), (0, .ref (G 3)), (1, .ref (G 4)), (2, .int (nI n)), (3, .int (nI a)), (4, .int (nI b)), (6, .int (nI (rdI (cL r n) 1 a t))), (7, .int (nI i))] from by rw [show ((.int (nI ((rsI (cL r n) 1 (rdI (cL r n) 1 a t) i) ||| (r 14 i) ||| mk (fun v => wun r (8 * i + v)) (j + 1))) : Value)) = .int (nI (((rsI (cL r n) 1 (rdI (cL r n) 1 a t) i) ||| (r 14 i) ||| mk (fun v => wun r (8 * i + v)) j) ||| (bN (wun r (8 * i + j)) * 2 ^ j))) from by exact congrArg (fun z => Value.int (nI z)) (Nat.or_assoc _ _ _).symm]; exact lv_sub hl [0, 1, 2, 3, 4, 5, 6, 7, 8] rfl)
                exact L56 _ 0 (Nat.lt_succ_self _) (by omega)   _ _ _ _ hRc hRr hRo hP hD hS (show lv_has ls 9 [(8, .int (nI 0)), (5, .int (nI ((rsI (cL r n) 1 (rdI (cL r n) 1 a t) i) ||| (r 14 i) ||| mk (fun v => wun r (8 * i + v)) 0))), (0, .ref (G 3)), (1, .ref (G 4)), (2, .int (nI n)), (3, .int (nI a)), (4, .int (nI b)), (6, .int (nI (rdI (cL r n) 1 a t))), (7, .int (nI i))] from by rw [show ((.int (nI ((rsI (cL r n) 1 (rdI (cL r n) 1 a t) i) ||| (r 14 i) ||| mk (fun v => wun r (8 * i + v)) 0)) : Value)) = .int (nI ((rsI (cL r n) 1 (rdI (cL r n) 1 a t) i) ||| (r 14 i))) from by exact congrArg (fun z => Value.int (nI z)) (Nat.or_zero _)]; exact lv_sub hl [0, 1, 3, 4, 5, 6, 7, 8, 2] rfl)
        exact L22 _ 0 (Nat.lt_succ_self _) (by omega)   _ _ _ _ hRc hRr hRo hP hD hS (show lv_has ls 9 [(7, .int (nI 0)), (5, .int (nI (rsI (cL r n) 1 (rdI (cL r n) 1 a t) 0))), (0, .ref (G 3)), (1, .ref (G 4)), (2, .int (nI n)), (3, .int (nI a)), (4, .int (nI b)), (6, .int (nI (rdI (cL r n) 1 a t)))] from by rw [show ((.int (nI (rsI (cL r n) 1 (rdI (cL r n) 1 a t) 0)) : Value)) = .int (nI (rdI (cL r n) 1 a t)) from by rfl]; exact lv_sub hl [0, 2, 3, 4, 5, 6, 7, 1] rfl)
  exact L8 _ 0 (Nat.lt_succ_self _) (by omega)   _ _ _ _ hRc hRr hRo hP hD hS (show lv_has ls 9 [(5, .int (nI (rdI (cL r n) 1 a 0))), (6, .int (nI (rdB (cL r n) 1 a 0))), (0, .ref (G 3)), (1, .ref (G 4)), (2, .int (nI n)), (3, .int (nI a)), (4, .int (nI b))] from by rw [show ((.int (nI (rdI (cL r n) 1 a 0)) : Value)) = .int (nI (2 ^ a)) from by rfl, show ((.int (nI (rdB (cL r n) 1 a 0)) : Value)) = .int (nI 0) from by rfl]; exact lv_sub hl [1, 0, 2, 3, 4, 5, 6] rfl)
