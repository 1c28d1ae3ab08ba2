set_option maxHeartbeats 4000000 in
set_option maxRecDepth 100000 in
theorem k_X3_add (l : Launch) (D : va_G) (G : Nat → Nat) (h0 : Nat) (c r : Nat → Nat → Nat) (o : Nat) (x y : Int32) (hI : IR r) : Met l yX3_add wsX3_add ({ frames := 1, cells := 0, slots := 0, locals := 22 } : Room) (va_Pc [.ref (G 3), .int x, .int y] (fun U => Pr D G h0 c r o U)) (va_Qi (fun (v9 : Int32) (u9 : Nat → Nat → Nat) => (¬ (inR x 1 100 ∧ inR y 0 3) ∧ u9 = up2 r 30 22 1) ∨ ((inR x 1 100 ∧ inR y 0 3) ∧ ¬ (r 30 0 < 20 ∧ r 30 13 = 0) ∧ u9 = up2 r 30 22 2) ∨ (∃ t k, (1 ≤ t ∧ t ≤ 100) ∧ (0 ≤ k ∧ k ≤ 3) ∧ x = nI t ∧ y = nI k ∧ r 30 0 < 20 ∧ r 30 13 = 0 ∧ v9 = nI (r 30 0) ∧ u9 = up2 (up2 (up2 (up2 (up2 (up2 (up2 r 30 22 0) 1 (r 30 0) t) 3 (r 30 0) k) 2 (r 30 0) 10) 5 (r 30 0) 0) 17 (r 30 0) 0) 30 0 (r 30 0 + 1))) (fun (u9 : Nat → Nat → Nat) t => Wr D G h0 c u9 o t) (fun q => h0 ≤ q)) 0 0 (fun q => h0 ≤ q) := by
  refine Met.ofW (cc := cX3_add) (maxL := 3) (ret := (some .int)) (by decide) rfl ?_
  intro p e s m args below meth cd s₁ B hml hv
  obtain ⟨rfl, hE, wl, hRc, hRr, hRo, hP, hD⟩ := hv
  have hx := B.exec
  have hb := B.bytes
  have hr := B.returns
  have hts := atoms_spec (ws := wsX3_add) B.pre
  have hown : s.vm.findClass RX3 = some m.cls := findClass_of_methodNamed B.named
  have hlocks := B.notSynchronized
  have hK := hE.2.1
  have hS : va_S (fun q => h0 ≤ q) s.heap s.heap [] := va_S.rf
  have hl := lv_entry ([.ref (G 3), .int x, .int y]) (n := 3) (Nat.le_of_ble_eq_true rfl)
  rw [lg_entry_eq]
  generalize (lg_sl ([.ref (G 3), .int x, .int y]) ++ List.replicate (3 - (lg_sl ([.ref (G 3), .int x, .int y])).length) Slot.unset).toArray = ls at hl ⊢
  have hl : lv_has ls 3 [(0, .ref (G 3)), (1, .int x), (2, .int y)] := hl
  have inX3 : ∀ w ∈ wsX30, w ∈ wsX3_add := by decide +kernel
  have hBr := IR_B hI
  have hn := IR_n hI
  have hs := IR_s hI
  refine lv_aload_n hx hb dX3_add_0 rfl (lv_at hl 0 rfl) ?_
  refine lv_iload_n hx hb dX3_add_1 rfl (lv_at hl 1 rfl) ?_
  refine lv_iconst (v := nI 1) hx hb dX3_add_2 (by decide) ?_
  refine lv_bipush (v := nI 100) hx hb dX3_add_3 (by decide) ?_
  refine y_calli (va_runS (As := [.int x, .int (nI 1), .int (nI 100)]) (rest := [.ref (G 3)]) ⟨hx, hb, hml, hown, hts⟩ (k_X3_isIn l D G h0 c r o x (nI 1) (nI 100)) (va_cwS 3 hts gX3_add_X3_isIn rfl rfl rfl (by decide +kernel) ⟨Nat.le_of_ble_eq_true rfl, Nat.le_of_ble_eq_true rfl⟩) ⟨fun a U g mk q => ⟨q.1, Pr_cg q.2⟩, fun U hU hW => ⟨rfl, Pr_mk hE hRc hRr hRo hP hD hS hU hW⟩⟩ rfl rfl hl.1 rfl (lv_room (Nat.le_of_ble_eq_true rfl)) dX3_add_5 ⟨Nat.le_of_ble_eq_true rfl, Nat.le_of_ble_eq_true rfl⟩) hS (fun v9 _ H locs wl hv9 hRc hRr hRo hP hD hS => ?_)
  refine n_top (y := .int (nI (bN (inR x 1 100)))) (congrArg Value.int hv9) ?_
  clear hv9 v9
  refine n_ifb_eq (tgt := 20) hx hb dX3_add_8 (by decide) (fun c_8 => ?_) (fun c_8 => ?_)
  · refine lv_iconst (v := nI 1) hx hb dX3_add_20 (by decide) ?_
    refine lv_goto (tgt := 45) hx hb dX3_add_21 (by decide) ?_
    refine y_calli (va_runV (As := [.int (nI 1)]) (rest := []) ⟨hx, hb, hml, hown, hts⟩ (k_X3_goes l D G h0 c r o 1 (by decide)) (cwV 1 hts gX3_add_X3_goes rfl rfl rfl (by decide +kernel) ⟨Nat.le_of_ble_eq_true rfl, Nat.le_of_ble_eq_true rfl⟩) ⟨fun a U g mk q => ⟨q.1, Pr_cg q.2⟩, va_recv (ci := 4) (q0 := 3) hK hP rfl (Q_m hRr), fun U hU hW => ⟨rfl, Pr_mk hE hRc hRr hRo hP hD hS hU hW⟩⟩ rfl rfl hl.1 rfl (lv_room (Nat.le_of_ble_eq_true rfl)) dX3_add_45 ⟨Nat.le_of_ble_eq_true rfl, Nat.le_of_ble_eq_true rfl⟩) hS (fun v9 _ H locs wl hv9 hRc hRr hRo hP hD hS => ?_)
    refine n_top (y := .int (nI 0)) (congrArg Value.int (hv9.trans (congrArg nI (bN_f (by decide))))) ?_
    clear hv9 v9
    refine n_if_ne (tgt := 53) hx hb dX3_add_48 (by decide) (by decide) (fun c_48 => absurd c_48 (by decide)) (fun c_48 => ?_)
    refine lv_iconst (v := nI 0) hx hb dX3_add_51 (by decide) ?_
    have hrel : (fun (v9 : Int32) (u9 : Nat → Nat → Nat) => (¬ (inR x 1 100 ∧ inR y 0 3) ∧ u9 = up2 r 30 22 1) ∨ ((inR x 1 100 ∧ inR y 0 3) ∧ ¬ (r 30 0 < 20 ∧ r 30 13 = 0) ∧ u9 = up2 r 30 22 2) ∨ (∃ t k, (1 ≤ t ∧ t ≤ 100) ∧ (0 ≤ k ∧ k ≤ 3) ∧ x = nI t ∧ y = nI k ∧ r 30 0 < 20 ∧ r 30 13 = 0 ∧ v9 = nI (r 30 0) ∧ u9 = up2 (up2 (up2 (up2 (up2 (up2 (up2 r 30 22 0) 1 (r 30 0) t) 3 (r 30 0) k) 2 (r 30 0) 10) 5 (r 30 0) 0) 17 (r 30 0) 0) 30 0 (r 30 0 + 1))) (nI 0) (up2 r 30 22 1) := by exact Or.inl ⟨fun z => c_8 z.1, rfl⟩
    exact W.iret (v := nI 0) hx hb hr (fun t ht hW => ⟨⟨_, (up2 r 30 22 1), rfl, hrel, Wr_mk hRc hRr hRo hP hD ht⟩, hS.F ht⟩) hS.2.2 dX3_add_52
  · obtain ⟨t_x, ht_x, hx_x⟩ := inR_nI c_8 (by decide) (by decide)
    refine lv_iload_n hx hb dX3_add_11 rfl (lv_at hl 2 rfl) ?_
    refine lv_iconst (v := nI 0) hx hb dX3_add_12 (by decide) ?_
    refine lv_iconst (v := nI 3) hx hb dX3_add_13 (by decide) ?_
    refine y_calli (va_runS (As := [.int y, .int (nI 0), .int (nI 3)]) (rest := [.ref (G 3)]) ⟨hx, hb, hml, hown, hts⟩ (k_X3_isIn l D G h0 c r o y (nI 0) (nI 3)) (va_cwS 3 hts gX3_add_X3_isIn rfl rfl rfl (by decide +kernel) ⟨Nat.le_of_ble_eq_true rfl, Nat.le_of_ble_eq_true rfl⟩) ⟨fun a U g mk q => ⟨q.1, Pr_cg q.2⟩, fun U hU hW => ⟨rfl, Pr_mk hE hRc hRr hRo hP hD hS hU hW⟩⟩ rfl rfl hl.1 rfl (lv_room (Nat.le_of_ble_eq_true rfl)) dX3_add_14 ⟨Nat.le_of_ble_eq_true rfl, Nat.le_of_ble_eq_true rfl⟩) hS (fun v9 _ H locs wl hv9 hRc hRr hRo hP hD hS => ?_)
    refine n_top (y := .int (nI (bN (inR y 0 3)))) (congrArg Value.int hv9) ?_
    clear hv9 v9
    refine n_ifb_ne (tgt := 24) hx hb dX3_add_17 (by decide) (fun c_17 => ?_) (fun c_17 => ?_)
    · obtain ⟨t_y, ht_y, hx_y⟩ := inR_nI c_17 (by decide) (by decide)
      refine lv_aload_n hx hb dX3_add_24 rfl (lv_at hl 0 rfl) ?_
      refine va_get (D := D) (ci := 4) (v := .int (nI (r 30 0))) (C := RX3) (T := TX3) (N := 23) hx hb hts inX3 hown hK hP 3 (Q_m hRr) rfl 0 (by decide) (hts (.fieldLink RX3 60 "BootStageModel" "units" "I") (by decide +kernel)) (fun _ h9 => h9) rfl dX3_add_25 ?_
      refine lv_bipush (v := nI 20) hx hb dX3_add_28 (by decide) ?_
      refine n_icmp_eq (tgt := 40) hx hb dX3_add_30 (by decide) (hBr _ _ (by decide)) (by decide) (fun c_30 => ?_) (fun c_30 => ?_)
      · refine lv_iconst (v := nI 2) hx hb dX3_add_40 (by decide) ?_
        refine lv_goto (tgt := 45) hx hb dX3_add_41 (by decide) ?_
        refine y_calli (va_runV (As := [.int (nI 2)]) (rest := []) ⟨hx, hb, hml, hown, hts⟩ (k_X3_goes l D G h0 c r o 2 (by decide)) (cwV 1 hts gX3_add_X3_goes rfl rfl rfl (by decide +kernel) ⟨Nat.le_of_ble_eq_true rfl, Nat.le_of_ble_eq_true rfl⟩) ⟨fun a U g mk q => ⟨q.1, Pr_cg q.2⟩, va_recv (ci := 4) (q0 := 3) hK hP rfl (Q_m hRr), fun U hU hW => ⟨rfl, Pr_mk hE hRc hRr hRo hP hD hS hU hW⟩⟩ rfl rfl hl.1 rfl (lv_room (Nat.le_of_ble_eq_true rfl)) dX3_add_45 ⟨Nat.le_of_ble_eq_true rfl, Nat.le_of_ble_eq_true rfl⟩) hS (fun v9 _ H locs wl hv9 hRc hRr hRo hP hD hS => ?_)
        refine n_top (y := .int (nI 0)) (congrArg Value.int (hv9.trans (congrArg nI (bN_f (by decide))))) ?_
        clear hv9 v9
        refine n_if_ne (tgt := 53) hx hb dX3_add_48 (by decide) (by decide) (fun c_48 => absurd c_48 (by decide)) (fun c_48 => ?_)
        refine lv_iconst (v := nI 0) hx hb dX3_add_51 (by decide) ?_
        have hrel : (fun (v9 : Int32) (u9 : Nat → Nat → Nat) => (¬ (inR x 1 100 ∧ inR y 0 3) ∧ u9 = up2 r 30 22 1) ∨ ((inR x 1 100 ∧ inR y 0 3) ∧ ¬ (r 30 0 < 20 ∧ r 30 13 = 0) ∧ u9 = up2 r 30 22 2) ∨ (∃ t k, (1 ≤ t ∧ t ≤ 100) ∧ (0 ≤ k ∧ k ≤ 3) ∧ x = nI t ∧ y = nI k ∧ r 30 0 < 20 ∧ r 30 13 = 0 ∧ v9 = nI (r 30 0) ∧ u9 = up2 (up2 (up2 (up2 (up2 (up2 (up2 r 30 22 0) 1 (r 30 0) t) 3 (r 30 0) k) 2 (r 30 0) 10) 5 (r 30 0) 0) 17 (r 30 0) 0) 30 0 (r 30 0 + 1))) (nI 0) (up2 r 30 22 2) := by exact Or.inr (Or.inl ⟨⟨(by rw [hx_x]; exact inR_of ht_x.1 ht_x.2 (by decide)), (by rw [hx_y]; exact inR_of ht_y.1 ht_y.2 (by decide))⟩, fun z => absurd z.1 (by omega), rfl⟩)
        exact W.iret (v := nI 0) hx hb hr (fun t ht hW => ⟨⟨_, (up2 r 30 22 2), rfl, hrel, Wr_mk hRc hRr hRo hP hD ht⟩, hS.F ht⟩) hS.2.2 dX3_add_52
      · refine lv_aload_n hx hb dX3_add_33 rfl (lv_at hl 0 rfl) ?_
        refine va_get (D := D) (ci := 4) (v := .int (nI (r 30 13))) (C := RX3) (T := TX3) (N := 23) hx hb hts inX3 hown hK hP 3 (Q_m hRr) rfl 13 (by decide) (hts (.fieldLink RX3 67 "BootStageModel" "goesOn" "Z") (by decide +kernel)) (fun _ h9 => h9) rfl dX3_add_34 ?_
        refine n_if_eq (tgt := 44) hx hb dX3_add_37 (by decide) (hBr _ _ (by decide)) (fun c_37 => ?_) (fun c_37 => ?_)
        · refine lv_iconst (v := nI 0) hx hb dX3_add_44 (by decide) ?_
          refine y_calli (va_runV (As := [.int (nI 0)]) (rest := []) ⟨hx, hb, hml, hown, hts⟩ (k_X3_goes l D G h0 c r o 0 (by decide)) (cwV 1 hts gX3_add_X3_goes rfl rfl rfl (by decide +kernel) ⟨Nat.le_of_ble_eq_true rfl, Nat.le_of_ble_eq_true rfl⟩) ⟨fun a U g mk q => ⟨q.1, Pr_cg q.2⟩, va_recv (ci := 4) (q0 := 3) hK hP rfl (Q_m hRr), fun U hU hW => ⟨rfl, Pr_mk hE hRc hRr hRo hP hD hS hU hW⟩⟩ rfl rfl hl.1 rfl (lv_room (Nat.le_of_ble_eq_true rfl)) dX3_add_45 ⟨Nat.le_of_ble_eq_true rfl, Nat.le_of_ble_eq_true rfl⟩) hS (fun v9 _ H locs wl hv9 hRc hRr hRo hP hD hS => ?_)
          refine n_top (y := .int (nI 1)) (congrArg Value.int (hv9.trans (congrArg nI (bN_t rfl)))) ?_
          clear hv9 v9
          refine n_if_ne (tgt := 53) hx hb dX3_add_48 (by decide) (by decide) (fun c_48 => ?_) (fun c_48 => absurd c_48 (by decide))
          refine lv_aload_n hx hb dX3_add_53 rfl (lv_at hl 0 rfl) ?_
          refine va_get (D := D) (ci := 4) (v := .ref (G 5)) (C := RX3) (T := TX3) (N := 23) hx hb hts inX3 hown hK hP 3 (Q_m hRr) rfl 1 (by decide) (hts (.fieldLink RX3 7 "BootStageModel" "times" "[I") (by decide +kernel)) (fun _ h9 => h9) rfl dX3_add_54 ?_
          refine lv_aload_n hx hb dX3_add_57 rfl (lv_at hl 0 rfl) ?_
          refine va_get (D := D) (ci := 4) (v := .int (nI (r 30 0))) (C := RX3) (T := TX3) (N := 23) hx hb hts inX3 hown hK hP 3 (Q_m hRr) rfl 0 (by decide) (hts (.fieldLink RX3 60 "BootStageModel" "units" "I") (by decide +kernel)) (fun _ h9 => h9) (congrArg (fun z => some (Value.int (nI z))) (show (up2 r 30 22 0) 30 0 = r 30 0 from by simp [up2])) dX3_add_58 ?_
          refine lv_iload_n hx hb dX3_add_61 rfl (lv_at hl 1 rfl) ?_
          refine n_top (y := .int (nI t_x)) (congrArg Value.int hx_x) ?_
          refine x_iast (Z := fun wl => Rc G c wl ∧ Rr G (up2 (up2 r 30 22 0) 1 (r 30 0) t_x) wl ∧ Ro G o wl) hx hb hK hP hD hS 5 (Q_a1 hRr) (by first | omega | decide | assumption) (by decide) dX3_add_62 ⟨Rc_fr hRc (by decide) (by decide), P_a1 t_x (by first | omega | decide | assumption) hRr, Ro_fr hRo (by decide)⟩ (fun H locs wl hZ hP hD hS => ?_)
          obtain ⟨hRc, hRr, hRo⟩ := hZ
          refine lv_aload_n hx hb dX3_add_63 rfl (lv_at hl 0 rfl) ?_
          refine va_get (D := D) (ci := 4) (v := .ref (G 7)) (C := RX3) (T := TX3) (N := 23) hx hb hts inX3 hown hK hP 3 (Q_m hRr) rfl 3 (by decide) (hts (.fieldLink RX3 16 "BootStageModel" "retries" "[I") (by decide +kernel)) (fun _ h9 => h9) rfl dX3_add_64 ?_
          refine lv_aload_n hx hb dX3_add_67 rfl (lv_at hl 0 rfl) ?_
          refine va_get (D := D) (ci := 4) (v := .int (nI (r 30 0))) (C := RX3) (T := TX3) (N := 23) hx hb hts inX3 hown hK hP 3 (Q_m hRr) rfl 0 (by decide) (hts (.fieldLink RX3 60 "BootStageModel" "units" "I") (by decide +kernel)) (fun _ h9 => h9) (congrArg (fun z => some (Value.int (nI z))) (show (up2 (up2 r 30 22 0) 1 (r 30 0) t_x) 30 0 = r 30 0 from by simp [up2])) dX3_add_68 ?_
          refine lv_iload_n hx hb dX3_add_71 rfl (lv_at hl 2 rfl) ?_
          refine n_top (y := .int (nI t_y)) (congrArg Value.int hx_y) ?_
          refine x_iast (Z := fun wl => Rc G c wl ∧ Rr G (up2 (up2 (up2 r 30 22 0) 1 (r 30 0) t_x) 3 (r 30 0) t_y) wl ∧ Ro G o wl) hx hb hK hP hD hS 7 (Q_a3 hRr) (by first | omega | decide | assumption) (by decide) dX3_add_72 ⟨Rc_fr hRc (by decide) (by decide), P_a3 t_y (by first | omega | decide | assumption) hRr, Ro_fr hRo (by decide)⟩ (fun H locs wl hZ hP hD hS => ?_)
          obtain ⟨hRc, hRr, hRo⟩ := hZ
          refine lv_aload_n hx hb dX3_add_73 rfl (lv_at hl 0 rfl) ?_
          refine va_get (D := D) (ci := 4) (v := .ref (G 6)) (C := RX3) (T := TX3) (N := 23) hx hb hts inX3 hown hK hP 3 (Q_m hRr) rfl 2 (by decide) (hts (.fieldLink RX3 13 "BootStageModel" "learned" "[I") (by decide +kernel)) (fun _ h9 => h9) rfl dX3_add_74 ?_
          refine lv_aload_n hx hb dX3_add_77 rfl (lv_at hl 0 rfl) ?_
          refine va_get (D := D) (ci := 4) (v := .int (nI (r 30 0))) (C := RX3) (T := TX3) (N := 23) hx hb hts inX3 hown hK hP 3 (Q_m hRr) rfl 0 (by decide) (hts (.fieldLink RX3 60 "BootStageModel" "units" "I") (by decide +kernel)) (fun _ h9 => h9) (congrArg (fun z => some (Value.int (nI z))) (show (up2 (up2 (up2 r 30 22 0) 1 (r 30 0) t_x) 3 (r 30 0) t_y) 30 0 = r 30 0 from by simp [up2])) dX3_add_78 ?_
          refine lv_bipush (v := nI 10) hx hb dX3_add_81 (by decide) ?_
          refine x_iast (Z := fun wl => Rc G c wl ∧ Rr G (up2 (up2 (up2 (up2 r 30 22 0) 1 (r 30 0) t_x) 3 (r 30 0) t_y) 2 (r 30 0) 10) wl ∧ Ro G o wl) hx hb hK hP hD hS 6 (Q_a2 hRr) (by first | omega | decide | assumption) (by decide) dX3_add_83 ⟨Rc_fr hRc (by decide) (by decide), P_a2 10 (by first | omega | decide | assumption) hRr, Ro_fr hRo (by decide)⟩ (fun H locs wl hZ hP hD hS => ?_)
          obtain ⟨hRc, hRr, hRo⟩ := hZ
          refine lv_aload_n hx hb dX3_add_84 rfl (lv_at hl 0 rfl) ?_
          refine va_get (D := D) (ci := 4) (v := .ref (G 9)) (C := RX3) (T := TX3) (N := 23) hx hb hts inX3 hown hK hP 3 (Q_m hRr) rfl 5 (by decide) (hts (.fieldLink RX3 22 "BootStageModel" "standIns" "[I") (by decide +kernel)) (fun _ h9 => h9) rfl dX3_add_85 ?_
          refine lv_aload_n hx hb dX3_add_88 rfl (lv_at hl 0 rfl) ?_
          refine va_get (D := D) (ci := 4) (v := .int (nI (r 30 0))) (C := RX3) (T := TX3) (N := 23) hx hb hts inX3 hown hK hP 3 (Q_m hRr) rfl 0 (by decide) (hts (.fieldLink RX3 60 "BootStageModel" "units" "I") (by decide +kernel)) (fun _ h9 => h9) (congrArg (fun z => some (Value.int (nI z))) (show (up2 (up2 (up2 (up2 r 30 22 0) 1 (r 30 0) t_x) 3 (r 30 0) t_y) 2 (r 30 0) 10) 30 0 = r 30 0 from by simp [up2])) dX3_add_89 ?_
          refine lv_iconst (v := (-1)) hx hb dX3_add_92 (by decide) ?_
          refine n_top (y := .int (siI 0)) (congrArg Value.int siI_0.symm) ?_
          refine x_iast (Z := fun wl => Rc G c wl ∧ Rr G (up2 (up2 (up2 (up2 (up2 r 30 22 0) 1 (r 30 0) t_x) 3 (r 30 0) t_y) 2 (r 30 0) 10) 5 (r 30 0) 0) wl ∧ Ro G o wl) hx hb hK hP hD hS 9 (Q_a5 hRr) (by first | omega | decide | assumption) (by decide) dX3_add_93 ⟨Rc_fr hRc (by decide) (by decide), P_a5 0 (by first | omega | decide | assumption) hRr, Ro_fr hRo (by decide)⟩ (fun H locs wl hZ hP hD hS => ?_)
          obtain ⟨hRc, hRr, hRo⟩ := hZ
          refine lv_aload_n hx hb dX3_add_94 rfl (lv_at hl 0 rfl) ?_
          refine va_get (D := D) (ci := 4) (v := .ref (G 15)) (C := RX3) (T := TX3) (N := 23) hx hb hts inX3 hown hK hP 3 (Q_m hRr) rfl 17 (by decide) (hts (.fieldLink RX3 41 "BootStageModel" "states" "[I") (by decide +kernel)) (fun _ h9 => h9) rfl dX3_add_95 ?_
          refine lv_aload_n hx hb dX3_add_98 rfl (lv_at hl 0 rfl) ?_
          refine va_get (D := D) (ci := 4) (v := .int (nI (r 30 0))) (C := RX3) (T := TX3) (N := 23) hx hb hts inX3 hown hK hP 3 (Q_m hRr) rfl 0 (by decide) (hts (.fieldLink RX3 60 "BootStageModel" "units" "I") (by decide +kernel)) (fun _ h9 => h9) (congrArg (fun z => some (Value.int (nI z))) (show (up2 (up2 (up2 (up2 (up2 r 30 22 0) 1 (r 30 0) t_x) 3 (r 30 0) t_y) 2 (r 30 0) 10) 5 (r 30 0) 0) 30 0 = r 30 0 from by simp [up2])) dX3_add_99 ?_
          refine lv_iconst (v := nI 0) hx hb dX3_add_102 (by decide) ?_
          refine x_iast (Z := fun wl => Rc G c wl ∧ Rr G (up2 (up2 (up2 (up2 (up2 (up2 r 30 22 0) 1 (r 30 0) t_x) 3 (r 30 0) t_y) 2 (r 30 0) 10) 5 (r 30 0) 0) 17 (r 30 0) 0) wl ∧ Ro G o wl) hx hb hK hP hD hS 15 (Q_a17 hRr) (by first | omega | decide | assumption) (by decide) dX3_add_103 ⟨Rc_fr hRc (by decide) (by decide), P_a17 0 (by first | omega | decide | assumption) hRr, Ro_fr hRo (by decide)⟩ (fun H locs wl hZ hP hD hS => ?_)
          obtain ⟨hRc, hRr, hRo⟩ := hZ
          refine lv_aload_n hx hb dX3_add_104 rfl (lv_at hl 0 rfl) ?_
          refine lv_dup hx hb dX3_add_105 rfl ?_
          refine va_get (D := D) (ci := 4) (v := .int (nI (r 30 0))) (C := RX3) (T := TX3) (N := 23) hx hb hts inX3 hown hK hP 3 (Q_m hRr) rfl 0 (by decide) (hts (.fieldLink RX3 60 "BootStageModel" "units" "I") (by decide +kernel)) (fun _ h9 => h9) (congrArg (fun z => some (Value.int (nI z))) (show (up2 (up2 (up2 (up2 (up2 (up2 r 30 22 0) 1 (r 30 0) t_x) 3 (r 30 0) t_y) 2 (r 30 0) 10) 5 (r 30 0) 0) 17 (r 30 0) 0) 30 0 = r 30 0 from by simp [up2])) dX3_add_106 ?_
          refine lv_iconst (v := nI 1) hx hb dX3_add_109 (by decide) ?_
          refine n_iadd hx hb dX3_add_110 ?_
          refine x_put (D := D) (G := G) (ci := 4) (ty := .int) (C := RX3) (T := TX3) (N := 23) (Z := fun wl => Rc G c wl ∧ Rr G (up2 (up2 (up2 (up2 (up2 (up2 (up2 r 30 22 0) 1 (r 30 0) t_x) 3 (r 30 0) t_y) 2 (r 30 0) 10) 5 (r 30 0) 0) 17 (r 30 0) 0) 30 0 ((r 30 0) + 1)) wl ∧ Ro G o wl) hx hb hts inX3 tyX3 tyX3_ok nmX3 hown hK hP hD hS 3 (Q_m hRr) rfl 0 (by decide) (hts (.fieldLink RX3 60 "BootStageModel" "units" "I") (by decide +kernel)) (fun _ h9 => h9) rfl (by decide +kernel) rfl rfl (Nat.le_of_ble_eq_true rfl) dX3_add_111 ⟨Rc_fr hRc (by decide) (by decide), P_m0 ((r 30 0) + 1) hRr, Ro_fr hRo (by decide)⟩ (fun H locs wl hZ hP hD hS => ?_)
          obtain ⟨hRc, hRr, hRo⟩ := hZ
          refine lv_aload_n hx hb dX3_add_114 rfl (lv_at hl 0 rfl) ?_
          refine va_get (D := D) (ci := 4) (v := .int (nI ((r 30 0) + 1))) (C := RX3) (T := TX3) (N := 23) hx hb hts inX3 hown hK hP 3 (Q_m hRr) rfl 0 (by decide) (hts (.fieldLink RX3 60 "BootStageModel" "units" "I") (by decide +kernel)) (fun _ h9 => h9) (congrArg (fun z => some (Value.int (nI z))) (show (up2 (up2 (up2 (up2 (up2 (up2 (up2 r 30 22 0) 1 (r 30 0) t_x) 3 (r 30 0) t_y) 2 (r 30 0) 10) 5 (r 30 0) 0) 17 (r 30 0) 0) 30 0 ((r 30 0) + 1)) 30 0 = (r 30 0) + 1 from by simp [up2])) dX3_add_115 ?_
          refine lv_iconst (v := nI 1) hx hb dX3_add_118 (by decide) ?_
          refine n_isub hx hb dX3_add_119 (by first | omega | decide | assumption) ?_
          have hrel : (fun (v9 : Int32) (u9 : Nat → Nat → Nat) => (¬ (inR x 1 100 ∧ inR y 0 3) ∧ u9 = up2 r 30 22 1) ∨ ((inR x 1 100 ∧ inR y 0 3) ∧ ¬ (r 30 0 < 20 ∧ r 30 13 = 0) ∧ u9 = up2 r 30 22 2) ∨ (∃ t k, (1 ≤ t ∧ t ≤ 100) ∧ (0 ≤ k ∧ k ≤ 3) ∧ x = nI t ∧ y = nI k ∧ r 30 0 < 20 ∧ r 30 13 = 0 ∧ v9 = nI (r 30 0) ∧ u9 = up2 (up2 (up2 (up2 (up2 (up2 (up2 r 30 22 0) 1 (r 30 0) t) 3 (r 30 0) k) 2 (r 30 0) 10) 5 (r 30 0) 0) 17 (r 30 0) 0) 30 0 (r 30 0 + 1))) (nI (((r 30 0) + 1) - 1)) (up2 (up2 (up2 (up2 (up2 (up2 (up2 r 30 22 0) 1 (r 30 0) t_x) 3 (r 30 0) t_y) 2 (r 30 0) 10) 5 (r 30 0) 0) 17 (r 30 0) 0) 30 0 ((r 30 0) + 1)) := by exact Or.inr (Or.inr ⟨t_x, t_y, ht_x, ht_y, hx_x, hx_y, by omega, c_37, congrArg nI (by omega), rfl⟩)
          exact W.iret (v := nI (((r 30 0) + 1) - 1)) hx hb hr (fun t ht hW => ⟨⟨_, (up2 (up2 (up2 (up2 (up2 (up2 (up2 r 30 22 0) 1 (r 30 0) t_x) 3 (r 30 0) t_y) 2 (r 30 0) 10) 5 (r 30 0) 0) 17 (r 30 0) 0) 30 0 ((r 30 0) + 1)), rfl, hrel, Wr_mk hRc hRr hRo hP hD ht⟩, hS.F ht⟩) hS.2.2 dX3_add_120
        · refine lv_iconst (v := nI 2) hx hb dX3_add_40 (by decide) ?_
          refine lv_goto (tgt := 45) hx hb dX3_add_41 (by decide) ?_
          refine y_calli (va_runV (As := [.int (nI 2)]) (rest := []) ⟨hx, hb, hml, hown, hts⟩ (k_X3_goes l D G h0 c r o 2 (by decide)) (cwV 1 hts gX3_add_X3_goes rfl rfl rfl (by decide +kernel) ⟨Nat.le_of_ble_eq_true rfl, Nat.le_of_ble_eq_true rfl⟩) ⟨fun a U g mk q => ⟨q.1, Pr_cg q.2⟩, va_recv (ci := 4) (q0 := 3) hK hP rfl (Q_m hRr), fun U hU hW => ⟨rfl, Pr_mk hE hRc hRr hRo hP hD hS hU hW⟩⟩ rfl rfl hl.1 rfl (lv_room (Nat.le_of_ble_eq_true rfl)) dX3_add_45 ⟨Nat.le_of_ble_eq_true rfl, Nat.le_of_ble_eq_true rfl⟩) hS (fun v9 _ H locs wl hv9 hRc hRr hRo hP hD hS => ?_)
          refine n_top (y := .int (nI 0)) (congrArg Value.int (hv9.trans (congrArg nI (bN_f (by decide))))) ?_
          clear hv9 v9
          refine n_if_ne (tgt := 53) hx hb dX3_add_48 (by decide) (by decide) (fun c_48 => absurd c_48 (by decide)) (fun c_48 => ?_)
          refine lv_iconst (v := nI 0) hx hb dX3_add_51 (by decide) ?_
          have hrel : (fun (v9 : Int32) (u9 : Nat → Nat → Nat) => (¬ (inR x 1 100 ∧ inR y 0 3) ∧ u9 = up2 r 30 22 1) ∨ ((inR x 1 100 ∧ inR y 0 3) ∧ ¬ (r 30 0 < 20 ∧ r 30 13 = 0) ∧ u9 = up2 r 30 22 2) ∨ (∃ t k, (1 ≤ t ∧ t ≤ 100) ∧ (0 ≤ k ∧ k ≤ 3) ∧ x = nI t ∧ y = nI k ∧ r 30 0 < 20 ∧ r 30 13 = 0 ∧ v9 = nI (r 30 0) ∧ u9 = up2 (up2 (up2 (up2 (up2 (up2 (up2 r 30 22 0) 1 (r 30 0) t) 3 (r 30 0) k) 2 (r 30 0) 10) 5 (r 30 0) 0) 17 (r 30 0) 0) 30 0 (r 30 0 + 1))) (nI 0) (up2 r 30 22 2) := by exact Or.inr (Or.inl ⟨⟨(by rw [hx_x]; exact inR_of ht_x.1 ht_x.2 (by decide)), (by rw [hx_y]; exact inR_of ht_y.1 ht_y.2 (by decide))⟩, fun z => absurd z.2 (by omega), rfl⟩)
          exact W.iret (v := nI 0) hx hb hr (fun t ht hW => ⟨⟨_, (up2 r 30 22 2), rfl, hrel, Wr_mk hRc hRr hRo hP hD ht⟩, hS.F ht⟩) hS.2.2 dX3_add_52
    · refine lv_iconst (v := nI 1) hx hb dX3_add_20 (by decide) ?_
      refine lv_goto (tgt := 45) hx hb dX3_add_21 (by decide) ?_
      refine y_calli (va_runV (As := [.int (nI 1)]) (rest := []) ⟨hx, hb, hml, hown, hts⟩ (k_X3_goes l D G h0 c r o 1 (by decide)) (cwV 1 hts gX3_add_X3_goes rfl rfl rfl (by decide +kernel) ⟨Nat.le_of_ble_eq_true rfl, Nat.le_of_ble_eq_true rfl⟩) ⟨fun a U g mk q => ⟨q.1, Pr_cg q.2⟩, va_recv (ci := 4) (q0 := 3) hK hP rfl (Q_m hRr), fun U hU hW => ⟨rfl, Pr_mk hE hRc hRr hRo hP hD hS hU hW⟩⟩ rfl rfl hl.1 rfl (lv_room (Nat.le_of_ble_eq_true rfl)) dX3_add_45 ⟨Nat.le_of_ble_eq_true rfl, Nat.le_of_ble_eq_true rfl⟩) hS (fun v9 _ H locs wl hv9 hRc hRr hRo hP hD hS => ?_)
      refine n_top (y := .int (nI 0)) (congrArg Value.int (hv9.trans (congrArg nI (bN_f (by decide))))) ?_
      clear hv9 v9
      refine n_if_ne (tgt := 53) hx hb dX3_add_48 (by decide) (by decide) (fun c_48 => absurd c_48 (by decide)) (fun c_48 => ?_)
      refine lv_iconst (v := nI 0) hx hb dX3_add_51 (by decide) ?_
      have hrel : (fun (v9 : Int32) (u9 : Nat → Nat → Nat) => (¬ (inR x 1 100 ∧ inR y 0 3) ∧ u9 = up2 r 30 22 1) ∨ ((inR x 1 100 ∧ inR y 0 3) ∧ ¬ (r 30 0 < 20 ∧ r 30 13 = 0) ∧ u9 = up2 r 30 22 2) ∨ (∃ t k, (1 ≤ t ∧ t ≤ 100) ∧ (0 ≤ k ∧ k ≤ 3) ∧ x = nI t ∧ y = nI k ∧ r 30 0 < 20 ∧ r 30 13 = 0 ∧ v9 = nI (r 30 0) ∧ u9 = up2 (up2 (up2 (up2 (up2 (up2 (up2 r 30 22 0) 1 (r 30 0) t) 3 (r 30 0) k) 2 (r 30 0) 10) 5 (r 30 0) 0) 17 (r 30 0) 0) 30 0 (r 30 0 + 1))) (nI 0) (up2 r 30 22 1) := by exact Or.inl ⟨fun z => c_17 z.2, rfl⟩
      exact W.iret (v := nI 0) hx hb hr (fun t ht hW => ⟨⟨_, (up2 r 30 22 1), rfl, hrel, Wr_mk hRc hRr hRo hP hD ht⟩, hS.F ht⟩) hS.2.2 dX3_add_52
set_option maxHeartbeats 4000000 in
set_option maxRecDepth 100000 in
theorem k_X3_need (l : Launch) (D : va_G) (G : Nat → Nat) (h0 : Nat) (c r : Nat → Nat → Nat) (o : Nat) (x y : Int32) (hI : IR r) : Met l yX3_need wsX3_need ({ frames := 2, cells := 0, slots := 0, locals := 48 } : Room) (va_Pc [.ref (G 3), .int x, .int y] (fun U => Pr D G h0 c r o U)) (va_Qi (fun (v9 : Int32) (u9 : Nat → Nat → Nat) => (¬ (okR r x ∧ okR r y) ∧ u9 = up2 r 30 22 1) ∨ (∃ a b ρ, a < r 30 0 ∧ b < r 30 0 ∧ x = nI a ∧ y = nI b ∧ ¬ (¬ Rch (eR r 0) b a ∧ r 30 13 = 0) ∧ (∀ a i, a ≠ 21 → ρ a i = up2 r 30 22 0 a i) ∧ (∀ i, ρ 21 i ≤ 1) ∧ u9 = up2 ρ 30 22 2) ∨ (∃ a b ρ, a < r 30 0 ∧ b < r 30 0 ∧ x = nI a ∧ y = nI b ∧ ¬ Rch (eR r 0) b a ∧ r 30 13 = 0 ∧ (∀ a i, a ≠ 21 → ρ a i = up2 r 30 22 0 a i) ∧ (∀ i, ρ 21 i ≤ 1) ∧ v9 = nI (r 7 (20 * a + b)) ∧ u9 = up2 (up2 ρ 30 22 0) 7 (20 * a + b) 1)) (fun (u9 : Nat → Nat → Nat) t => Wr D G h0 c u9 o t) (fun q => h0 ≤ q)) 0 0 (fun q => h0 ≤ q) := by
  refine Met.ofW (cc := cX3_need) (maxL := 4) (ret := (some .boolean)) (by decide) rfl ?_
  intro p e s m args below meth cd s₁ B hml hv
  obtain ⟨rfl, hE, wl, hRc, hRr, hRo, hP, hD⟩ := hv
  have hx := B.exec
  have hb := B.bytes
  have hr := B.returns
  have hts := atoms_spec (ws := wsX3_need) B.pre
  have hown : s.vm.findClass RX3 = some m.cls := findClass_of_methodNamed B.named
  have hlocks := B.notSynchronized
  have hK := hE.2.1
  have hS : va_S (fun q => h0 ≤ q) s.heap s.heap [] := va_S.rf
  have hl := lv_entry ([.ref (G 3), .int x, .int y]) (n := 4) (Nat.le_of_ble_eq_true rfl)
  rw [lg_entry_eq]
  generalize (lg_sl ([.ref (G 3), .int x, .int y]) ++ List.replicate (4 - (lg_sl ([.ref (G 3), .int x, .int y])).length) Slot.unset).toArray = ls at hl ⊢
  have hl : lv_has ls 4 [(0, .ref (G 3)), (1, .int x), (2, .int y)] := hl
  have inX3 : ∀ w ∈ wsX30, w ∈ wsX3_need := by decide +kernel
  have hBr := IR_B hI
  have hn := IR_n hI
  have hs := IR_s hI
  have hIt : IR (up2 r 30 22 0) := IR_obj hI (Or.inr (Or.inr (Or.inr (Or.inr (Or.inr (Or.inr ⟨rfl, by decide⟩))))))
  have h21 : ∀ i, up2 r 30 22 0 21 i ≤ 1 := fun i => by have h9 := IR_U hIt i; unfold RU at h9; omega
  refine lv_aload_n hx hb dX3_need_0 rfl (lv_at hl 0 rfl) ?_
  refine lv_aload_n hx hb dX3_need_1 rfl (lv_at hl 0 rfl) ?_
  refine lv_iload_n hx hb dX3_need_2 rfl (lv_at hl 1 rfl) ?_
  refine y_calli (va_runV (As := [.int x]) (rest := [.ref (G 3)]) ⟨hx, hb, hml, hown, hts⟩ (k_X3_isUnit l D G h0 c r o x (by first | exact hn | assumption)) (cwV 1 hts gX3_need_X3_isUnit rfl rfl rfl (by decide +kernel) ⟨Nat.le_of_ble_eq_true rfl, Nat.le_of_ble_eq_true rfl⟩) ⟨fun a U g mk q => ⟨q.1, Pr_cg q.2⟩, va_recv (ci := 4) (q0 := 3) hK hP rfl (Q_m hRr), fun U hU hW => ⟨rfl, Pr_mk hE hRc hRr hRo hP hD hS hU hW⟩⟩ rfl rfl hl.1 rfl (lv_room (Nat.le_of_ble_eq_true rfl)) dX3_need_3 ⟨Nat.le_of_ble_eq_true rfl, Nat.le_of_ble_eq_true rfl⟩) hS (fun v9 _ H locs wl hv9 hRc hRr hRo hP hD hS => ?_)
  refine n_top (y := .int (nI (bN (okR r x)))) (congrArg Value.int hv9) ?_
  clear hv9 v9
  refine n_ifb_eq (tgt := 21) hx hb dX3_need_6 (by decide) (fun c_6 => ?_) (fun c_6 => ?_)
  · refine lv_iconst (v := nI 1) hx hb dX3_need_21 (by decide) ?_
    refine y_calli (va_runV (As := [.int (nI 1)]) (rest := []) ⟨hx, hb, hml, hown, hts⟩ (k_X3_goes l D G h0 c r o 1 (by decide)) (cwV 1 hts gX3_need_X3_goes rfl rfl rfl (by decide +kernel) ⟨Nat.le_of_ble_eq_true rfl, Nat.le_of_ble_eq_true rfl⟩) ⟨fun a U g mk q => ⟨q.1, Pr_cg q.2⟩, va_recv (ci := 4) (q0 := 3) hK hP rfl (Q_m hRr), fun U hU hW => ⟨rfl, Pr_mk hE hRc hRr hRo hP hD hS hU hW⟩⟩ rfl rfl hl.1 rfl (lv_room (Nat.le_of_ble_eq_true rfl)) dX3_need_22 ⟨Nat.le_of_ble_eq_true rfl, Nat.le_of_ble_eq_true rfl⟩) hS (fun v9 _ H locs wl hv9 hRc hRr hRo hP hD hS => ?_)
    refine n_top (y := .int (nI 0)) (congrArg Value.int (hv9.trans (congrArg nI (bN_f (by decide))))) ?_
    clear hv9 v9
    refine n_if_ne (tgt := 30) hx hb dX3_need_25 (by decide) (by decide) (fun c_25 => absurd c_25 (by decide)) (fun c_25 => ?_)
    refine lv_iconst (v := nI 0) hx hb dX3_need_28 (by decide) ?_
    have hrel : (fun (v9 : Int32) (u9 : Nat → Nat → Nat) => (¬ (okR r x ∧ okR r y) ∧ u9 = up2 r 30 22 1) ∨ (∃ a b ρ, a < r 30 0 ∧ b < r 30 0 ∧ x = nI a ∧ y = nI b ∧ ¬ (¬ Rch (eR r 0) b a ∧ r 30 13 = 0) ∧ (∀ a i, a ≠ 21 → ρ a i = up2 r 30 22 0 a i) ∧ (∀ i, ρ 21 i ≤ 1) ∧ u9 = up2 ρ 30 22 2) ∨ (∃ a b ρ, a < r 30 0 ∧ b < r 30 0 ∧ x = nI a ∧ y = nI b ∧ ¬ Rch (eR r 0) b a ∧ r 30 13 = 0 ∧ (∀ a i, a ≠ 21 → ρ a i = up2 r 30 22 0 a i) ∧ (∀ i, ρ 21 i ≤ 1) ∧ v9 = nI (r 7 (20 * a + b)) ∧ u9 = up2 (up2 ρ 30 22 0) 7 (20 * a + b) 1)) (nI 0) (up2 r 30 22 1) := by exact Or.inl ⟨fun z => c_6 z.1, rfl⟩
    exact W.zret (v := nI 0) (ty := .boolean) hx hb hr (nb_le (by first | exact bN_le _ | decide | omega | assumption)) (fun t ht hW => ⟨⟨_, (up2 r 30 22 1), rfl, hrel, Wr_mk hRc hRr hRo hP hD ht⟩, hS.F ht⟩) hS.2.2 dX3_need_29
  · obtain ⟨j_x, hj_x, hx_x⟩ := c_6
    refine lv_aload_n hx hb dX3_need_9 rfl (lv_at hl 0 rfl) ?_
    refine lv_iload_n hx hb dX3_need_10 rfl (lv_at hl 2 rfl) ?_
    refine y_calli (va_runV (As := [.int y]) (rest := [.ref (G 3)]) ⟨hx, hb, hml, hown, hts⟩ (k_X3_isUnit l D G h0 c r o y (by first | exact hn | assumption)) (cwV 1 hts gX3_need_X3_isUnit rfl rfl rfl (by decide +kernel) ⟨Nat.le_of_ble_eq_true rfl, Nat.le_of_ble_eq_true rfl⟩) ⟨fun a U g mk q => ⟨q.1, Pr_cg q.2⟩, va_recv (ci := 4) (q0 := 3) hK hP rfl (Q_m hRr), fun U hU hW => ⟨rfl, Pr_mk hE hRc hRr hRo hP hD hS hU hW⟩⟩ rfl rfl hl.1 rfl (lv_room (Nat.le_of_ble_eq_true rfl)) dX3_need_11 ⟨Nat.le_of_ble_eq_true rfl, Nat.le_of_ble_eq_true rfl⟩) hS (fun v9 _ H locs wl hv9 hRc hRr hRo hP hD hS => ?_)
    refine n_top (y := .int (nI (bN (okR r y)))) (congrArg Value.int hv9) ?_
    clear hv9 v9
    refine n_ifb_eq (tgt := 21) hx hb dX3_need_14 (by decide) (fun c_14 => ?_) (fun c_14 => ?_)
    · refine lv_iconst (v := nI 1) hx hb dX3_need_21 (by decide) ?_
      refine y_calli (va_runV (As := [.int (nI 1)]) (rest := []) ⟨hx, hb, hml, hown, hts⟩ (k_X3_goes l D G h0 c r o 1 (by decide)) (cwV 1 hts gX3_need_X3_goes rfl rfl rfl (by decide +kernel) ⟨Nat.le_of_ble_eq_true rfl, Nat.le_of_ble_eq_true rfl⟩) ⟨fun a U g mk q => ⟨q.1, Pr_cg q.2⟩, va_recv (ci := 4) (q0 := 3) hK hP rfl (Q_m hRr), fun U hU hW => ⟨rfl, Pr_mk hE hRc hRr hRo hP hD hS hU hW⟩⟩ rfl rfl hl.1 rfl (lv_room (Nat.le_of_ble_eq_true rfl)) dX3_need_22 ⟨Nat.le_of_ble_eq_true rfl, Nat.le_of_ble_eq_true rfl⟩) hS (fun v9 _ H locs wl hv9 hRc hRr hRo hP hD hS => ?_)
      refine n_top (y := .int (nI 0)) (congrArg Value.int (hv9.trans (congrArg nI (bN_f (by decide))))) ?_
      clear hv9 v9
      refine n_if_ne (tgt := 30) hx hb dX3_need_25 (by decide) (by decide) (fun c_25 => absurd c_25 (by decide)) (fun c_25 => ?_)
      refine lv_iconst (v := nI 0) hx hb dX3_need_28 (by decide) ?_
      have hrel : (fun (v9 : Int32) (u9 : Nat → Nat → Nat) => (¬ (okR r x ∧ okR r y) ∧ u9 = up2 r 30 22 1) ∨ (∃ a b ρ, a < r 30 0 ∧ b < r 30 0 ∧ x = nI a ∧ y = nI b ∧ ¬ (¬ Rch (eR r 0) b a ∧ r 30 13 = 0) ∧ (∀ a i, a ≠ 21 → ρ a i = up2 r 30 22 0 a i) ∧ (∀ i, ρ 21 i ≤ 1) ∧ u9 = up2 ρ 30 22 2) ∨ (∃ a b ρ, a < r 30 0 ∧ b < r 30 0 ∧ x = nI a ∧ y = nI b ∧ ¬ Rch (eR r 0) b a ∧ r 30 13 = 0 ∧ (∀ a i, a ≠ 21 → ρ a i = up2 r 30 22 0 a i) ∧ (∀ i, ρ 21 i ≤ 1) ∧ v9 = nI (r 7 (20 * a + b)) ∧ u9 = up2 (up2 ρ 30 22 0) 7 (20 * a + b) 1)) (nI 0) (up2 r 30 22 1) := by exact Or.inl ⟨fun z => c_14 z.2, rfl⟩
      exact W.zret (v := nI 0) (ty := .boolean) hx hb hr (nb_le (by first | exact bN_le _ | decide | omega | assumption)) (fun t ht hW => ⟨⟨_, (up2 r 30 22 1), rfl, hrel, Wr_mk hRc hRr hRo hP hD ht⟩, hS.F ht⟩) hS.2.2 dX3_need_29
    · obtain ⟨j_y, hj_y, hx_y⟩ := c_14
      refine lv_iconst (v := nI 0) hx hb dX3_need_17 (by decide) ?_
      refine lv_goto (tgt := 22) hx hb dX3_need_18 (by decide) ?_
      refine y_calli (va_runV (As := [.int (nI 0)]) (rest := []) ⟨hx, hb, hml, hown, hts⟩ (k_X3_goes l D G h0 c r o 0 (by decide)) (cwV 1 hts gX3_need_X3_goes rfl rfl rfl (by decide +kernel) ⟨Nat.le_of_ble_eq_true rfl, Nat.le_of_ble_eq_true rfl⟩) ⟨fun a U g mk q => ⟨q.1, Pr_cg q.2⟩, va_recv (ci := 4) (q0 := 3) hK hP rfl (Q_m hRr), fun U hU hW => ⟨rfl, Pr_mk hE hRc hRr hRo hP hD hS hU hW⟩⟩ rfl rfl hl.1 rfl (lv_room (Nat.le_of_ble_eq_true rfl)) dX3_need_22 ⟨Nat.le_of_ble_eq_true rfl, Nat.le_of_ble_eq_true rfl⟩) hS (fun v9 _ H locs wl hv9 hRc hRr hRo hP hD hS => ?_)
      refine n_top (y := .int (nI 1)) (congrArg Value.int (hv9.trans (congrArg nI (bN_t rfl)))) ?_
      clear hv9 v9
      refine n_if_ne (tgt := 30) hx hb dX3_need_25 (by decide) (by decide) (fun c_25 => ?_) (fun c_25 => absurd c_25 (by decide))
      refine lv_aload_n hx hb dX3_need_30 rfl (lv_at hl 0 rfl) ?_
      refine lv_aload_n hx hb dX3_need_31 rfl (lv_at hl 0 rfl) ?_
      refine va_get (D := D) (ci := 4) (v := .int (nI (r 30 13))) (C := RX3) (T := TX3) (N := 23) hx hb hts inX3 hown hK hP 3 (Q_m hRr) rfl 13 (by decide) (hts (.fieldLink RX3 67 "BootStageModel" "goesOn" "Z") (by decide +kernel)) (fun _ h9 => h9) (congrArg (fun z => some (Value.int (nI z))) (show (up2 r 30 22 0) 30 13 = r 30 13 from by simp [up2])) dX3_need_32 ?_
      refine n_if_ne (tgt := 48) hx hb dX3_need_35 (by decide) (hBr _ _ (by decide)) (fun c_35 => ?_) (fun c_35 => ?_)
      · refine lv_iconst (v := nI 2) hx hb dX3_need_48 (by decide) ?_
        refine lv_goto (tgt := 53) hx hb dX3_need_49 (by decide) ?_
        refine y_calli (va_runV (As := [.int (nI 2)]) (rest := []) ⟨hx, hb, hml, hown, hts⟩ (k_X3_goes l D G h0 c (up2 r 30 22 0) o 2 (by decide)) (cwV 1 hts gX3_need_X3_goes rfl rfl rfl (by decide +kernel) ⟨Nat.le_of_ble_eq_true rfl, Nat.le_of_ble_eq_true rfl⟩) ⟨fun a U g mk q => ⟨q.1, Pr_cg q.2⟩, va_recv (ci := 4) (q0 := 3) hK hP rfl (Q_m hRr), fun U hU hW => ⟨rfl, Pr_mk hE hRc hRr hRo hP hD hS hU hW⟩⟩ rfl rfl hl.1 rfl (lv_room (Nat.le_of_ble_eq_true rfl)) dX3_need_53 ⟨Nat.le_of_ble_eq_true rfl, Nat.le_of_ble_eq_true rfl⟩) hS (fun v9 _ H locs wl hv9 hRc hRr hRo hP hD hS => ?_)
        refine n_top (y := .int (nI 0)) (congrArg Value.int (hv9.trans (congrArg nI (bN_f (by decide))))) ?_
        clear hv9 v9
        refine n_if_ne (tgt := 61) hx hb dX3_need_56 (by decide) (by decide) (fun c_56 => absurd c_56 (by decide)) (fun c_56 => ?_)
        refine lv_iconst (v := nI 0) hx hb dX3_need_59 (by decide) ?_
        have hrel : (fun (v9 : Int32) (u9 : Nat → Nat → Nat) => (¬ (okR r x ∧ okR r y) ∧ u9 = up2 r 30 22 1) ∨ (∃ a b ρ, a < r 30 0 ∧ b < r 30 0 ∧ x = nI a ∧ y = nI b ∧ ¬ (¬ Rch (eR r 0) b a ∧ r 30 13 = 0) ∧ (∀ a i, a ≠ 21 → ρ a i = up2 r 30 22 0 a i) ∧ (∀ i, ρ 21 i ≤ 1) ∧ u9 = up2 ρ 30 22 2) ∨ (∃ a b ρ, a < r 30 0 ∧ b < r 30 0 ∧ x = nI a ∧ y = nI b ∧ ¬ Rch (eR r 0) b a ∧ r 30 13 = 0 ∧ (∀ a i, a ≠ 21 → ρ a i = up2 r 30 22 0 a i) ∧ (∀ i, ρ 21 i ≤ 1) ∧ v9 = nI (r 7 (20 * a + b)) ∧ u9 = up2 (up2 ρ 30 22 0) 7 (20 * a + b) 1)) (nI 0) (up2 (up2 r 30 22 0) 30 22 2) := by exact Or.inr (Or.inl ⟨j_x, j_y, up2 r 30 22 0, hj_x, hj_y, hx_x, hx_y, fun z => absurd z.2 (by omega), fun _ _ _ => rfl, h21, rfl⟩)
        exact W.zret (v := nI 0) (ty := .boolean) hx hb hr (nb_le (by first | exact bN_le _ | decide | omega | assumption)) (fun t ht hW => ⟨⟨_, (up2 (up2 r 30 22 0) 30 22 2), rfl, hrel, Wr_mk hRc hRr hRo hP hD ht⟩, hS.F ht⟩) hS.2.2 dX3_need_60
      · refine lv_aload_n hx hb dX3_need_38 rfl (lv_at hl 0 rfl) ?_
        refine lv_iload_n hx hb dX3_need_39 rfl (lv_at hl 2 rfl) ?_
        refine n_top (y := .int (nI j_y)) (congrArg Value.int hx_y) ?_
        refine lv_iload_n hx hb dX3_need_40 rfl (lv_at hl 1 rfl) ?_
        refine n_top (y := .int (nI j_x)) (congrArg Value.int hx_x) ?_
        refine lv_iconst (v := nI 0) hx hb dX3_need_41 (by decide) ?_
        refine y_calli (va_runV (As := [.int (nI j_y), .int (nI j_x), .int (nI 0)]) (rest := [.ref (G 3)]) ⟨hx, hb, hml, hown, hts⟩ (k_X3_reaches l D G h0 c (up2 r 30 22 0) o hIt j_y j_x 0 (by exact hj_y) (by exact hj_x) (by decide)) (cwV 3 hts gX3_need_X3_reaches rfl rfl rfl (by decide +kernel) ⟨Nat.le_of_ble_eq_true rfl, Nat.le_of_ble_eq_true rfl⟩) ⟨fun a U g mk q => ⟨q.1, Pr_cg q.2⟩, va_recv (ci := 4) (q0 := 3) hK hP rfl (Q_m hRr), fun U hU hW => ⟨rfl, Pr_mk hE hRc hRr hRo hP hD hS hU hW⟩⟩ rfl rfl hl.1 rfl (lv_room (Nat.le_of_ble_eq_true rfl)) dX3_need_42 ⟨Nat.le_of_ble_eq_true rfl, Nat.le_of_ble_eq_true rfl⟩) hS (fun v9 u_42 H locs wl hv9 hRc hRr hRo hP hD hS => ?_)
        obtain ⟨hv9, ho_42, hb_42⟩ := hv9
        refine n_top (y := .int (nI (bN (Rch (eR (up2 r 30 22 0) 0) j_y j_x)))) (congrArg Value.int hv9) ?_
        clear hv9
        refine n_ifb_eq (tgt := 52) hx hb dX3_need_45 (by decide) (fun c_45 => ?_) (fun c_45 => ?_)
        · refine lv_iconst (v := nI 0) hx hb dX3_need_52 (by decide) ?_
          refine y_calli (va_runV (As := [.int (nI 0)]) (rest := []) ⟨hx, hb, hml, hown, hts⟩ (k_X3_goes l D G h0 c u_42 o 0 (by decide)) (cwV 1 hts gX3_need_X3_goes rfl rfl rfl (by decide +kernel) ⟨Nat.le_of_ble_eq_true rfl, Nat.le_of_ble_eq_true rfl⟩) ⟨fun a U g mk q => ⟨q.1, Pr_cg q.2⟩, va_recv (ci := 4) (q0 := 3) hK hP rfl (Q_m hRr), fun U hU hW => ⟨rfl, Pr_mk hE hRc hRr hRo hP hD hS hU hW⟩⟩ rfl rfl hl.1 rfl (lv_room (Nat.le_of_ble_eq_true rfl)) dX3_need_53 ⟨Nat.le_of_ble_eq_true rfl, Nat.le_of_ble_eq_true rfl⟩) hS (fun v9 _ H locs wl hv9 hRc hRr hRo hP hD hS => ?_)
          refine n_top (y := .int (nI 1)) (congrArg Value.int (hv9.trans (congrArg nI (bN_t rfl)))) ?_
          clear hv9 v9
          refine n_if_ne (tgt := 61) hx hb dX3_need_56 (by decide) (by decide) (fun c_56 => ?_) (fun c_56 => absurd c_56 (by decide))
          refine lv_aload_n hx hb dX3_need_61 rfl (lv_at hl 0 rfl) ?_
          refine va_get (D := D) (ci := 4) (v := .ref (G 11)) (C := RX3) (T := TX3) (N := 23) hx hb hts inX3 hown hK hP 3 (Q_m hRr) rfl 7 (by decide) (hts (.fieldLink RX3 29 "BootStageModel" "needs" "[Z") (by decide +kernel)) (fun _ h9 => h9) rfl dX3_need_62 ?_
          refine lv_iload_n hx hb dX3_need_65 rfl (lv_at hl 1 rfl) ?_
          refine n_top (y := .int (nI j_x)) (congrArg Value.int hx_x) ?_
          refine lv_iload_n hx hb dX3_need_66 rfl (lv_at hl 2 rfl) ?_
          refine n_top (y := .int (nI j_y)) (congrArg Value.int hx_y) ?_
          refine y_calli (va_runS (As := [.int (nI j_x), .int (nI j_y)]) (rest := [.ref (G 11)]) ⟨hx, hb, hml, hown, hts⟩ (k_X3_edge l D G h0 c (up2 u_42 30 22 0) o j_x j_y) (va_cwS 2 hts gX3_need_X3_edge rfl rfl rfl (by decide +kernel) ⟨Nat.le_of_ble_eq_true rfl, Nat.le_of_ble_eq_true rfl⟩) ⟨fun a U g mk q => ⟨q.1, Pr_cg q.2⟩, fun U hU hW => ⟨rfl, Pr_mk hE hRc hRr hRo hP hD hS hU hW⟩⟩ rfl rfl hl.1 rfl (lv_room (Nat.le_of_ble_eq_true rfl)) dX3_need_67 ⟨Nat.le_of_ble_eq_true rfl, Nat.le_of_ble_eq_true rfl⟩) hS (fun v9 _ H locs wl hv9 hRc hRr hRo hP hD hS => ?_)
          refine n_top (y := .int (nI (20 * j_x + j_y))) (congrArg Value.int hv9) ?_
          clear hv9 v9
          refine x_zald hx hb hK hP 11 (Q_a7 hRr) (by first | omega | decide | assumption) (by decide) dX3_need_70 (v := nI (u_42 7 (20 * j_x + j_y))) (congrArg nI (show (up2 u_42 30 22 0) 7 (20 * j_x + j_y) = u_42 7 (20 * j_x + j_y) from by simp [up2])) ?_
          refine lv_istore_n (lv' := [(3, .int (nI (u_42 7 (20 * j_x + j_y)))), (0, .ref (G 3)), (1, .int x), (2, .int y)]) hx hb dX3_need_71 rfl hl (by decide) rfl (fun ls hl => ?_)
          refine lv_aload_n hx hb dX3_need_72 rfl (lv_at hl 1 rfl) ?_
          refine va_get (D := D) (ci := 4) (v := .ref (G 11)) (C := RX3) (T := TX3) (N := 23) hx hb hts inX3 hown hK hP 3 (Q_m hRr) rfl 7 (by decide) (hts (.fieldLink RX3 29 "BootStageModel" "needs" "[Z") (by decide +kernel)) (fun _ h9 => h9) rfl dX3_need_73 ?_
          refine lv_iload_n hx hb dX3_need_76 rfl (lv_at hl 2 rfl) ?_
          refine n_top (y := .int (nI j_x)) (congrArg Value.int hx_x) ?_
          refine lv_iload_n hx hb dX3_need_77 rfl (lv_at hl 3 rfl) ?_
          refine n_top (y := .int (nI j_y)) (congrArg Value.int hx_y) ?_
          refine y_calli (va_runS (As := [.int (nI j_x), .int (nI j_y)]) (rest := [.ref (G 11)]) ⟨hx, hb, hml, hown, hts⟩ (k_X3_edge l D G h0 c (up2 u_42 30 22 0) o j_x j_y) (va_cwS 2 hts gX3_need_X3_edge rfl rfl rfl (by decide +kernel) ⟨Nat.le_of_ble_eq_true rfl, Nat.le_of_ble_eq_true rfl⟩) ⟨fun a U g mk q => ⟨q.1, Pr_cg q.2⟩, fun U hU hW => ⟨rfl, Pr_mk hE hRc hRr hRo hP hD hS hU hW⟩⟩ rfl rfl hl.1 rfl (lv_room (Nat.le_of_ble_eq_true rfl)) dX3_need_78 ⟨Nat.le_of_ble_eq_true rfl, Nat.le_of_ble_eq_true rfl⟩) hS (fun v9 _ H locs wl hv9 hRc hRr hRo hP hD hS => ?_)
          refine n_top (y := .int (nI (20 * j_x + j_y))) (congrArg Value.int hv9) ?_
          clear hv9 v9
          refine lv_iconst (v := nI 1) hx hb dX3_need_81 (by decide) ?_
          refine x_zast (Z := fun wl => Rc G c wl ∧ Rr G (up2 (up2 u_42 30 22 0) 7 (20 * j_x + j_y) 1) wl ∧ Ro G o wl) hx hb hK hP hD hS 11 (Q_a7 hRr) (by first | omega | decide | assumption) (by decide) dX3_need_82 ⟨Rc_fr hRc (by decide) (by decide), P_a7 1 (by first | omega | decide | assumption) (by first | exact bN_le _ | decide | omega | assumption) hRr, Ro_fr hRo (by decide)⟩ (fun H locs wl hZ hP hD hS => ?_)
          obtain ⟨hRc, hRr, hRo⟩ := hZ
          refine lv_iload_n hx hb dX3_need_83 rfl (lv_at hl 0 rfl) ?_
          have hrel : (fun (v9 : Int32) (u9 : Nat → Nat → Nat) => (¬ (okR r x ∧ okR r y) ∧ u9 = up2 r 30 22 1) ∨ (∃ a b ρ, a < r 30 0 ∧ b < r 30 0 ∧ x = nI a ∧ y = nI b ∧ ¬ (¬ Rch (eR r 0) b a ∧ r 30 13 = 0) ∧ (∀ a i, a ≠ 21 → ρ a i = up2 r 30 22 0 a i) ∧ (∀ i, ρ 21 i ≤ 1) ∧ u9 = up2 ρ 30 22 2) ∨ (∃ a b ρ, a < r 30 0 ∧ b < r 30 0 ∧ x = nI a ∧ y = nI b ∧ ¬ Rch (eR r 0) b a ∧ r 30 13 = 0 ∧ (∀ a i, a ≠ 21 → ρ a i = up2 r 30 22 0 a i) ∧ (∀ i, ρ 21 i ≤ 1) ∧ v9 = nI (r 7 (20 * a + b)) ∧ u9 = up2 (up2 ρ 30 22 0) 7 (20 * a + b) 1)) (nI (u_42 7 (20 * j_x + j_y))) (up2 (up2 u_42 30 22 0) 7 (20 * j_x + j_y) 1) := by exact Or.inr (Or.inr ⟨j_x, j_y, u_42, hj_x, hj_y, hx_x, hx_y, c_45, c_35, ho_42, hb_42, congrArg nI (ho_42 7 _ (by decide)), rfl⟩)
          exact W.zret (v := nI (u_42 7 (20 * j_x + j_y))) (ty := .boolean) hx hb hr (nb_le (by exact (show u_42 7 _ ≤ 1 by rw [ho_42 7 _ (by decide)]; exact (IR_E hI _).1))) (fun t ht hW => ⟨⟨_, (up2 (up2 u_42 30 22 0) 7 (20 * j_x + j_y) 1), rfl, hrel, Wr_mk hRc hRr hRo hP hD ht⟩, hS.F ht⟩) hS.2.2 dX3_need_84
        · refine lv_iconst (v := nI 2) hx hb dX3_need_48 (by decide) ?_
          refine lv_goto (tgt := 53) hx hb dX3_need_49 (by decide) ?_
          refine y_calli (va_runV (As := [.int (nI 2)]) (rest := []) ⟨hx, hb, hml, hown, hts⟩ (k_X3_goes l D G h0 c u_42 o 2 (by decide)) (cwV 1 hts gX3_need_X3_goes rfl rfl rfl (by decide +kernel) ⟨Nat.le_of_ble_eq_true rfl, Nat.le_of_ble_eq_true rfl⟩) ⟨fun a U g mk q => ⟨q.1, Pr_cg q.2⟩, va_recv (ci := 4) (q0 := 3) hK hP rfl (Q_m hRr), fun U hU hW => ⟨rfl, Pr_mk hE hRc hRr hRo hP hD hS hU hW⟩⟩ rfl rfl hl.1 rfl (lv_room (Nat.le_of_ble_eq_true rfl)) dX3_need_53 ⟨Nat.le_of_ble_eq_true rfl, Nat.le_of_ble_eq_true rfl⟩) hS (fun v9 _ H locs wl hv9 hRc hRr hRo hP hD hS => ?_)
          refine n_top (y := .int (nI 0)) (congrArg Value.int (hv9.trans (congrArg nI (bN_f (by decide))))) ?_
          clear hv9 v9
          refine n_if_ne (tgt := 61) hx hb dX3_need_56 (by decide) (by decide) (fun c_56 => absurd c_56 (by decide)) (fun c_56 => ?_)
          refine lv_iconst (v := nI 0) hx hb dX3_need_59 (by decide) ?_
          have hrel : (fun (v9 : Int32) (u9 : Nat → Nat → Nat) => (¬ (okR r x ∧ okR r y) ∧ u9 = up2 r 30 22 1) ∨ (∃ a b ρ, a < r 30 0 ∧ b < r 30 0 ∧ x = nI a ∧ y = nI b ∧ ¬ (¬ Rch (eR r 0) b a ∧ r 30 13 = 0) ∧ (∀ a i, a ≠ 21 → ρ a i = up2 r 30 22 0 a i) ∧ (∀ i, ρ 21 i ≤ 1) ∧ u9 = up2 ρ 30 22 2) ∨ (∃ a b ρ, a < r 30 0 ∧ b < r 30 0 ∧ x = nI a ∧ y = nI b ∧ ¬ Rch (eR r 0) b a ∧ r 30 13 = 0 ∧ (∀ a i, a ≠ 21 → ρ a i = up2 r 30 22 0 a i) ∧ (∀ i, ρ 21 i ≤ 1) ∧ v9 = nI (r 7 (20 * a + b)) ∧ u9 = up2 (up2 ρ 30 22 0) 7 (20 * a + b) 1)) (nI 0) (up2 u_42 30 22 2) := by exact Or.inr (Or.inl ⟨j_x, j_y, u_42, hj_x, hj_y, hx_x, hx_y, fun z => z.1 c_45, ho_42, hb_42, rfl⟩)
          exact W.zret (v := nI 0) (ty := .boolean) hx hb hr (nb_le (by first | exact bN_le _ | decide | omega | assumption)) (fun t ht hW => ⟨⟨_, (up2 u_42 30 22 2), rfl, hrel, Wr_mk hRc hRr hRo hP hD ht⟩, hS.F ht⟩) hS.2.2 dX3_need_60
set_option maxHeartbeats 4000000 in
set_option maxRecDepth 100000 in
theorem k_X3_wish (l : Launch) (D : va_G) (G : Nat → Nat) (h0 : Nat) (c r : Nat → Nat → Nat) (o : Nat) (x y z : Int32) (hI : IR r) : Met l yX3_wish wsX3_wish ({ frames := 2, cells := 0, slots := 0, locals := 43 } : Room) (va_Pc [.ref (G 3), .int x, .int y, .int z] (fun U => Pr D G h0 c r o U)) (va_Qi (fun (v9 : Int32) (u9 : Nat → Nat → Nat) => (¬ (okR r x ∧ okR r y) ∧ u9 = up2 r 30 22 1) ∨ (okR r x ∧ okR r y ∧ ¬ (inR z 1 100 ∧ x ≠ y) ∧ u9 = up2 r 30 22 2) ∨ (okR r x ∧ okR r y ∧ (inR z 1 100 ∧ x ≠ y) ∧ r 30 13 ≠ 0 ∧ u9 = up2 r 30 22 3) ∨ (∃ a b t, a < r 30 0 ∧ b < r 30 0 ∧ x = nI a ∧ y = nI b ∧ a ≠ b ∧ (1 ≤ t ∧ t ≤ 100) ∧ z = nI t ∧ r 30 13 = 0 ∧ v9 = nI (r 8 (20 * a + b)) ∧ ((r 8 (20 * a + b) = 0 ∧ u9 = up2 (up2 (up2 (up2 r 30 22 0) 8 (20 * a + b) t) 9 (20 * a + b) (r 30 10)) 30 10 (r 30 10 + 1)) ∨ (0 < r 8 (20 * a + b) ∧ u9 = up2 (up2 (up2 (up2 r 30 22 0) 8 (20 * a + b) t) 9 (20 * a + b) (r 9 (20 * a + b))) 30 10 (r 30 10 + 0))))) (fun (u9 : Nat → Nat → Nat) t => Wr D G h0 c u9 o t) (fun q => h0 ≤ q)) 0 0 (fun q => h0 ≤ q) := by
  refine Met.ofW (cc := cX3_wish) (maxL := 6) (ret := (some .int)) (by decide) rfl ?_
  intro p e s m args below meth cd s₁ B hml hv
  obtain ⟨rfl, hE, wl, hRc, hRr, hRo, hP, hD⟩ := hv
  have hx := B.exec
  have hb := B.bytes
  have hr := B.returns
  have hts := atoms_spec (ws := wsX3_wish) B.pre
  have hown : s.vm.findClass RX3 = some m.cls := findClass_of_methodNamed B.named
  have hlocks := B.notSynchronized
  have hK := hE.2.1
  have hS : va_S (fun q => h0 ≤ q) s.heap s.heap [] := va_S.rf
  have hl := lv_entry ([.ref (G 3), .int x, .int y, .int z]) (n := 6) (Nat.le_of_ble_eq_true rfl)
  rw [lg_entry_eq]
  generalize (lg_sl ([.ref (G 3), .int x, .int y, .int z]) ++ List.replicate (6 - (lg_sl ([.ref (G 3), .int x, .int y, .int z])).length) Slot.unset).toArray = ls at hl ⊢
  have hl : lv_has ls 6 [(0, .ref (G 3)), (1, .int x), (2, .int y), (3, .int z)] := hl
  have inX3 : ∀ w ∈ wsX30, w ∈ wsX3_wish := by decide +kernel
  have hBr := IR_B hI
  have hn := IR_n hI
  have hs := IR_s hI
  refine lv_aload_n hx hb dX3_wish_0 rfl (lv_at hl 0 rfl) ?_
  refine lv_iload_n hx hb dX3_wish_1 rfl (lv_at hl 1 rfl) ?_
  refine y_calli (va_runV (As := [.int x]) (rest := []) ⟨hx, hb, hml, hown, hts⟩ (k_X3_isUnit l D G h0 c r o x (by first | exact hn | assumption)) (cwV 1 hts gX3_wish_X3_isUnit rfl rfl rfl (by decide +kernel) ⟨Nat.le_of_ble_eq_true rfl, Nat.le_of_ble_eq_true rfl⟩) ⟨fun a U g mk q => ⟨q.1, Pr_cg q.2⟩, va_recv (ci := 4) (q0 := 3) hK hP rfl (Q_m hRr), fun U hU hW => ⟨rfl, Pr_mk hE hRc hRr hRo hP hD hS hU hW⟩⟩ rfl rfl hl.1 rfl (lv_room (Nat.le_of_ble_eq_true rfl)) dX3_wish_2 ⟨Nat.le_of_ble_eq_true rfl, Nat.le_of_ble_eq_true rfl⟩) hS (fun v9 _ H locs wl hv9 hRc hRr hRo hP hD hS => ?_)
  refine n_top (y := .int (nI (bN (okR r x)))) (congrArg Value.int hv9) ?_
  clear hv9 v9
  refine n_ifb_eq (tgt := 20) hx hb dX3_wish_5 (by decide) (fun c_5 => ?_) (fun c_5 => ?_)
  · refine lv_iconst (v := nI 0) hx hb dX3_wish_20 (by decide) ?_
    refine lv_istore (lv' := [(4, .int (nI 0)), (0, .ref (G 3)), (1, .int x), (2, .int y), (3, .int z)]) hx hb dX3_wish_21 hl (by decide) rfl (fun ls hl => ?_)
    refine lv_aload_n hx hb dX3_wish_23 rfl (lv_at hl 1 rfl) ?_
    refine lv_iload hx hb dX3_wish_24 (lv_at hl 0 rfl) ?_
    refine n_if_ne (tgt := 33) hx hb dX3_wish_26 (by decide) (by decide) (fun c_26 => absurd c_26 (by decide)) (fun c_26 => ?_)
    refine lv_iconst (v := nI 1) hx hb dX3_wish_29 (by decide) ?_
    refine lv_goto (tgt := 64) hx hb dX3_wish_30 (by decide) ?_
    refine y_calli (va_runV (As := [.int (nI 1)]) (rest := []) ⟨hx, hb, hml, hown, hts⟩ (k_X3_goes l D G h0 c r o 1 (by decide)) (cwV 1 hts gX3_wish_X3_goes rfl rfl rfl (by decide +kernel) ⟨Nat.le_of_ble_eq_true rfl, Nat.le_of_ble_eq_true rfl⟩) ⟨fun a U g mk q => ⟨q.1, Pr_cg q.2⟩, va_recv (ci := 4) (q0 := 3) hK hP rfl (Q_m hRr), fun U hU hW => ⟨rfl, Pr_mk hE hRc hRr hRo hP hD hS hU hW⟩⟩ rfl rfl hl.1 rfl (lv_room (Nat.le_of_ble_eq_true rfl)) dX3_wish_64 ⟨Nat.le_of_ble_eq_true rfl, Nat.le_of_ble_eq_true rfl⟩) hS (fun v9 _ H locs wl hv9 hRc hRr hRo hP hD hS => ?_)
    refine n_top (y := .int (nI 0)) (congrArg Value.int (hv9.trans (congrArg nI (bN_f (by decide))))) ?_
    clear hv9 v9
    refine n_if_ne (tgt := 72) hx hb dX3_wish_67 (by decide) (by decide) (fun c_67 => absurd c_67 (by decide)) (fun c_67 => ?_)
    refine lv_iconst (v := nI 0) hx hb dX3_wish_70 (by decide) ?_
    have hrel : (fun (v9 : Int32) (u9 : Nat → Nat → Nat) => (¬ (okR r x ∧ okR r y) ∧ u9 = up2 r 30 22 1) ∨ (okR r x ∧ okR r y ∧ ¬ (inR z 1 100 ∧ x ≠ y) ∧ u9 = up2 r 30 22 2) ∨ (okR r x ∧ okR r y ∧ (inR z 1 100 ∧ x ≠ y) ∧ r 30 13 ≠ 0 ∧ u9 = up2 r 30 22 3) ∨ (∃ a b t, a < r 30 0 ∧ b < r 30 0 ∧ x = nI a ∧ y = nI b ∧ a ≠ b ∧ (1 ≤ t ∧ t ≤ 100) ∧ z = nI t ∧ r 30 13 = 0 ∧ v9 = nI (r 8 (20 * a + b)) ∧ ((r 8 (20 * a + b) = 0 ∧ u9 = up2 (up2 (up2 (up2 r 30 22 0) 8 (20 * a + b) t) 9 (20 * a + b) (r 30 10)) 30 10 (r 30 10 + 1)) ∨ (0 < r 8 (20 * a + b) ∧ u9 = up2 (up2 (up2 (up2 r 30 22 0) 8 (20 * a + b) t) 9 (20 * a + b) (r 9 (20 * a + b))) 30 10 (r 30 10 + 0))))) (nI 0) (up2 r 30 22 1) := by exact Or.inl ⟨fun z => c_5 z.1, rfl⟩
    exact W.iret (v := nI 0) hx hb hr (fun t ht hW => ⟨⟨_, (up2 r 30 22 1), rfl, hrel, Wr_mk hRc hRr hRo hP hD ht⟩, hS.F ht⟩) hS.2.2 dX3_wish_71
  · obtain ⟨j_x, hj_x, hx_x⟩ := c_5
    refine lv_aload_n hx hb dX3_wish_8 rfl (lv_at hl 0 rfl) ?_
    refine lv_iload_n hx hb dX3_wish_9 rfl (lv_at hl 2 rfl) ?_
    refine y_calli (va_runV (As := [.int y]) (rest := []) ⟨hx, hb, hml, hown, hts⟩ (k_X3_isUnit l D G h0 c r o y (by first | exact hn | assumption)) (cwV 1 hts gX3_wish_X3_isUnit rfl rfl rfl (by decide +kernel) ⟨Nat.le_of_ble_eq_true rfl, Nat.le_of_ble_eq_true rfl⟩) ⟨fun a U g mk q => ⟨q.1, Pr_cg q.2⟩, va_recv (ci := 4) (q0 := 3) hK hP rfl (Q_m hRr), fun U hU hW => ⟨rfl, Pr_mk hE hRc hRr hRo hP hD hS hU hW⟩⟩ rfl rfl hl.1 rfl (lv_room (Nat.le_of_ble_eq_true rfl)) dX3_wish_10 ⟨Nat.le_of_ble_eq_true rfl, Nat.le_of_ble_eq_true rfl⟩) hS (fun v9 _ H locs wl hv9 hRc hRr hRo hP hD hS => ?_)
    refine n_top (y := .int (nI (bN (okR r y)))) (congrArg Value.int hv9) ?_
    clear hv9 v9
    refine n_ifb_eq (tgt := 20) hx hb dX3_wish_13 (by decide) (fun c_13 => ?_) (fun c_13 => ?_)
    · refine lv_iconst (v := nI 0) hx hb dX3_wish_20 (by decide) ?_
      refine lv_istore (lv' := [(4, .int (nI 0)), (0, .ref (G 3)), (1, .int x), (2, .int y), (3, .int z)]) hx hb dX3_wish_21 hl (by decide) rfl (fun ls hl => ?_)
      refine lv_aload_n hx hb dX3_wish_23 rfl (lv_at hl 1 rfl) ?_
      refine lv_iload hx hb dX3_wish_24 (lv_at hl 0 rfl) ?_
      refine n_if_ne (tgt := 33) hx hb dX3_wish_26 (by decide) (by decide) (fun c_26 => absurd c_26 (by decide)) (fun c_26 => ?_)
      refine lv_iconst (v := nI 1) hx hb dX3_wish_29 (by decide) ?_
      refine lv_goto (tgt := 64) hx hb dX3_wish_30 (by decide) ?_
      refine y_calli (va_runV (As := [.int (nI 1)]) (rest := []) ⟨hx, hb, hml, hown, hts⟩ (k_X3_goes l D G h0 c r o 1 (by decide)) (cwV 1 hts gX3_wish_X3_goes rfl rfl rfl (by decide +kernel) ⟨Nat.le_of_ble_eq_true rfl, Nat.le_of_ble_eq_true rfl⟩) ⟨fun a U g mk q => ⟨q.1, Pr_cg q.2⟩, va_recv (ci := 4) (q0 := 3) hK hP rfl (Q_m hRr), fun U hU hW => ⟨rfl, Pr_mk hE hRc hRr hRo hP hD hS hU hW⟩⟩ rfl rfl hl.1 rfl (lv_room (Nat.le_of_ble_eq_true rfl)) dX3_wish_64 ⟨Nat.le_of_ble_eq_true rfl, Nat.le_of_ble_eq_true rfl⟩) hS (fun v9 _ H locs wl hv9 hRc hRr hRo hP hD hS => ?_)
      refine n_top (y := .int (nI 0)) (congrArg Value.int (hv9.trans (congrArg nI (bN_f (by decide))))) ?_
      clear hv9 v9
      refine n_if_ne (tgt := 72) hx hb dX3_wish_67 (by decide) (by decide) (fun c_67 => absurd c_67 (by decide)) (fun c_67 => ?_)
      refine lv_iconst (v := nI 0) hx hb dX3_wish_70 (by decide) ?_
      have hrel : (fun (v9 : Int32) (u9 : Nat → Nat → Nat) => (¬ (okR r x ∧ okR r y) ∧ u9 = up2 r 30 22 1) ∨ (okR r x ∧ okR r y ∧ ¬ (inR z 1 100 ∧ x ≠ y) ∧ u9 = up2 r 30 22 2) ∨ (okR r x ∧ okR r y ∧ (inR z 1 100 ∧ x ≠ y) ∧ r 30 13 ≠ 0 ∧ u9 = up2 r 30 22 3) ∨ (∃ a b t, a < r 30 0 ∧ b < r 30 0 ∧ x = nI a ∧ y = nI b ∧ a ≠ b ∧ (1 ≤ t ∧ t ≤ 100) ∧ z = nI t ∧ r 30 13 = 0 ∧ v9 = nI (r 8 (20 * a + b)) ∧ ((r 8 (20 * a + b) = 0 ∧ u9 = up2 (up2 (up2 (up2 r 30 22 0) 8 (20 * a + b) t) 9 (20 * a + b) (r 30 10)) 30 10 (r 30 10 + 1)) ∨ (0 < r 8 (20 * a + b) ∧ u9 = up2 (up2 (up2 (up2 r 30 22 0) 8 (20 * a + b) t) 9 (20 * a + b) (r 9 (20 * a + b))) 30 10 (r 30 10 + 0))))) (nI 0) (up2 r 30 22 1) := by exact Or.inl ⟨fun z => c_13 z.2, rfl⟩
      exact W.iret (v := nI 0) hx hb hr (fun t ht hW => ⟨⟨_, (up2 r 30 22 1), rfl, hrel, Wr_mk hRc hRr hRo hP hD ht⟩, hS.F ht⟩) hS.2.2 dX3_wish_71
    · obtain ⟨j_y, hj_y, hx_y⟩ := c_13
      refine lv_iconst (v := nI 1) hx hb dX3_wish_16 (by decide) ?_
      refine lv_goto (tgt := 21) hx hb dX3_wish_17 (by decide) ?_
      refine lv_istore (lv' := [(4, .int (nI 1)), (0, .ref (G 3)), (1, .int x), (2, .int y), (3, .int z)]) hx hb dX3_wish_21 hl (by decide) rfl (fun ls hl => ?_)
      refine lv_aload_n hx hb dX3_wish_23 rfl (lv_at hl 1 rfl) ?_
      refine lv_iload hx hb dX3_wish_24 (lv_at hl 0 rfl) ?_
      refine n_if_ne (tgt := 33) hx hb dX3_wish_26 (by decide) (by decide) (fun c_26 => ?_) (fun c_26 => absurd c_26 (by decide))
      refine lv_iload_n hx hb dX3_wish_33 rfl (lv_at hl 4 rfl) ?_
      refine lv_iconst (v := nI 1) hx hb dX3_wish_34 (by decide) ?_
      refine lv_bipush (v := nI 100) hx hb dX3_wish_35 (by decide) ?_
      refine y_calli (va_runS (As := [.int z, .int (nI 1), .int (nI 100)]) (rest := [.ref (G 3)]) ⟨hx, hb, hml, hown, hts⟩ (k_X3_isIn l D G h0 c r o z (nI 1) (nI 100)) (va_cwS 3 hts gX3_wish_X3_isIn rfl rfl rfl (by decide +kernel) ⟨Nat.le_of_ble_eq_true rfl, Nat.le_of_ble_eq_true rfl⟩) ⟨fun a U g mk q => ⟨q.1, Pr_cg q.2⟩, fun U hU hW => ⟨rfl, Pr_mk hE hRc hRr hRo hP hD hS hU hW⟩⟩ rfl rfl hl.1 rfl (lv_room (Nat.le_of_ble_eq_true rfl)) dX3_wish_37 ⟨Nat.le_of_ble_eq_true rfl, Nat.le_of_ble_eq_true rfl⟩) hS (fun v9 _ H locs wl hv9 hRc hRr hRo hP hD hS => ?_)
      refine n_top (y := .int (nI (bN (inR z 1 100)))) (congrArg Value.int hv9) ?_
      clear hv9 v9
      refine n_ifb_eq (tgt := 48) hx hb dX3_wish_40 (by decide) (fun c_40 => ?_) (fun c_40 => ?_)
      · refine lv_iconst (v := nI 2) hx hb dX3_wish_48 (by decide) ?_
        refine lv_goto (tgt := 64) hx hb dX3_wish_49 (by decide) ?_
        refine y_calli (va_runV (As := [.int (nI 2)]) (rest := []) ⟨hx, hb, hml, hown, hts⟩ (k_X3_goes l D G h0 c r o 2 (by decide)) (cwV 1 hts gX3_wish_X3_goes rfl rfl rfl (by decide +kernel) ⟨Nat.le_of_ble_eq_true rfl, Nat.le_of_ble_eq_true rfl⟩) ⟨fun a U g mk q => ⟨q.1, Pr_cg q.2⟩, va_recv (ci := 4) (q0 := 3) hK hP rfl (Q_m hRr), fun U hU hW => ⟨rfl, Pr_mk hE hRc hRr hRo hP hD hS hU hW⟩⟩ rfl rfl hl.1 rfl (lv_room (Nat.le_of_ble_eq_true rfl)) dX3_wish_64 ⟨Nat.le_of_ble_eq_true rfl, Nat.le_of_ble_eq_true rfl⟩) hS (fun v9 _ H locs wl hv9 hRc hRr hRo hP hD hS => ?_)
        refine n_top (y := .int (nI 0)) (congrArg Value.int (hv9.trans (congrArg nI (bN_f (by decide))))) ?_
        clear hv9 v9
        refine n_if_ne (tgt := 72) hx hb dX3_wish_67 (by decide) (by decide) (fun c_67 => absurd c_67 (by decide)) (fun c_67 => ?_)
        refine lv_iconst (v := nI 0) hx hb dX3_wish_70 (by decide) ?_
        have hrel : (fun (v9 : Int32) (u9 : Nat → Nat → Nat) => (¬ (okR r x ∧ okR r y) ∧ u9 = up2 r 30 22 1) ∨ (okR r x ∧ okR r y ∧ ¬ (inR z 1 100 ∧ x ≠ y) ∧ u9 = up2 r 30 22 2) ∨ (okR r x ∧ okR r y ∧ (inR z 1 100 ∧ x ≠ y) ∧ r 30 13 ≠ 0 ∧ u9 = up2 r 30 22 3) ∨ (∃ a b t, a < r 30 0 ∧ b < r 30 0 ∧ x = nI a ∧ y = nI b ∧ a ≠ b ∧ (1 ≤ t ∧ t ≤ 100) ∧ z = nI t ∧ r 30 13 = 0 ∧ v9 = nI (r 8 (20 * a + b)) ∧ ((r 8 (20 * a + b) = 0 ∧ u9 = up2 (up2 (up2 (up2 r 30 22 0) 8 (20 * a + b) t) 9 (20 * a + b) (r 30 10)) 30 10 (r 30 10 + 1)) ∨ (0 < r 8 (20 * a + b) ∧ u9 = up2 (up2 (up2 (up2 r 30 22 0) 8 (20 * a + b) t) 9 (20 * a + b) (r 9 (20 * a + b))) 30 10 (r 30 10 + 0))))) (nI 0) (up2 r 30 22 2) := by exact Or.inr (Or.inl ⟨⟨j_x, hj_x, hx_x⟩, ⟨j_y, hj_y, hx_y⟩, fun z => c_40 z.1, rfl⟩)
        exact W.iret (v := nI 0) hx hb hr (fun t ht hW => ⟨⟨_, (up2 r 30 22 2), rfl, hrel, Wr_mk hRc hRr hRo hP hD ht⟩, hS.F ht⟩) hS.2.2 dX3_wish_71
      · obtain ⟨t_z, ht_z, hx_z⟩ := inR_nI c_40 (by decide) (by decide)
        refine lv_iload_n hx hb dX3_wish_43 rfl (lv_at hl 2 rfl) ?_
        refine n_top (y := .int (nI j_x)) (congrArg Value.int hx_x) ?_
        refine lv_iload_n hx hb dX3_wish_44 rfl (lv_at hl 3 rfl) ?_
        refine n_top (y := .int (nI j_y)) (congrArg Value.int hx_y) ?_
        refine n_icmp_ne (tgt := 52) hx hb dX3_wish_45 (by decide) (by omega) (by omega) (fun c_45 => ?_) (fun c_45 => ?_)
        · refine lv_aload_n hx hb dX3_wish_52 rfl (lv_at hl 1 rfl) ?_
          refine va_get (D := D) (ci := 4) (v := .int (nI (r 30 13))) (C := RX3) (T := TX3) (N := 23) hx hb hts inX3 hown hK hP 3 (Q_m hRr) rfl 13 (by decide) (hts (.fieldLink RX3 67 "BootStageModel" "goesOn" "Z") (by decide +kernel)) (fun _ h9 => h9) rfl dX3_wish_53 ?_
          refine n_if_eq (tgt := 63) hx hb dX3_wish_56 (by decide) (hBr _ _ (by decide)) (fun c_56 => ?_) (fun c_56 => ?_)
          · refine lv_iconst (v := nI 0) hx hb dX3_wish_63 (by decide) ?_
            refine y_calli (va_runV (As := [.int (nI 0)]) (rest := []) ⟨hx, hb, hml, hown, hts⟩ (k_X3_goes l D G h0 c r o 0 (by decide)) (cwV 1 hts gX3_wish_X3_goes rfl rfl rfl (by decide +kernel) ⟨Nat.le_of_ble_eq_true rfl, Nat.le_of_ble_eq_true rfl⟩) ⟨fun a U g mk q => ⟨q.1, Pr_cg q.2⟩, va_recv (ci := 4) (q0 := 3) hK hP rfl (Q_m hRr), fun U hU hW => ⟨rfl, Pr_mk hE hRc hRr hRo hP hD hS hU hW⟩⟩ rfl rfl hl.1 rfl (lv_room (Nat.le_of_ble_eq_true rfl)) dX3_wish_64 ⟨Nat.le_of_ble_eq_true rfl, Nat.le_of_ble_eq_true rfl⟩) hS (fun v9 _ H locs wl hv9 hRc hRr hRo hP hD hS => ?_)
            refine n_top (y := .int (nI 1)) (congrArg Value.int (hv9.trans (congrArg nI (bN_t rfl)))) ?_
            clear hv9 v9
            refine n_if_ne (tgt := 72) hx hb dX3_wish_67 (by decide) (by decide) (fun c_67 => ?_) (fun c_67 => absurd c_67 (by decide))
            refine lv_aload_n hx hb dX3_wish_72 rfl (lv_at hl 1 rfl) ?_
            refine va_get (D := D) (ci := 4) (v := .ref (G 12)) (C := RX3) (T := TX3) (N := 23) hx hb hts inX3 hown hK hP 3 (Q_m hRr) rfl 8 (by decide) (hts (.fieldLink RX3 32 "BootStageModel" "weights" "[I") (by decide +kernel)) (fun _ h9 => h9) rfl dX3_wish_73 ?_
            refine lv_iload_n hx hb dX3_wish_76 rfl (lv_at hl 2 rfl) ?_
            refine n_top (y := .int (nI j_x)) (congrArg Value.int hx_x) ?_
            refine lv_iload_n hx hb dX3_wish_77 rfl (lv_at hl 3 rfl) ?_
            refine n_top (y := .int (nI j_y)) (congrArg Value.int hx_y) ?_
            refine y_calli (va_runS (As := [.int (nI j_x), .int (nI j_y)]) (rest := [.ref (G 12)]) ⟨hx, hb, hml, hown, hts⟩ (k_X3_edge l D G h0 c (up2 r 30 22 0) o j_x j_y) (va_cwS 2 hts gX3_wish_X3_edge rfl rfl rfl (by decide +kernel) ⟨Nat.le_of_ble_eq_true rfl, Nat.le_of_ble_eq_true rfl⟩) ⟨fun a U g mk q => ⟨q.1, Pr_cg q.2⟩, fun U hU hW => ⟨rfl, Pr_mk hE hRc hRr hRo hP hD hS hU hW⟩⟩ rfl rfl hl.1 rfl (lv_room (Nat.le_of_ble_eq_true rfl)) dX3_wish_78 ⟨Nat.le_of_ble_eq_true rfl, Nat.le_of_ble_eq_true rfl⟩) hS (fun v9 _ H locs wl hv9 hRc hRr hRo hP hD hS => ?_)
            refine n_top (y := .int (nI (20 * j_x + j_y))) (congrArg Value.int hv9) ?_
            clear hv9 v9
            refine x_iald hx hb hK hP 12 (Q_a8 hRr) (by first | omega | decide | assumption) (by decide) dX3_wish_81 (v := nI (r 8 (20 * j_x + j_y))) (congrArg nI (show (up2 r 30 22 0) 8 (20 * j_x + j_y) = r 8 (20 * j_x + j_y) from by simp [up2])) ?_
            refine lv_istore (lv' := [(5, .int (nI (r 8 (20 * j_x + j_y)))), (4, .int (nI 1)), (0, .ref (G 3)), (1, .int x), (2, .int y), (3, .int z)]) hx hb dX3_wish_82 hl (by decide) rfl (fun ls hl => ?_)
            refine lv_aload_n hx hb dX3_wish_84 rfl (lv_at hl 2 rfl) ?_
            refine va_get (D := D) (ci := 4) (v := .ref (G 12)) (C := RX3) (T := TX3) (N := 23) hx hb hts inX3 hown hK hP 3 (Q_m hRr) rfl 8 (by decide) (hts (.fieldLink RX3 32 "BootStageModel" "weights" "[I") (by decide +kernel)) (fun _ h9 => h9) rfl dX3_wish_85 ?_
            refine lv_iload_n hx hb dX3_wish_88 rfl (lv_at hl 3 rfl) ?_
            refine n_top (y := .int (nI j_x)) (congrArg Value.int hx_x) ?_
            refine lv_iload_n hx hb dX3_wish_89 rfl (lv_at hl 4 rfl) ?_
            refine n_top (y := .int (nI j_y)) (congrArg Value.int hx_y) ?_
            refine y_calli (va_runS (As := [.int (nI j_x), .int (nI j_y)]) (rest := [.ref (G 12)]) ⟨hx, hb, hml, hown, hts⟩ (k_X3_edge l D G h0 c (up2 r 30 22 0) o j_x j_y) (va_cwS 2 hts gX3_wish_X3_edge rfl rfl rfl (by decide +kernel) ⟨Nat.le_of_ble_eq_true rfl, Nat.le_of_ble_eq_true rfl⟩) ⟨fun a U g mk q => ⟨q.1, Pr_cg q.2⟩, fun U hU hW => ⟨rfl, Pr_mk hE hRc hRr hRo hP hD hS hU hW⟩⟩ rfl rfl hl.1 rfl (lv_room (Nat.le_of_ble_eq_true rfl)) dX3_wish_90 ⟨Nat.le_of_ble_eq_true rfl, Nat.le_of_ble_eq_true rfl⟩) hS (fun v9 _ H locs wl hv9 hRc hRr hRo hP hD hS => ?_)
            refine n_top (y := .int (nI (20 * j_x + j_y))) (congrArg Value.int hv9) ?_
            clear hv9 v9
            refine lv_iload_n hx hb dX3_wish_93 rfl (lv_at hl 5 rfl) ?_
            refine n_top (y := .int (nI t_z)) (congrArg Value.int hx_z) ?_
            refine x_iast (Z := fun wl => Rc G c wl ∧ Rr G (up2 (up2 r 30 22 0) 8 (20 * j_x + j_y) t_z) wl ∧ Ro G o wl) hx hb hK hP hD hS 12 (Q_a8 hRr) (by first | omega | decide | assumption) (by decide) dX3_wish_94 ⟨Rc_fr hRc (by decide) (by decide), P_a8 t_z (by first | omega | decide | assumption) hRr, Ro_fr hRo (by decide)⟩ (fun H locs wl hZ hP hD hS => ?_)
            obtain ⟨hRc, hRr, hRo⟩ := hZ
            refine lv_aload_n hx hb dX3_wish_95 rfl (lv_at hl 2 rfl) ?_
            refine va_get (D := D) (ci := 4) (v := .ref (G 13)) (C := RX3) (T := TX3) (N := 23) hx hb hts inX3 hown hK hP 3 (Q_m hRr) rfl 9 (by decide) (hts (.fieldLink RX3 35 "BootStageModel" "toldAt" "[I") (by decide +kernel)) (fun _ h9 => h9) rfl dX3_wish_96 ?_
            refine lv_iload_n hx hb dX3_wish_99 rfl (lv_at hl 3 rfl) ?_
            refine n_top (y := .int (nI j_x)) (congrArg Value.int hx_x) ?_
            refine lv_iload_n hx hb dX3_wish_100 rfl (lv_at hl 4 rfl) ?_
            refine n_top (y := .int (nI j_y)) (congrArg Value.int hx_y) ?_
            refine y_calli (va_runS (As := [.int (nI j_x), .int (nI j_y)]) (rest := [.ref (G 13)]) ⟨hx, hb, hml, hown, hts⟩ (k_X3_edge l D G h0 c (up2 (up2 r 30 22 0) 8 (20 * j_x + j_y) t_z) o j_x j_y) (va_cwS 2 hts gX3_wish_X3_edge rfl rfl rfl (by decide +kernel) ⟨Nat.le_of_ble_eq_true rfl, Nat.le_of_ble_eq_true rfl⟩) ⟨fun a U g mk q => ⟨q.1, Pr_cg q.2⟩, fun U hU hW => ⟨rfl, Pr_mk hE hRc hRr hRo hP hD hS hU hW⟩⟩ rfl rfl hl.1 rfl (lv_room (Nat.le_of_ble_eq_true rfl)) dX3_wish_101 ⟨Nat.le_of_ble_eq_true rfl, Nat.le_of_ble_eq_true rfl⟩) hS (fun v9 _ H locs wl hv9 hRc hRr hRo hP hD hS => ?_)
            refine n_top (y := .int (nI (20 * j_x + j_y))) (congrArg Value.int hv9) ?_
            clear hv9 v9
            refine lv_iload hx hb dX3_wish_104 (lv_at hl 0 rfl) ?_
            refine n_if_ne (tgt := 116) hx hb dX3_wish_106 (by decide) (hBr _ _ (by decide)) (fun c_106 => ?_) (fun c_106 => ?_)
            · refine lv_aload_n hx hb dX3_wish_116 rfl (lv_at hl 2 rfl) ?_
              refine va_get (D := D) (ci := 4) (v := .ref (G 13)) (C := RX3) (T := TX3) (N := 23) hx hb hts inX3 hown hK hP 3 (Q_m hRr) rfl 9 (by decide) (hts (.fieldLink RX3 35 "BootStageModel" "toldAt" "[I") (by decide +kernel)) (fun _ h9 => h9) rfl dX3_wish_117 ?_
              refine lv_iload_n hx hb dX3_wish_120 rfl (lv_at hl 3 rfl) ?_
              refine n_top (y := .int (nI j_x)) (congrArg Value.int hx_x) ?_
              refine lv_iload_n hx hb dX3_wish_121 rfl (lv_at hl 4 rfl) ?_
              refine n_top (y := .int (nI j_y)) (congrArg Value.int hx_y) ?_
              refine y_calli (va_runS (As := [.int (nI j_x), .int (nI j_y)]) (rest := [.ref (G 13), .int (nI (20 * j_x + j_y)), .ref (G 13)]) ⟨hx, hb, hml, hown, hts⟩ (k_X3_edge l D G h0 c (up2 (up2 r 30 22 0) 8 (20 * j_x + j_y) t_z) o j_x j_y) (va_cwS 2 hts gX3_wish_X3_edge rfl rfl rfl (by decide +kernel) ⟨Nat.le_of_ble_eq_true rfl, Nat.le_of_ble_eq_true rfl⟩) ⟨fun a U g mk q => ⟨q.1, Pr_cg q.2⟩, fun U hU hW => ⟨rfl, Pr_mk hE hRc hRr hRo hP hD hS hU hW⟩⟩ rfl rfl hl.1 rfl (lv_room (Nat.le_of_ble_eq_true rfl)) dX3_wish_122 ⟨Nat.le_of_ble_eq_true rfl, Nat.le_of_ble_eq_true rfl⟩) hS (fun v9 _ H locs wl hv9 hRc hRr hRo hP hD hS => ?_)
              refine n_top (y := .int (nI (20 * j_x + j_y))) (congrArg Value.int hv9) ?_
              clear hv9 v9
              refine x_iald hx hb hK hP 13 (Q_a9 hRr) (by first | omega | decide | assumption) (by decide) dX3_wish_125 (v := nI (r 9 (20 * j_x + j_y))) (congrArg nI (show (up2 (up2 r 30 22 0) 8 (20 * j_x + j_y) t_z) 9 (20 * j_x + j_y) = r 9 (20 * j_x + j_y) from by simp [up2])) ?_
              refine x_iast (Z := fun wl => Rc G c wl ∧ Rr G (up2 (up2 (up2 r 30 22 0) 8 (20 * j_x + j_y) t_z) 9 (20 * j_x + j_y) (r 9 (20 * j_x + j_y))) wl ∧ Ro G o wl) hx hb hK hP hD hS 13 (Q_a9 hRr) (by first | omega | decide | assumption) (by decide) dX3_wish_126 ⟨Rc_fr hRc (by decide) (by decide), P_a9 (r 9 (20 * j_x + j_y)) (by first | omega | decide | assumption) hRr, Ro_fr hRo (by decide)⟩ (fun H locs wl hZ hP hD hS => ?_)
              obtain ⟨hRc, hRr, hRo⟩ := hZ
              refine lv_aload_n hx hb dX3_wish_127 rfl (lv_at hl 2 rfl) ?_
              refine lv_dup hx hb dX3_wish_128 rfl ?_
              refine va_get (D := D) (ci := 4) (v := .int (nI (r 30 10))) (C := RX3) (T := TX3) (N := 23) hx hb hts inX3 hown hK hP 3 (Q_m hRr) rfl 10 (by decide) (hts (.fieldLink RX3 86 "BootStageModel" "told" "I") (by decide +kernel)) (fun _ h9 => h9) (congrArg (fun z => some (Value.int (nI z))) (show (up2 (up2 (up2 r 30 22 0) 8 (20 * j_x + j_y) t_z) 9 (20 * j_x + j_y) (r 9 (20 * j_x + j_y))) 30 10 = r 30 10 from by simp [up2])) dX3_wish_129 ?_
              refine lv_iload hx hb dX3_wish_132 (lv_at hl 0 rfl) ?_
              refine n_if_ne (tgt := 141) hx hb dX3_wish_134 (by decide) (hBr _ _ (by decide)) (fun c_134 => ?_) (fun c_134 => ?_)
              · refine lv_iconst (v := nI 0) hx hb dX3_wish_141 (by decide) ?_
                refine n_iadd hx hb dX3_wish_142 ?_
                refine x_put (D := D) (G := G) (ci := 4) (ty := .int) (C := RX3) (T := TX3) (N := 23) (Z := fun wl => Rc G c wl ∧ Rr G (up2 (up2 (up2 (up2 r 30 22 0) 8 (20 * j_x + j_y) t_z) 9 (20 * j_x + j_y) (r 9 (20 * j_x + j_y))) 30 10 ((r 30 10) + 0)) wl ∧ Ro G o wl) hx hb hts inX3 tyX3 tyX3_ok nmX3 hown hK hP hD hS 3 (Q_m hRr) rfl 10 (by decide) (hts (.fieldLink RX3 86 "BootStageModel" "told" "I") (by decide +kernel)) (fun _ h9 => h9) rfl (by decide +kernel) rfl rfl (Nat.le_of_ble_eq_true rfl) dX3_wish_143 ⟨Rc_fr hRc (by decide) (by decide), P_m10 ((r 30 10) + 0) hRr, Ro_fr hRo (by decide)⟩ (fun H locs wl hZ hP hD hS => ?_)
                obtain ⟨hRc, hRr, hRo⟩ := hZ
                refine lv_iload hx hb dX3_wish_146 (lv_at hl 0 rfl) ?_
                have hrel : (fun (v9 : Int32) (u9 : Nat → Nat → Nat) => (¬ (okR r x ∧ okR r y) ∧ u9 = up2 r 30 22 1) ∨ (okR r x ∧ okR r y ∧ ¬ (inR z 1 100 ∧ x ≠ y) ∧ u9 = up2 r 30 22 2) ∨ (okR r x ∧ okR r y ∧ (inR z 1 100 ∧ x ≠ y) ∧ r 30 13 ≠ 0 ∧ u9 = up2 r 30 22 3) ∨ (∃ a b t, a < r 30 0 ∧ b < r 30 0 ∧ x = nI a ∧ y = nI b ∧ a ≠ b ∧ (1 ≤ t ∧ t ≤ 100) ∧ z = nI t ∧ r 30 13 = 0 ∧ v9 = nI (r 8 (20 * a + b)) ∧ ((r 8 (20 * a + b) = 0 ∧ u9 = up2 (up2 (up2 (up2 r 30 22 0) 8 (20 * a + b) t) 9 (20 * a + b) (r 30 10)) 30 10 (r 30 10 + 1)) ∨ (0 < r 8 (20 * a + b) ∧ u9 = up2 (up2 (up2 (up2 r 30 22 0) 8 (20 * a + b) t) 9 (20 * a + b) (r 9 (20 * a + b))) 30 10 (r 30 10 + 0))))) (nI (r 8 (20 * j_x + j_y))) (up2 (up2 (up2 (up2 r 30 22 0) 8 (20 * j_x + j_y) t_z) 9 (20 * j_x + j_y) (r 9 (20 * j_x + j_y))) 30 10 ((r 30 10) + 0)) := by exact Or.inr (Or.inr (Or.inr ⟨j_x, j_y, t_z, hj_x, hj_y, hx_x, hx_y, c_45, ht_z, hx_z, c_56, rfl, Or.inr ⟨c_106, rfl⟩⟩))
                exact W.iret (v := nI (r 8 (20 * j_x + j_y))) hx hb hr (fun t ht hW => ⟨⟨_, (up2 (up2 (up2 (up2 r 30 22 0) 8 (20 * j_x + j_y) t_z) 9 (20 * j_x + j_y) (r 9 (20 * j_x + j_y))) 30 10 ((r 30 10) + 0)), rfl, hrel, Wr_mk hRc hRr hRo hP hD ht⟩, hS.F ht⟩) hS.2.2 dX3_wish_148
              · exfalso; omega
            · refine lv_aload_n hx hb dX3_wish_109 rfl (lv_at hl 2 rfl) ?_
              refine va_get (D := D) (ci := 4) (v := .int (nI (r 30 10))) (C := RX3) (T := TX3) (N := 23) hx hb hts inX3 hown hK hP 3 (Q_m hRr) rfl 10 (by decide) (hts (.fieldLink RX3 86 "BootStageModel" "told" "I") (by decide +kernel)) (fun _ h9 => h9) (congrArg (fun z => some (Value.int (nI z))) (show (up2 (up2 r 30 22 0) 8 (20 * j_x + j_y) t_z) 30 10 = r 30 10 from by simp [up2])) dX3_wish_110 ?_
              refine lv_goto (tgt := 126) hx hb dX3_wish_113 (by decide) ?_
              refine x_iast (Z := fun wl => Rc G c wl ∧ Rr G (up2 (up2 (up2 r 30 22 0) 8 (20 * j_x + j_y) t_z) 9 (20 * j_x + j_y) (r 30 10)) wl ∧ Ro G o wl) hx hb hK hP hD hS 13 (Q_a9 hRr) (by first | omega | decide | assumption) (by decide) dX3_wish_126 ⟨Rc_fr hRc (by decide) (by decide), P_a9 (r 30 10) (by first | omega | decide | assumption) hRr, Ro_fr hRo (by decide)⟩ (fun H locs wl hZ hP hD hS => ?_)
              obtain ⟨hRc, hRr, hRo⟩ := hZ
              refine lv_aload_n hx hb dX3_wish_127 rfl (lv_at hl 2 rfl) ?_
              refine lv_dup hx hb dX3_wish_128 rfl ?_
              refine va_get (D := D) (ci := 4) (v := .int (nI (r 30 10))) (C := RX3) (T := TX3) (N := 23) hx hb hts inX3 hown hK hP 3 (Q_m hRr) rfl 10 (by decide) (hts (.fieldLink RX3 86 "BootStageModel" "told" "I") (by decide +kernel)) (fun _ h9 => h9) (congrArg (fun z => some (Value.int (nI z))) (show (up2 (up2 (up2 r 30 22 0) 8 (20 * j_x + j_y) t_z) 9 (20 * j_x + j_y) (r 30 10)) 30 10 = r 30 10 from by simp [up2])) dX3_wish_129 ?_
              refine lv_iload hx hb dX3_wish_132 (lv_at hl 0 rfl) ?_
              refine n_if_ne (tgt := 141) hx hb dX3_wish_134 (by decide) (hBr _ _ (by decide)) (fun c_134 => ?_) (fun c_134 => ?_)
              · exfalso; omega
              · refine lv_iconst (v := nI 1) hx hb dX3_wish_137 (by decide) ?_
                refine lv_goto (tgt := 142) hx hb dX3_wish_138 (by decide) ?_
                refine n_iadd hx hb dX3_wish_142 ?_
                refine x_put (D := D) (G := G) (ci := 4) (ty := .int) (C := RX3) (T := TX3) (N := 23) (Z := fun wl => Rc G c wl ∧ Rr G (up2 (up2 (up2 (up2 r 30 22 0) 8 (20 * j_x + j_y) t_z) 9 (20 * j_x + j_y) (r 30 10)) 30 10 ((r 30 10) + 1)) wl ∧ Ro G o wl) hx hb hts inX3 tyX3 tyX3_ok nmX3 hown hK hP hD hS 3 (Q_m hRr) rfl 10 (by decide) (hts (.fieldLink RX3 86 "BootStageModel" "told" "I") (by decide +kernel)) (fun _ h9 => h9) rfl (by decide +kernel) rfl rfl (Nat.le_of_ble_eq_true rfl) dX3_wish_143 ⟨Rc_fr hRc (by decide) (by decide), P_m10 ((r 30 10) + 1) hRr, Ro_fr hRo (by decide)⟩ (fun H locs wl hZ hP hD hS => ?_)
                obtain ⟨hRc, hRr, hRo⟩ := hZ
                refine lv_iload hx hb dX3_wish_146 (lv_at hl 0 rfl) ?_
                have hrel : (fun (v9 : Int32) (u9 : Nat → Nat → Nat) => (¬ (okR r x ∧ okR r y) ∧ u9 = up2 r 30 22 1) ∨ (okR r x ∧ okR r y ∧ ¬ (inR z 1 100 ∧ x ≠ y) ∧ u9 = up2 r 30 22 2) ∨ (okR r x ∧ okR r y ∧ (inR z 1 100 ∧ x ≠ y) ∧ r 30 13 ≠ 0 ∧ u9 = up2 r 30 22 3) ∨ (∃ a b t, a < r 30 0 ∧ b < r 30 0 ∧ x = nI a ∧ y = nI b ∧ a ≠ b ∧ (1 ≤ t ∧ t ≤ 100) ∧ z = nI t ∧ r 30 13 = 0 ∧ v9 = nI (r 8 (20 * a + b)) ∧ ((r 8 (20 * a + b) = 0 ∧ u9 = up2 (up2 (up2 (up2 r 30 22 0) 8 (20 * a + b) t) 9 (20 * a + b) (r 30 10)) 30 10 (r 30 10 + 1)) ∨ (0 < r 8 (20 * a + b) ∧ u9 = up2 (up2 (up2 (up2 r 30 22 0) 8 (20 * a + b) t) 9 (20 * a + b) (r 9 (20 * a + b))) 30 10 (r 30 10 + 0))))) (nI (r 8 (20 * j_x + j_y))) (up2 (up2 (up2 (up2 r 30 22 0) 8 (20 * j_x + j_y) t_z) 9 (20 * j_x + j_y) (r 30 10)) 30 10 ((r 30 10) + 1)) := by exact Or.inr (Or.inr (Or.inr ⟨j_x, j_y, t_z, hj_x, hj_y, hx_x, hx_y, c_45, ht_z, hx_z, c_56, rfl, Or.inl ⟨c_106, rfl⟩⟩))
                exact W.iret (v := nI (r 8 (20 * j_x + j_y))) hx hb hr (fun t ht hW => ⟨⟨_, (up2 (up2 (up2 (up2 r 30 22 0) 8 (20 * j_x + j_y) t_z) 9 (20 * j_x + j_y) (r 30 10)) 30 10 ((r 30 10) + 1)), rfl, hrel, Wr_mk hRc hRr hRo hP hD ht⟩, hS.F ht⟩) hS.2.2 dX3_wish_148
          · refine lv_iconst (v := nI 3) hx hb dX3_wish_59 (by decide) ?_
            refine lv_goto (tgt := 64) hx hb dX3_wish_60 (by decide) ?_
            refine y_calli (va_runV (As := [.int (nI 3)]) (rest := []) ⟨hx, hb, hml, hown, hts⟩ (k_X3_goes l D G h0 c r o 3 (by decide)) (cwV 1 hts gX3_wish_X3_goes rfl rfl rfl (by decide +kernel) ⟨Nat.le_of_ble_eq_true rfl, Nat.le_of_ble_eq_true rfl⟩) ⟨fun a U g mk q => ⟨q.1, Pr_cg q.2⟩, va_recv (ci := 4) (q0 := 3) hK hP rfl (Q_m hRr), fun U hU hW => ⟨rfl, Pr_mk hE hRc hRr hRo hP hD hS hU hW⟩⟩ rfl rfl hl.1 rfl (lv_room (Nat.le_of_ble_eq_true rfl)) dX3_wish_64 ⟨Nat.le_of_ble_eq_true rfl, Nat.le_of_ble_eq_true rfl⟩) hS (fun v9 _ H locs wl hv9 hRc hRr hRo hP hD hS => ?_)
            refine n_top (y := .int (nI 0)) (congrArg Value.int (hv9.trans (congrArg nI (bN_f (by decide))))) ?_
            clear hv9 v9
            refine n_if_ne (tgt := 72) hx hb dX3_wish_67 (by decide) (by decide) (fun c_67 => absurd c_67 (by decide)) (fun c_67 => ?_)
            refine lv_iconst (v := nI 0) hx hb dX3_wish_70 (by decide) ?_
            have hrel : (fun (v9 : Int32) (u9 : Nat → Nat → Nat) => (¬ (okR r x ∧ okR r y) ∧ u9 = up2 r 30 22 1) ∨ (okR r x ∧ okR r y ∧ ¬ (inR z 1 100 ∧ x ≠ y) ∧ u9 = up2 r 30 22 2) ∨ (okR r x ∧ okR r y ∧ (inR z 1 100 ∧ x ≠ y) ∧ r 30 13 ≠ 0 ∧ u9 = up2 r 30 22 3) ∨ (∃ a b t, a < r 30 0 ∧ b < r 30 0 ∧ x = nI a ∧ y = nI b ∧ a ≠ b ∧ (1 ≤ t ∧ t ≤ 100) ∧ z = nI t ∧ r 30 13 = 0 ∧ v9 = nI (r 8 (20 * a + b)) ∧ ((r 8 (20 * a + b) = 0 ∧ u9 = up2 (up2 (up2 (up2 r 30 22 0) 8 (20 * a + b) t) 9 (20 * a + b) (r 30 10)) 30 10 (r 30 10 + 1)) ∨ (0 < r 8 (20 * a + b) ∧ u9 = up2 (up2 (up2 (up2 r 30 22 0) 8 (20 * a + b) t) 9 (20 * a + b) (r 9 (20 * a + b))) 30 10 (r 30 10 + 0))))) (nI 0) (up2 r 30 22 3) := by exact Or.inr (Or.inr (Or.inl ⟨⟨j_x, hj_x, hx_x⟩, ⟨j_y, hj_y, hx_y⟩, ⟨(by rw [hx_z]; exact inR_of ht_z.1 ht_z.2 (by decide)), by rw [hx_x, hx_y]; exact fun z => c_45 ((nI_eq (by omega) (by omega)).mp z)⟩, Nat.ne_of_gt c_56, rfl⟩))
            exact W.iret (v := nI 0) hx hb hr (fun t ht hW => ⟨⟨_, (up2 r 30 22 3), rfl, hrel, Wr_mk hRc hRr hRo hP hD ht⟩, hS.F ht⟩) hS.2.2 dX3_wish_71
        · refine lv_iconst (v := nI 2) hx hb dX3_wish_48 (by decide) ?_
          refine lv_goto (tgt := 64) hx hb dX3_wish_49 (by decide) ?_
          refine y_calli (va_runV (As := [.int (nI 2)]) (rest := []) ⟨hx, hb, hml, hown, hts⟩ (k_X3_goes l D G h0 c r o 2 (by decide)) (cwV 1 hts gX3_wish_X3_goes rfl rfl rfl (by decide +kernel) ⟨Nat.le_of_ble_eq_true rfl, Nat.le_of_ble_eq_true rfl⟩) ⟨fun a U g mk q => ⟨q.1, Pr_cg q.2⟩, va_recv (ci := 4) (q0 := 3) hK hP rfl (Q_m hRr), fun U hU hW => ⟨rfl, Pr_mk hE hRc hRr hRo hP hD hS hU hW⟩⟩ rfl rfl hl.1 rfl (lv_room (Nat.le_of_ble_eq_true rfl)) dX3_wish_64 ⟨Nat.le_of_ble_eq_true rfl, Nat.le_of_ble_eq_true rfl⟩) hS (fun v9 _ H locs wl hv9 hRc hRr hRo hP hD hS => ?_)
          refine n_top (y := .int (nI 0)) (congrArg Value.int (hv9.trans (congrArg nI (bN_f (by decide))))) ?_
          clear hv9 v9
          refine n_if_ne (tgt := 72) hx hb dX3_wish_67 (by decide) (by decide) (fun c_67 => absurd c_67 (by decide)) (fun c_67 => ?_)
          refine lv_iconst (v := nI 0) hx hb dX3_wish_70 (by decide) ?_
          have hrel : (fun (v9 : Int32) (u9 : Nat → Nat → Nat) => (¬ (okR r x ∧ okR r y) ∧ u9 = up2 r 30 22 1) ∨ (okR r x ∧ okR r y ∧ ¬ (inR z 1 100 ∧ x ≠ y) ∧ u9 = up2 r 30 22 2) ∨ (okR r x ∧ okR r y ∧ (inR z 1 100 ∧ x ≠ y) ∧ r 30 13 ≠ 0 ∧ u9 = up2 r 30 22 3) ∨ (∃ a b t, a < r 30 0 ∧ b < r 30 0 ∧ x = nI a ∧ y = nI b ∧ a ≠ b ∧ (1 ≤ t ∧ t ≤ 100) ∧ z = nI t ∧ r 30 13 = 0 ∧ v9 = nI (r 8 (20 * a + b)) ∧ ((r 8 (20 * a + b) = 0 ∧ u9 = up2 (up2 (up2 (up2 r 30 22 0) 8 (20 * a + b) t) 9 (20 * a + b) (r 30 10)) 30 10 (r 30 10 + 1)) ∨ (0 < r 8 (20 * a + b) ∧ u9 = up2 (up2 (up2 (up2 r 30 22 0) 8 (20 * a + b) t) 9 (20 * a + b) (r 9 (20 * a + b))) 30 10 (r 30 10 + 0))))) (nI 0) (up2 r 30 22 2) := by exact Or.inr (Or.inl ⟨⟨j_x, hj_x, hx_x⟩, ⟨j_y, hj_y, hx_y⟩, fun z => z.2 (by rw [hx_x, hx_y, c_45]), rfl⟩)
          exact W.iret (v := nI 0) hx hb hr (fun t ht hW => ⟨⟨_, (up2 r 30 22 2), rfl, hrel, Wr_mk hRc hRr hRo hP hD ht⟩, hS.F ht⟩) hS.2.2 dX3_wish_71
set_option maxHeartbeats 4000000 in
set_option maxRecDepth 100000 in
theorem k_X3_standIn (l : Launch) (D : va_G) (G : Nat → Nat) (h0 : Nat) (c r : Nat → Nat → Nat) (o : Nat) (x y : Int32) (hI : IR r) : Met l yX3_standIn wsX3_standIn ({ frames := 2, cells := 0, slots := 0, locals := 43 } : Room) (va_Pc [.ref (G 3), .int x, .int y] (fun U => Pr D G h0 c r o U)) (va_Qi (fun (v9 : Int32) (u9 : Nat → Nat → Nat) => (¬ (okR r x ∧ (y = -1 ∨ okR r y)) ∧ u9 = up2 r 30 22 1) ∨ (okR r x ∧ okR r y ∧ x = y ∧ u9 = up2 r 30 22 2) ∨ (okR r x ∧ (y = -1 ∨ okR r y) ∧ x ≠ y ∧ r 30 13 ≠ 0 ∧ u9 = up2 r 30 22 3) ∨ (∃ a k, a < r 30 0 ∧ x = nI a ∧ (k = 0 ∧ y = -1 ∨ ∃ b, b < r 30 0 ∧ y = nI b ∧ b ≠ a ∧ k = b + 1) ∧ r 30 13 = 0 ∧ v9 = siI (r 5 a) ∧ u9 = up2 (up2 r 30 22 0) 5 a k)) (fun (u9 : Nat → Nat → Nat) t => Wr D G h0 c u9 o t) (fun q => h0 ≤ q)) 0 0 (fun q => h0 ≤ q) := by
  refine Met.ofW (cc := cX3_standIn) (maxL := 5) (ret := (some .int)) (by decide) rfl ?_
  intro p e s m args below meth cd s₁ B hml hv
  obtain ⟨rfl, hE, wl, hRc, hRr, hRo, hP, hD⟩ := hv
  have hx := B.exec
  have hb := B.bytes
  have hr := B.returns
  have hts := atoms_spec (ws := wsX3_standIn) B.pre
  have hown : s.vm.findClass RX3 = some m.cls := findClass_of_methodNamed B.named
  have hlocks := B.notSynchronized
  have hK := hE.2.1
  have hS : va_S (fun q => h0 ≤ q) s.heap s.heap [] := va_S.rf
  have hl := lv_entry ([.ref (G 3), .int x, .int y]) (n := 5) (Nat.le_of_ble_eq_true rfl)
  rw [lg_entry_eq]
  generalize (lg_sl ([.ref (G 3), .int x, .int y]) ++ List.replicate (5 - (lg_sl ([.ref (G 3), .int x, .int y])).length) Slot.unset).toArray = ls at hl ⊢
  have hl : lv_has ls 5 [(0, .ref (G 3)), (1, .int x), (2, .int y)] := hl
  have inX3 : ∀ w ∈ wsX30, w ∈ wsX3_standIn := by decide +kernel
  have hBr := IR_B hI
  have hn := IR_n hI
  have hs := IR_s hI
  refine lv_aload_n hx hb dX3_standIn_0 rfl (lv_at hl 0 rfl) ?_
  refine lv_iload_n hx hb dX3_standIn_1 rfl (lv_at hl 1 rfl) ?_
  refine y_calli (va_runV (As := [.int x]) (rest := []) ⟨hx, hb, hml, hown, hts⟩ (k_X3_isUnit l D G h0 c r o x (by first | exact hn | assumption)) (cwV 1 hts gX3_standIn_X3_isUnit rfl rfl rfl (by decide +kernel) ⟨Nat.le_of_ble_eq_true rfl, Nat.le_of_ble_eq_true rfl⟩) ⟨fun a U g mk q => ⟨q.1, Pr_cg q.2⟩, va_recv (ci := 4) (q0 := 3) hK hP rfl (Q_m hRr), fun U hU hW => ⟨rfl, Pr_mk hE hRc hRr hRo hP hD hS hU hW⟩⟩ rfl rfl hl.1 rfl (lv_room (Nat.le_of_ble_eq_true rfl)) dX3_standIn_2 ⟨Nat.le_of_ble_eq_true rfl, Nat.le_of_ble_eq_true rfl⟩) hS (fun v9 _ H locs wl hv9 hRc hRr hRo hP hD hS => ?_)
  refine n_top (y := .int (nI (bN (okR r x)))) (congrArg Value.int hv9) ?_
  clear hv9 v9
  refine n_ifb_eq (tgt := 25) hx hb dX3_standIn_5 (by decide) (fun c_5 => ?_) (fun c_5 => ?_)
  · refine lv_iconst (v := nI 0) hx hb dX3_standIn_25 (by decide) ?_
    refine lv_istore_n (lv' := [(3, .int (nI 0)), (0, .ref (G 3)), (1, .int x), (2, .int y)]) hx hb dX3_standIn_26 rfl hl (by decide) rfl (fun ls hl => ?_)
    refine lv_aload_n hx hb dX3_standIn_27 rfl (lv_at hl 1 rfl) ?_
    refine lv_iload_n hx hb dX3_standIn_28 rfl (lv_at hl 0 rfl) ?_
    refine n_if_ne (tgt := 36) hx hb dX3_standIn_29 (by decide) (by decide) (fun c_29 => absurd c_29 (by decide)) (fun c_29 => ?_)
    refine lv_iconst (v := nI 1) hx hb dX3_standIn_32 (by decide) ?_
    refine lv_goto (tgt := 57) hx hb dX3_standIn_33 (by decide) ?_
    refine y_calli (va_runV (As := [.int (nI 1)]) (rest := []) ⟨hx, hb, hml, hown, hts⟩ (k_X3_goes l D G h0 c r o 1 (by decide)) (cwV 1 hts gX3_standIn_X3_goes rfl rfl rfl (by decide +kernel) ⟨Nat.le_of_ble_eq_true rfl, Nat.le_of_ble_eq_true rfl⟩) ⟨fun a U g mk q => ⟨q.1, Pr_cg q.2⟩, va_recv (ci := 4) (q0 := 3) hK hP rfl (Q_m hRr), fun U hU hW => ⟨rfl, Pr_mk hE hRc hRr hRo hP hD hS hU hW⟩⟩ rfl rfl hl.1 rfl (lv_room (Nat.le_of_ble_eq_true rfl)) dX3_standIn_57 ⟨Nat.le_of_ble_eq_true rfl, Nat.le_of_ble_eq_true rfl⟩) hS (fun v9 _ H locs wl hv9 hRc hRr hRo hP hD hS => ?_)
    refine n_top (y := .int (nI 0)) (congrArg Value.int (hv9.trans (congrArg nI (bN_f (by decide))))) ?_
    clear hv9 v9
    refine n_if_ne (tgt := 65) hx hb dX3_standIn_60 (by decide) (by decide) (fun c_60 => absurd c_60 (by decide)) (fun c_60 => ?_)
    refine lv_iconst (v := nI 0) hx hb dX3_standIn_63 (by decide) ?_
    have hrel : (fun (v9 : Int32) (u9 : Nat → Nat → Nat) => (¬ (okR r x ∧ (y = -1 ∨ okR r y)) ∧ u9 = up2 r 30 22 1) ∨ (okR r x ∧ okR r y ∧ x = y ∧ u9 = up2 r 30 22 2) ∨ (okR r x ∧ (y = -1 ∨ okR r y) ∧ x ≠ y ∧ r 30 13 ≠ 0 ∧ u9 = up2 r 30 22 3) ∨ (∃ a k, a < r 30 0 ∧ x = nI a ∧ (k = 0 ∧ y = -1 ∨ ∃ b, b < r 30 0 ∧ y = nI b ∧ b ≠ a ∧ k = b + 1) ∧ r 30 13 = 0 ∧ v9 = siI (r 5 a) ∧ u9 = up2 (up2 r 30 22 0) 5 a k)) (nI 0) (up2 r 30 22 1) := by exact Or.inl ⟨fun z => c_5 z.1, rfl⟩
    exact W.iret (v := nI 0) hx hb hr (fun t ht hW => ⟨⟨_, (up2 r 30 22 1), rfl, hrel, Wr_mk hRc hRr hRo hP hD ht⟩, hS.F ht⟩) hS.2.2 dX3_standIn_64
  · obtain ⟨j_x, hj_x, hx_x⟩ := c_5
    refine lv_iload_n hx hb dX3_standIn_8 rfl (lv_at hl 2 rfl) ?_
    refine lv_iconst (v := (-1)) hx hb dX3_standIn_9 (by decide) ?_
    refine lv_icmp_eq (tgt := 21) hx hb dX3_standIn_10 (by decide) (fun c_10 => ?_) (fun c_10 => ?_)
    · refine lv_iconst (v := nI 1) hx hb dX3_standIn_21 (by decide) ?_
      refine lv_goto (tgt := 26) hx hb dX3_standIn_22 (by decide) ?_
      refine lv_istore_n (lv' := [(3, .int (nI 1)), (0, .ref (G 3)), (1, .int x), (2, .int y)]) hx hb dX3_standIn_26 rfl hl (by decide) rfl (fun ls hl => ?_)
      refine lv_aload_n hx hb dX3_standIn_27 rfl (lv_at hl 1 rfl) ?_
      refine lv_iload_n hx hb dX3_standIn_28 rfl (lv_at hl 0 rfl) ?_
      refine n_if_ne (tgt := 36) hx hb dX3_standIn_29 (by decide) (by decide) (fun c_29 => ?_) (fun c_29 => absurd c_29 (by decide))
      refine lv_iload_n hx hb dX3_standIn_36 rfl (lv_at hl 2 rfl) ?_
      refine n_top (y := .int (nI j_x)) (congrArg Value.int hx_x) ?_
      refine lv_iload_n hx hb dX3_standIn_37 rfl (lv_at hl 3 rfl) ?_
      refine n_top (y := .int (-1)) (congrArg Value.int c_10) ?_
      refine lv_icmp_ne (tgt := 45) hx hb dX3_standIn_38 (by decide) (fun c_38 => ?_) (fun c_38 => absurd c_38 (fun z => nI_pos (show j_x < 2 ^ 31 from (by omega)) (by rw [z]; decide)))
      refine lv_aload_n hx hb dX3_standIn_45 rfl (lv_at hl 1 rfl) ?_
      refine va_get (D := D) (ci := 4) (v := .int (nI (r 30 13))) (C := RX3) (T := TX3) (N := 23) hx hb hts inX3 hown hK hP 3 (Q_m hRr) rfl 13 (by decide) (hts (.fieldLink RX3 67 "BootStageModel" "goesOn" "Z") (by decide +kernel)) (fun _ h9 => h9) rfl dX3_standIn_46 ?_
      refine n_if_eq (tgt := 56) hx hb dX3_standIn_49 (by decide) (hBr _ _ (by decide)) (fun c_49 => ?_) (fun c_49 => ?_)
      · refine lv_iconst (v := nI 0) hx hb dX3_standIn_56 (by decide) ?_
        refine y_calli (va_runV (As := [.int (nI 0)]) (rest := []) ⟨hx, hb, hml, hown, hts⟩ (k_X3_goes l D G h0 c r o 0 (by decide)) (cwV 1 hts gX3_standIn_X3_goes rfl rfl rfl (by decide +kernel) ⟨Nat.le_of_ble_eq_true rfl, Nat.le_of_ble_eq_true rfl⟩) ⟨fun a U g mk q => ⟨q.1, Pr_cg q.2⟩, va_recv (ci := 4) (q0 := 3) hK hP rfl (Q_m hRr), fun U hU hW => ⟨rfl, Pr_mk hE hRc hRr hRo hP hD hS hU hW⟩⟩ rfl rfl hl.1 rfl (lv_room (Nat.le_of_ble_eq_true rfl)) dX3_standIn_57 ⟨Nat.le_of_ble_eq_true rfl, Nat.le_of_ble_eq_true rfl⟩) hS (fun v9 _ H locs wl hv9 hRc hRr hRo hP hD hS => ?_)
        refine n_top (y := .int (nI 1)) (congrArg Value.int (hv9.trans (congrArg nI (bN_t rfl)))) ?_
        clear hv9 v9
        refine n_if_ne (tgt := 65) hx hb dX3_standIn_60 (by decide) (by decide) (fun c_60 => ?_) (fun c_60 => absurd c_60 (by decide))
        refine lv_aload_n hx hb dX3_standIn_65 rfl (lv_at hl 1 rfl) ?_
        refine va_get (D := D) (ci := 4) (v := .ref (G 9)) (C := RX3) (T := TX3) (N := 23) hx hb hts inX3 hown hK hP 3 (Q_m hRr) rfl 5 (by decide) (hts (.fieldLink RX3 22 "BootStageModel" "standIns" "[I") (by decide +kernel)) (fun _ h9 => h9) rfl dX3_standIn_66 ?_
        refine lv_iload_n hx hb dX3_standIn_69 rfl (lv_at hl 2 rfl) ?_
        refine n_top (y := .int (nI j_x)) (congrArg Value.int hx_x) ?_
        refine x_iald hx hb hK hP 9 (Q_a5 hRr) (by first | omega | decide | assumption) (by decide) dX3_standIn_70 (v := siI (r 5 j_x)) (congrArg siI (show (up2 r 30 22 0) 5 j_x = r 5 j_x from by simp [up2])) ?_
        refine lv_istore (lv' := [(4, .int (siI (r 5 j_x))), (3, .int (nI 1)), (0, .ref (G 3)), (1, .int x), (2, .int y)]) hx hb dX3_standIn_71 hl (by decide) rfl (fun ls hl => ?_)
        refine lv_aload_n hx hb dX3_standIn_73 rfl (lv_at hl 2 rfl) ?_
        refine va_get (D := D) (ci := 4) (v := .ref (G 9)) (C := RX3) (T := TX3) (N := 23) hx hb hts inX3 hown hK hP 3 (Q_m hRr) rfl 5 (by decide) (hts (.fieldLink RX3 22 "BootStageModel" "standIns" "[I") (by decide +kernel)) (fun _ h9 => h9) rfl dX3_standIn_74 ?_
        refine lv_iload_n hx hb dX3_standIn_77 rfl (lv_at hl 3 rfl) ?_
        refine n_top (y := .int (nI j_x)) (congrArg Value.int hx_x) ?_
        refine lv_iload_n hx hb dX3_standIn_78 rfl (lv_at hl 4 rfl) ?_
        refine n_top (y := .int (siI 0)) (congrArg Value.int (c_10.trans siI_0.symm)) ?_
        refine x_iast (Z := fun wl => Rc G c wl ∧ Rr G (up2 (up2 r 30 22 0) 5 j_x 0) wl ∧ Ro G o wl) hx hb hK hP hD hS 9 (Q_a5 hRr) (by first | omega | decide | assumption) (by decide) dX3_standIn_79 ⟨Rc_fr hRc (by decide) (by decide), P_a5 0 (by first | omega | decide | assumption) hRr, Ro_fr hRo (by decide)⟩ (fun H locs wl hZ hP hD hS => ?_)
        obtain ⟨hRc, hRr, hRo⟩ := hZ
        refine lv_iload hx hb dX3_standIn_80 (lv_at hl 0 rfl) ?_
        have hrel : (fun (v9 : Int32) (u9 : Nat → Nat → Nat) => (¬ (okR r x ∧ (y = -1 ∨ okR r y)) ∧ u9 = up2 r 30 22 1) ∨ (okR r x ∧ okR r y ∧ x = y ∧ u9 = up2 r 30 22 2) ∨ (okR r x ∧ (y = -1 ∨ okR r y) ∧ x ≠ y ∧ r 30 13 ≠ 0 ∧ u9 = up2 r 30 22 3) ∨ (∃ a k, a < r 30 0 ∧ x = nI a ∧ (k = 0 ∧ y = -1 ∨ ∃ b, b < r 30 0 ∧ y = nI b ∧ b ≠ a ∧ k = b + 1) ∧ r 30 13 = 0 ∧ v9 = siI (r 5 a) ∧ u9 = up2 (up2 r 30 22 0) 5 a k)) (siI (r 5 j_x)) (up2 (up2 r 30 22 0) 5 j_x 0) := by exact Or.inr (Or.inr (Or.inr ⟨j_x, 0, hj_x, hx_x, Or.inl ⟨rfl, c_10⟩, c_49, rfl, rfl⟩))
        exact W.iret (v := siI (r 5 j_x)) hx hb hr (fun t ht hW => ⟨⟨_, (up2 (up2 r 30 22 0) 5 j_x 0), rfl, hrel, Wr_mk hRc hRr hRo hP hD ht⟩, hS.F ht⟩) hS.2.2 dX3_standIn_82
      · refine lv_iconst (v := nI 3) hx hb dX3_standIn_52 (by decide) ?_
        refine lv_goto (tgt := 57) hx hb dX3_standIn_53 (by decide) ?_
        refine y_calli (va_runV (As := [.int (nI 3)]) (rest := []) ⟨hx, hb, hml, hown, hts⟩ (k_X3_goes l D G h0 c r o 3 (by decide)) (cwV 1 hts gX3_standIn_X3_goes rfl rfl rfl (by decide +kernel) ⟨Nat.le_of_ble_eq_true rfl, Nat.le_of_ble_eq_true rfl⟩) ⟨fun a U g mk q => ⟨q.1, Pr_cg q.2⟩, va_recv (ci := 4) (q0 := 3) hK hP rfl (Q_m hRr), fun U hU hW => ⟨rfl, Pr_mk hE hRc hRr hRo hP hD hS hU hW⟩⟩ rfl rfl hl.1 rfl (lv_room (Nat.le_of_ble_eq_true rfl)) dX3_standIn_57 ⟨Nat.le_of_ble_eq_true rfl, Nat.le_of_ble_eq_true rfl⟩) hS (fun v9 _ H locs wl hv9 hRc hRr hRo hP hD hS => ?_)
        refine n_top (y := .int (nI 0)) (congrArg Value.int (hv9.trans (congrArg nI (bN_f (by decide))))) ?_
        clear hv9 v9
        refine n_if_ne (tgt := 65) hx hb dX3_standIn_60 (by decide) (by decide) (fun c_60 => absurd c_60 (by decide)) (fun c_60 => ?_)
        refine lv_iconst (v := nI 0) hx hb dX3_standIn_63 (by decide) ?_
        have hrel : (fun (v9 : Int32) (u9 : Nat → Nat → Nat) => (¬ (okR r x ∧ (y = -1 ∨ okR r y)) ∧ u9 = up2 r 30 22 1) ∨ (okR r x ∧ okR r y ∧ x = y ∧ u9 = up2 r 30 22 2) ∨ (okR r x ∧ (y = -1 ∨ okR r y) ∧ x ≠ y ∧ r 30 13 ≠ 0 ∧ u9 = up2 r 30 22 3) ∨ (∃ a k, a < r 30 0 ∧ x = nI a ∧ (k = 0 ∧ y = -1 ∨ ∃ b, b < r 30 0 ∧ y = nI b ∧ b ≠ a ∧ k = b + 1) ∧ r 30 13 = 0 ∧ v9 = siI (r 5 a) ∧ u9 = up2 (up2 r 30 22 0) 5 a k)) (nI 0) (up2 r 30 22 3) := by exact Or.inr (Or.inr (Or.inl ⟨⟨j_x, hj_x, hx_x⟩, Or.inl c_10, by rw [hx_x, c_10]; exact fun z => nI_pos (show j_x < 2 ^ 31 by omega) (by rw [z]; decide), Nat.ne_of_gt c_49, rfl⟩))
        exact W.iret (v := nI 0) hx hb hr (fun t ht hW => ⟨⟨_, (up2 r 30 22 3), rfl, hrel, Wr_mk hRc hRr hRo hP hD ht⟩, hS.F ht⟩) hS.2.2 dX3_standIn_64
    · refine lv_aload_n hx hb dX3_standIn_13 rfl (lv_at hl 0 rfl) ?_
      refine lv_iload_n hx hb dX3_standIn_14 rfl (lv_at hl 2 rfl) ?_
      refine y_calli (va_runV (As := [.int y]) (rest := []) ⟨hx, hb, hml, hown, hts⟩ (k_X3_isUnit l D G h0 c r o y (by first | exact hn | assumption)) (cwV 1 hts gX3_standIn_X3_isUnit rfl rfl rfl (by decide +kernel) ⟨Nat.le_of_ble_eq_true rfl, Nat.le_of_ble_eq_true rfl⟩) ⟨fun a U g mk q => ⟨q.1, Pr_cg q.2⟩, va_recv (ci := 4) (q0 := 3) hK hP rfl (Q_m hRr), fun U hU hW => ⟨rfl, Pr_mk hE hRc hRr hRo hP hD hS hU hW⟩⟩ rfl rfl hl.1 rfl (lv_room (Nat.le_of_ble_eq_true rfl)) dX3_standIn_15 ⟨Nat.le_of_ble_eq_true rfl, Nat.le_of_ble_eq_true rfl⟩) hS (fun v9 _ H locs wl hv9 hRc hRr hRo hP hD hS => ?_)
      refine n_top (y := .int (nI (bN (okR r y)))) (congrArg Value.int hv9) ?_
      clear hv9 v9
      refine n_ifb_eq (tgt := 25) hx hb dX3_standIn_18 (by decide) (fun c_18 => ?_) (fun c_18 => ?_)
      · refine lv_iconst (v := nI 0) hx hb dX3_standIn_25 (by decide) ?_
        refine lv_istore_n (lv' := [(3, .int (nI 0)), (0, .ref (G 3)), (1, .int x), (2, .int y)]) hx hb dX3_standIn_26 rfl hl (by decide) rfl (fun ls hl => ?_)
        refine lv_aload_n hx hb dX3_standIn_27 rfl (lv_at hl 1 rfl) ?_
        refine lv_iload_n hx hb dX3_standIn_28 rfl (lv_at hl 0 rfl) ?_
        refine n_if_ne (tgt := 36) hx hb dX3_standIn_29 (by decide) (by decide) (fun c_29 => absurd c_29 (by decide)) (fun c_29 => ?_)
        refine lv_iconst (v := nI 1) hx hb dX3_standIn_32 (by decide) ?_
        refine lv_goto (tgt := 57) hx hb dX3_standIn_33 (by decide) ?_
        refine y_calli (va_runV (As := [.int (nI 1)]) (rest := []) ⟨hx, hb, hml, hown, hts⟩ (k_X3_goes l D G h0 c r o 1 (by decide)) (cwV 1 hts gX3_standIn_X3_goes rfl rfl rfl (by decide +kernel) ⟨Nat.le_of_ble_eq_true rfl, Nat.le_of_ble_eq_true rfl⟩) ⟨fun a U g mk q => ⟨q.1, Pr_cg q.2⟩, va_recv (ci := 4) (q0 := 3) hK hP rfl (Q_m hRr), fun U hU hW => ⟨rfl, Pr_mk hE hRc hRr hRo hP hD hS hU hW⟩⟩ rfl rfl hl.1 rfl (lv_room (Nat.le_of_ble_eq_true rfl)) dX3_standIn_57 ⟨Nat.le_of_ble_eq_true rfl, Nat.le_of_ble_eq_true rfl⟩) hS (fun v9 _ H locs wl hv9 hRc hRr hRo hP hD hS => ?_)
        refine n_top (y := .int (nI 0)) (congrArg Value.int (hv9.trans (congrArg nI (bN_f (by decide))))) ?_
        clear hv9 v9
        refine n_if_ne (tgt := 65) hx hb dX3_standIn_60 (by decide) (by decide) (fun c_60 => absurd c_60 (by decide)) (fun c_60 => ?_)
        refine lv_iconst (v := nI 0) hx hb dX3_standIn_63 (by decide) ?_
        have hrel : (fun (v9 : Int32) (u9 : Nat → Nat → Nat) => (¬ (okR r x ∧ (y = -1 ∨ okR r y)) ∧ u9 = up2 r 30 22 1) ∨ (okR r x ∧ okR r y ∧ x = y ∧ u9 = up2 r 30 22 2) ∨ (okR r x ∧ (y = -1 ∨ okR r y) ∧ x ≠ y ∧ r 30 13 ≠ 0 ∧ u9 = up2 r 30 22 3) ∨ (∃ a k, a < r 30 0 ∧ x = nI a ∧ (k = 0 ∧ y = -1 ∨ ∃ b, b < r 30 0 ∧ y = nI b ∧ b ≠ a ∧ k = b + 1) ∧ r 30 13 = 0 ∧ v9 = siI (r 5 a) ∧ u9 = up2 (up2 r 30 22 0) 5 a k)) (nI 0) (up2 r 30 22 1) := by exact Or.inl ⟨fun z => z.2.elim c_10 c_18, rfl⟩
        exact W.iret (v := nI 0) hx hb hr (fun t ht hW => ⟨⟨_, (up2 r 30 22 1), rfl, hrel, Wr_mk hRc hRr hRo hP hD ht⟩, hS.F ht⟩) hS.2.2 dX3_standIn_64
      · obtain ⟨j_y, hj_y, hx_y⟩ := c_18
        refine lv_iconst (v := nI 1) hx hb dX3_standIn_21 (by decide) ?_
        refine lv_goto (tgt := 26) hx hb dX3_standIn_22 (by decide) ?_
        refine lv_istore_n (lv' := [(3, .int (nI 1)), (0, .ref (G 3)), (1, .int x), (2, .int y)]) hx hb dX3_standIn_26 rfl hl (by decide) rfl (fun ls hl => ?_)
        refine lv_aload_n hx hb dX3_standIn_27 rfl (lv_at hl 1 rfl) ?_
        refine lv_iload_n hx hb dX3_standIn_28 rfl (lv_at hl 0 rfl) ?_
        refine n_if_ne (tgt := 36) hx hb dX3_standIn_29 (by decide) (by decide) (fun c_29 => ?_) (fun c_29 => absurd c_29 (by decide))
        refine lv_iload_n hx hb dX3_standIn_36 rfl (lv_at hl 2 rfl) ?_
        refine n_top (y := .int (nI j_x)) (congrArg Value.int hx_x) ?_
        refine lv_iload_n hx hb dX3_standIn_37 rfl (lv_at hl 3 rfl) ?_
        refine n_top (y := .int (nI j_y)) (congrArg Value.int hx_y) ?_
        refine n_icmp_ne (tgt := 45) hx hb dX3_standIn_38 (by decide) (by omega) (by omega) (fun c_38 => ?_) (fun c_38 => ?_)
        · refine lv_aload_n hx hb dX3_standIn_45 rfl (lv_at hl 1 rfl) ?_
          refine va_get (D := D) (ci := 4) (v := .int (nI (r 30 13))) (C := RX3) (T := TX3) (N := 23) hx hb hts inX3 hown hK hP 3 (Q_m hRr) rfl 13 (by decide) (hts (.fieldLink RX3 67 "BootStageModel" "goesOn" "Z") (by decide +kernel)) (fun _ h9 => h9) rfl dX3_standIn_46 ?_
          refine n_if_eq (tgt := 56) hx hb dX3_standIn_49 (by decide) (hBr _ _ (by decide)) (fun c_49 => ?_) (fun c_49 => ?_)
          · refine lv_iconst (v := nI 0) hx hb dX3_standIn_56 (by decide) ?_
            refine y_calli (va_runV (As := [.int (nI 0)]) (rest := []) ⟨hx, hb, hml, hown, hts⟩ (k_X3_goes l D G h0 c r o 0 (by decide)) (cwV 1 hts gX3_standIn_X3_goes rfl rfl rfl (by decide +kernel) ⟨Nat.le_of_ble_eq_true rfl, Nat.le_of_ble_eq_true rfl⟩) ⟨fun a U g mk q => ⟨q.1, Pr_cg q.2⟩, va_recv (ci := 4) (q0 := 3) hK hP rfl (Q_m hRr), fun U hU hW => ⟨rfl, Pr_mk hE hRc hRr hRo hP hD hS hU hW⟩⟩ rfl rfl hl.1 rfl (lv_room (Nat.le_of_ble_eq_true rfl)) dX3_standIn_57 ⟨Nat.le_of_ble_eq_true rfl, Nat.le_of_ble_eq_true rfl⟩) hS (fun v9 _ H locs wl hv9 hRc hRr hRo hP hD hS => ?_)
            refine n_top (y := .int (nI 1)) (congrArg Value.int (hv9.trans (congrArg nI (bN_t rfl)))) ?_
            clear hv9 v9
            refine n_if_ne (tgt := 65) hx hb dX3_standIn_60 (by decide) (by decide) (fun c_60 => ?_) (fun c_60 => absurd c_60 (by decide))
            refine lv_aload_n hx hb dX3_standIn_65 rfl (lv_at hl 1 rfl) ?_
            refine va_get (D := D) (ci := 4) (v := .ref (G 9)) (C := RX3) (T := TX3) (N := 23) hx hb hts inX3 hown hK hP 3 (Q_m hRr) rfl 5 (by decide) (hts (.fieldLink RX3 22 "BootStageModel" "standIns" "[I") (by decide +kernel)) (fun _ h9 => h9) rfl dX3_standIn_66 ?_
            refine lv_iload_n hx hb dX3_standIn_69 rfl (lv_at hl 2 rfl) ?_
            refine n_top (y := .int (nI j_x)) (congrArg Value.int hx_x) ?_
            refine x_iald hx hb hK hP 9 (Q_a5 hRr) (by first | omega | decide | assumption) (by decide) dX3_standIn_70 (v := siI (r 5 j_x)) (congrArg siI (show (up2 r 30 22 0) 5 j_x = r 5 j_x from by simp [up2])) ?_
            refine lv_istore (lv' := [(4, .int (siI (r 5 j_x))), (3, .int (nI 1)), (0, .ref (G 3)), (1, .int x), (2, .int y)]) hx hb dX3_standIn_71 hl (by decide) rfl (fun ls hl => ?_)
            refine lv_aload_n hx hb dX3_standIn_73 rfl (lv_at hl 2 rfl) ?_
            refine va_get (D := D) (ci := 4) (v := .ref (G 9)) (C := RX3) (T := TX3) (N := 23) hx hb hts inX3 hown hK hP 3 (Q_m hRr) rfl 5 (by decide) (hts (.fieldLink RX3 22 "BootStageModel" "standIns" "[I") (by decide +kernel)) (fun _ h9 => h9) rfl dX3_standIn_74 ?_
            refine lv_iload_n hx hb dX3_standIn_77 rfl (lv_at hl 3 rfl) ?_
            refine n_top (y := .int (nI j_x)) (congrArg Value.int hx_x) ?_
            refine lv_iload_n hx hb dX3_standIn_78 rfl (lv_at hl 4 rfl) ?_
            refine n_top (y := .int (siI (j_y + 1))) (congrArg Value.int (hx_y.trans (siI_s _).symm)) ?_
            refine x_iast (Z := fun wl => Rc G c wl ∧ Rr G (up2 (up2 r 30 22 0) 5 j_x (j_y + 1)) wl ∧ Ro G o wl) hx hb hK hP hD hS 9 (Q_a5 hRr) (by first | omega | decide | assumption) (by decide) dX3_standIn_79 ⟨Rc_fr hRc (by decide) (by decide), P_a5 (j_y + 1) (by first | omega | decide | assumption) hRr, Ro_fr hRo (by decide)⟩ (fun H locs wl hZ hP hD hS => ?_)
            obtain ⟨hRc, hRr, hRo⟩ := hZ
            refine lv_iload hx hb dX3_standIn_80 (lv_at hl 0 rfl) ?_
            have hrel : (fun (v9 : Int32) (u9 : Nat → Nat → Nat) => (¬ (okR r x ∧ (y = -1 ∨ okR r y)) ∧ u9 = up2 r 30 22 1) ∨ (okR r x ∧ okR r y ∧ x = y ∧ u9 = up2 r 30 22 2) ∨ (okR r x ∧ (y = -1 ∨ okR r y) ∧ x ≠ y ∧ r 30 13 ≠ 0 ∧ u9 = up2 r 30 22 3) ∨ (∃ a k, a < r 30 0 ∧ x = nI a ∧ (k = 0 ∧ y = -1 ∨ ∃ b, b < r 30 0 ∧ y = nI b ∧ b ≠ a ∧ k = b + 1) ∧ r 30 13 = 0 ∧ v9 = siI (r 5 a) ∧ u9 = up2 (up2 r 30 22 0) 5 a k)) (siI (r 5 j_x)) (up2 (up2 r 30 22 0) 5 j_x (j_y + 1)) := by exact Or.inr (Or.inr (Or.inr ⟨j_x, j_y + 1, hj_x, hx_x, Or.inr ⟨j_y, hj_y, hx_y, fun z => c_38 z.symm, rfl⟩, c_49, rfl, rfl⟩))
            exact W.iret (v := siI (r 5 j_x)) hx hb hr (fun t ht hW => ⟨⟨_, (up2 (up2 r 30 22 0) 5 j_x (j_y + 1)), rfl, hrel, Wr_mk hRc hRr hRo hP hD ht⟩, hS.F ht⟩) hS.2.2 dX3_standIn_82
          · refine lv_iconst (v := nI 3) hx hb dX3_standIn_52 (by decide) ?_
            refine lv_goto (tgt := 57) hx hb dX3_standIn_53 (by decide) ?_
            refine y_calli (va_runV (As := [.int (nI 3)]) (rest := []) ⟨hx, hb, hml, hown, hts⟩ (k_X3_goes l D G h0 c r o 3 (by decide)) (cwV 1 hts gX3_standIn_X3_goes rfl rfl rfl (by decide +kernel) ⟨Nat.le_of_ble_eq_true rfl, Nat.le_of_ble_eq_true rfl⟩) ⟨fun a U g mk q => ⟨q.1, Pr_cg q.2⟩, va_recv (ci := 4) (q0 := 3) hK hP rfl (Q_m hRr), fun U hU hW => ⟨rfl, Pr_mk hE hRc hRr hRo hP hD hS hU hW⟩⟩ rfl rfl hl.1 rfl (lv_room (Nat.le_of_ble_eq_true rfl)) dX3_standIn_57 ⟨Nat.le_of_ble_eq_true rfl, Nat.le_of_ble_eq_true rfl⟩) hS (fun v9 _ H locs wl hv9 hRc hRr hRo hP hD hS => ?_)
            refine n_top (y := .int (nI 0)) (congrArg Value.int (hv9.trans (congrArg nI (bN_f (by decide))))) ?_
            clear hv9 v9
            refine n_if_ne (tgt := 65) hx hb dX3_standIn_60 (by decide) (by decide) (fun c_60 => absurd c_60 (by decide)) (fun c_60 => ?_)
            refine lv_iconst (v := nI 0) hx hb dX3_standIn_63 (by decide) ?_
            have hrel : (fun (v9 : Int32) (u9 : Nat → Nat → Nat) => (¬ (okR r x ∧ (y = -1 ∨ okR r y)) ∧ u9 = up2 r 30 22 1) ∨ (okR r x ∧ okR r y ∧ x = y ∧ u9 = up2 r 30 22 2) ∨ (okR r x ∧ (y = -1 ∨ okR r y) ∧ x ≠ y ∧ r 30 13 ≠ 0 ∧ u9 = up2 r 30 22 3) ∨ (∃ a k, a < r 30 0 ∧ x = nI a ∧ (k = 0 ∧ y = -1 ∨ ∃ b, b < r 30 0 ∧ y = nI b ∧ b ≠ a ∧ k = b + 1) ∧ r 30 13 = 0 ∧ v9 = siI (r 5 a) ∧ u9 = up2 (up2 r 30 22 0) 5 a k)) (nI 0) (up2 r 30 22 3) := by exact Or.inr (Or.inr (Or.inl ⟨⟨j_x, hj_x, hx_x⟩, Or.inr ⟨j_y, hj_y, hx_y⟩, by rw [hx_x, hx_y]; exact fun z => c_38 ((nI_eq (by omega) (by omega)).mp z), Nat.ne_of_gt c_49, rfl⟩))
            exact W.iret (v := nI 0) hx hb hr (fun t ht hW => ⟨⟨_, (up2 r 30 22 3), rfl, hrel, Wr_mk hRc hRr hRo hP hD ht⟩, hS.F ht⟩) hS.2.2 dX3_standIn_64
        · refine lv_iconst (v := nI 2) hx hb dX3_standIn_41 (by decide) ?_
          refine lv_goto (tgt := 57) hx hb dX3_standIn_42 (by decide) ?_
          refine y_calli (va_runV (As := [.int (nI 2)]) (rest := []) ⟨hx, hb, hml, hown, hts⟩ (k_X3_goes l D G h0 c r o 2 (by decide)) (cwV 1 hts gX3_standIn_X3_goes rfl rfl rfl (by decide +kernel) ⟨Nat.le_of_ble_eq_true rfl, Nat.le_of_ble_eq_true rfl⟩) ⟨fun a U g mk q => ⟨q.1, Pr_cg q.2⟩, va_recv (ci := 4) (q0 := 3) hK hP rfl (Q_m hRr), fun U hU hW => ⟨rfl, Pr_mk hE hRc hRr hRo hP hD hS hU hW⟩⟩ rfl rfl hl.1 rfl (lv_room (Nat.le_of_ble_eq_true rfl)) dX3_standIn_57 ⟨Nat.le_of_ble_eq_true rfl, Nat.le_of_ble_eq_true rfl⟩) hS (fun v9 _ H locs wl hv9 hRc hRr hRo hP hD hS => ?_)
          refine n_top (y := .int (nI 0)) (congrArg Value.int (hv9.trans (congrArg nI (bN_f (by decide))))) ?_
          clear hv9 v9
          refine n_if_ne (tgt := 65) hx hb dX3_standIn_60 (by decide) (by decide) (fun c_60 => absurd c_60 (by decide)) (fun c_60 => ?_)
          refine lv_iconst (v := nI 0) hx hb dX3_standIn_63 (by decide) ?_
          have hrel : (fun (v9 : Int32) (u9 : Nat → Nat → Nat) => (¬ (okR r x ∧ (y = -1 ∨ okR r y)) ∧ u9 = up2 r 30 22 1) ∨ (okR r x ∧ okR r y ∧ x = y ∧ u9 = up2 r 30 22 2) ∨ (okR r x ∧ (y = -1 ∨ okR r y) ∧ x ≠ y ∧ r 30 13 ≠ 0 ∧ u9 = up2 r 30 22 3) ∨ (∃ a k, a < r 30 0 ∧ x = nI a ∧ (k = 0 ∧ y = -1 ∨ ∃ b, b < r 30 0 ∧ y = nI b ∧ b ≠ a ∧ k = b + 1) ∧ r 30 13 = 0 ∧ v9 = siI (r 5 a) ∧ u9 = up2 (up2 r 30 22 0) 5 a k)) (nI 0) (up2 r 30 22 2) := by exact Or.inr (Or.inl ⟨⟨j_x, hj_x, hx_x⟩, ⟨j_y, hj_y, hx_y⟩, by rw [hx_x, hx_y, c_38], rfl⟩)
          exact W.iret (v := nI 0) hx hb hr (fun t ht hW => ⟨⟨_, (up2 r 30 22 2), rfl, hrel, Wr_mk hRc hRr hRo hP hD ht⟩, hS.F ht⟩) hS.2.2 dX3_standIn_64
set_option maxHeartbeats 4000000 in
set_option maxRecDepth 100000 in
theorem k_X3_hold (l : Launch) (D : va_G) (G : Nat → Nat) (h0 : Nat) (c r : Nat → Nat → Nat) (o : Nat) (x : Int32) (b : Nat) (hb1 : b ≤ 1) (hI : IR r) : Met l yX3_hold wsX3_hold ({ frames := 2, cells := 0, slots := 0, locals := 43 } : Room) (va_Pc [.ref (G 3), .int x, .int (nI b)] (fun U => Pr D G h0 c r o U)) (va_Qi (fun (v9 : Int32) (u9 : Nat → Nat → Nat) => (¬ okR r x ∧ u9 = up2 r 30 22 1) ∨ (okR r x ∧ r 30 13 ≠ 0 ∧ u9 = up2 r 30 22 2) ∨ (∃ a, a < r 30 0 ∧ x = nI a ∧ r 30 13 = 0 ∧ v9 = nI (r 6 a) ∧ u9 = up2 (up2 r 30 22 0) 6 a b)) (fun (u9 : Nat → Nat → Nat) t => Wr D G h0 c u9 o t) (fun q => h0 ≤ q)) 0 0 (fun q => h0 ≤ q) := by
  refine Met.ofW (cc := cX3_hold) (maxL := 4) (ret := (some .boolean)) (by decide) rfl ?_
  intro p e s m args below meth cd s₁ B hml hv
  obtain ⟨rfl, hE, wl, hRc, hRr, hRo, hP, hD⟩ := hv
  have hx := B.exec
  have hb := B.bytes
  have hr := B.returns
  have hts := atoms_spec (ws := wsX3_hold) B.pre
  have hown : s.vm.findClass RX3 = some m.cls := findClass_of_methodNamed B.named
  have hlocks := B.notSynchronized
  have hK := hE.2.1
  have hS : va_S (fun q => h0 ≤ q) s.heap s.heap [] := va_S.rf
  have hl := lv_entry ([.ref (G 3), .int x, .int (nI b)]) (n := 4) (Nat.le_of_ble_eq_true rfl)
  rw [lg_entry_eq]
  generalize (lg_sl ([.ref (G 3), .int x, .int (nI b)]) ++ List.replicate (4 - (lg_sl ([.ref (G 3), .int x, .int (nI b)])).length) Slot.unset).toArray = ls at hl ⊢
  have hl : lv_has ls 4 [(0, .ref (G 3)), (1, .int x), (2, .int (nI b))] := hl
  have inX3 : ∀ w ∈ wsX30, w ∈ wsX3_hold := by decide +kernel
  have hBr := IR_B hI
  have hn := IR_n hI
  have hs := IR_s hI
  have hU := IR_U hI
  refine lv_aload_n hx hb dX3_hold_0 rfl (lv_at hl 0 rfl) ?_
  refine lv_aload_n hx hb dX3_hold_1 rfl (lv_at hl 0 rfl) ?_
  refine lv_iload_n hx hb dX3_hold_2 rfl (lv_at hl 1 rfl) ?_
  refine y_calli (va_runV (As := [.int x]) (rest := [.ref (G 3)]) ⟨hx, hb, hml, hown, hts⟩ (k_X3_isUnit l D G h0 c r o x (by first | exact hn | assumption)) (cwV 1 hts gX3_hold_X3_isUnit rfl rfl rfl (by decide +kernel) ⟨Nat.le_of_ble_eq_true rfl, Nat.le_of_ble_eq_true rfl⟩) ⟨fun a U g mk q => ⟨q.1, Pr_cg q.2⟩, va_recv (ci := 4) (q0 := 3) hK hP rfl (Q_m hRr), fun U hU hW => ⟨rfl, Pr_mk hE hRc hRr hRo hP hD hS hU hW⟩⟩ rfl rfl hl.1 rfl (lv_room (Nat.le_of_ble_eq_true rfl)) dX3_hold_3 ⟨Nat.le_of_ble_eq_true rfl, Nat.le_of_ble_eq_true rfl⟩) hS (fun v9 _ H locs wl hv9 hRc hRr hRo hP hD hS => ?_)
  refine n_top (y := .int (nI (bN (okR r x)))) (congrArg Value.int hv9) ?_
  clear hv9 v9
  refine n_ifb_ne (tgt := 13) hx hb dX3_hold_6 (by decide) (fun c_6 => ?_) (fun c_6 => ?_)
  · obtain ⟨j_x, hj_x, hx_x⟩ := c_6
    refine lv_aload_n hx hb dX3_hold_13 rfl (lv_at hl 0 rfl) ?_
    refine va_get (D := D) (ci := 4) (v := .int (nI (r 30 13))) (C := RX3) (T := TX3) (N := 23) hx hb hts inX3 hown hK hP 3 (Q_m hRr) rfl 13 (by decide) (hts (.fieldLink RX3 67 "BootStageModel" "goesOn" "Z") (by decide +kernel)) (fun _ h9 => h9) rfl dX3_hold_14 ?_
    refine n_if_eq (tgt := 24) hx hb dX3_hold_17 (by decide) (hBr _ _ (by decide)) (fun c_17 => ?_) (fun c_17 => ?_)
    · refine lv_iconst (v := nI 0) hx hb dX3_hold_24 (by decide) ?_
      refine y_calli (va_runV (As := [.int (nI 0)]) (rest := []) ⟨hx, hb, hml, hown, hts⟩ (k_X3_goes l D G h0 c r o 0 (by decide)) (cwV 1 hts gX3_hold_X3_goes rfl rfl rfl (by decide +kernel) ⟨Nat.le_of_ble_eq_true rfl, Nat.le_of_ble_eq_true rfl⟩) ⟨fun a U g mk q => ⟨q.1, Pr_cg q.2⟩, va_recv (ci := 4) (q0 := 3) hK hP rfl (Q_m hRr), fun U hU hW => ⟨rfl, Pr_mk hE hRc hRr hRo hP hD hS hU hW⟩⟩ rfl rfl hl.1 rfl (lv_room (Nat.le_of_ble_eq_true rfl)) dX3_hold_25 ⟨Nat.le_of_ble_eq_true rfl, Nat.le_of_ble_eq_true rfl⟩) hS (fun v9 _ H locs wl hv9 hRc hRr hRo hP hD hS => ?_)
      refine n_top (y := .int (nI 1)) (congrArg Value.int (hv9.trans (congrArg nI (bN_t rfl)))) ?_
      clear hv9 v9
      refine n_if_ne (tgt := 33) hx hb dX3_hold_28 (by decide) (by decide) (fun c_28 => ?_) (fun c_28 => absurd c_28 (by decide))
      refine lv_aload_n hx hb dX3_hold_33 rfl (lv_at hl 0 rfl) ?_
      refine va_get (D := D) (ci := 4) (v := .ref (G 10)) (C := RX3) (T := TX3) (N := 23) hx hb hts inX3 hown hK hP 3 (Q_m hRr) rfl 6 (by decide) (hts (.fieldLink RX3 25 "BootStageModel" "isHeld" "[Z") (by decide +kernel)) (fun _ h9 => h9) rfl dX3_hold_34 ?_
      refine lv_iload_n hx hb dX3_hold_37 rfl (lv_at hl 1 rfl) ?_
      refine n_top (y := .int (nI j_x)) (congrArg Value.int hx_x) ?_
      refine x_zald hx hb hK hP 10 (Q_a6 hRr) (by first | omega | decide | assumption) (by decide) dX3_hold_38 (v := nI (r 6 j_x)) (congrArg nI (show (up2 r 30 22 0) 6 j_x = r 6 j_x from by simp [up2])) ?_
      refine lv_istore_n (lv' := [(3, .int (nI (r 6 j_x))), (0, .ref (G 3)), (1, .int x), (2, .int (nI b))]) hx hb dX3_hold_39 rfl hl (by decide) rfl (fun ls hl => ?_)
      refine lv_aload_n hx hb dX3_hold_40 rfl (lv_at hl 1 rfl) ?_
      refine va_get (D := D) (ci := 4) (v := .ref (G 10)) (C := RX3) (T := TX3) (N := 23) hx hb hts inX3 hown hK hP 3 (Q_m hRr) rfl 6 (by decide) (hts (.fieldLink RX3 25 "BootStageModel" "isHeld" "[Z") (by decide +kernel)) (fun _ h9 => h9) rfl dX3_hold_41 ?_
      refine lv_iload_n hx hb dX3_hold_44 rfl (lv_at hl 2 rfl) ?_
      refine n_top (y := .int (nI j_x)) (congrArg Value.int hx_x) ?_
      refine lv_iload_n hx hb dX3_hold_45 rfl (lv_at hl 3 rfl) ?_
      refine x_zast (Z := fun wl => Rc G c wl ∧ Rr G (up2 (up2 r 30 22 0) 6 j_x b) wl ∧ Ro G o wl) hx hb hK hP hD hS 10 (Q_a6 hRr) (by first | omega | decide | assumption) (by decide) dX3_hold_46 ⟨Rc_fr hRc (by decide) (by decide), P_a6 b (by first | omega | decide | assumption) (by first | exact bN_le _ | decide | omega | assumption) hRr, Ro_fr hRo (by decide)⟩ (fun H locs wl hZ hP hD hS => ?_)
      obtain ⟨hRc, hRr, hRo⟩ := hZ
      refine lv_iload_n hx hb dX3_hold_47 rfl (lv_at hl 0 rfl) ?_
      have hrel : (fun (v9 : Int32) (u9 : Nat → Nat → Nat) => (¬ okR r x ∧ u9 = up2 r 30 22 1) ∨ (okR r x ∧ r 30 13 ≠ 0 ∧ u9 = up2 r 30 22 2) ∨ (∃ a, a < r 30 0 ∧ x = nI a ∧ r 30 13 = 0 ∧ v9 = nI (r 6 a) ∧ u9 = up2 (up2 r 30 22 0) 6 a b)) (nI (r 6 j_x)) (up2 (up2 r 30 22 0) 6 j_x b) := by exact Or.inr (Or.inr ⟨j_x, hj_x, hx_x, c_17, rfl, rfl⟩)
      exact W.zret (v := nI (r 6 j_x)) (ty := .boolean) hx hb hr (nb_le (by exact (hU j_x).2.2.2.2.1)) (fun t ht hW => ⟨⟨_, (up2 (up2 r 30 22 0) 6 j_x b), rfl, hrel, Wr_mk hRc hRr hRo hP hD ht⟩, hS.F ht⟩) hS.2.2 dX3_hold_48
    · refine lv_iconst (v := nI 2) hx hb dX3_hold_20 (by decide) ?_
      refine lv_goto (tgt := 25) hx hb dX3_hold_21 (by decide) ?_
      refine y_calli (va_runV (As := [.int (nI 2)]) (rest := []) ⟨hx, hb, hml, hown, hts⟩ (k_X3_goes l D G h0 c r o 2 (by decide)) (cwV 1 hts gX3_hold_X3_goes rfl rfl rfl (by decide +kernel) ⟨Nat.le_of_ble_eq_true rfl, Nat.le_of_ble_eq_true rfl⟩) ⟨fun a U g mk q => ⟨q.1, Pr_cg q.2⟩, va_recv (ci := 4) (q0 := 3) hK hP rfl (Q_m hRr), fun U hU hW => ⟨rfl, Pr_mk hE hRc hRr hRo hP hD hS hU hW⟩⟩ rfl rfl hl.1 rfl (lv_room (Nat.le_of_ble_eq_true rfl)) dX3_hold_25 ⟨Nat.le_of_ble_eq_true rfl, Nat.le_of_ble_eq_true rfl⟩) hS (fun v9 _ H locs wl hv9 hRc hRr hRo hP hD hS => ?_)
      refine n_top (y := .int (nI 0)) (congrArg Value.int (hv9.trans (congrArg nI (bN_f (by decide))))) ?_
      clear hv9 v9
      refine n_if_ne (tgt := 33) hx hb dX3_hold_28 (by decide) (by decide) (fun c_28 => absurd c_28 (by decide)) (fun c_28 => ?_)
      refine lv_iconst (v := nI 0) hx hb dX3_hold_31 (by decide) ?_
      have hrel : (fun (v9 : Int32) (u9 : Nat → Nat → Nat) => (¬ okR r x ∧ u9 = up2 r 30 22 1) ∨ (okR r x ∧ r 30 13 ≠ 0 ∧ u9 = up2 r 30 22 2) ∨ (∃ a, a < r 30 0 ∧ x = nI a ∧ r 30 13 = 0 ∧ v9 = nI (r 6 a) ∧ u9 = up2 (up2 r 30 22 0) 6 a b)) (nI 0) (up2 r 30 22 2) := by exact Or.inr (Or.inl ⟨⟨j_x, hj_x, hx_x⟩, Nat.ne_of_gt c_17, rfl⟩)
      exact W.zret (v := nI 0) (ty := .boolean) hx hb hr (nb_le (by first | exact bN_le _ | decide | omega | assumption)) (fun t ht hW => ⟨⟨_, (up2 r 30 22 2), rfl, hrel, Wr_mk hRc hRr hRo hP hD ht⟩, hS.F ht⟩) hS.2.2 dX3_hold_32
  · refine lv_iconst (v := nI 1) hx hb dX3_hold_9 (by decide) ?_
    refine lv_goto (tgt := 25) hx hb dX3_hold_10 (by decide) ?_
    refine y_calli (va_runV (As := [.int (nI 1)]) (rest := []) ⟨hx, hb, hml, hown, hts⟩ (k_X3_goes l D G h0 c r o 1 (by decide)) (cwV 1 hts gX3_hold_X3_goes rfl rfl rfl (by decide +kernel) ⟨Nat.le_of_ble_eq_true rfl, Nat.le_of_ble_eq_true rfl⟩) ⟨fun a U g mk q => ⟨q.1, Pr_cg q.2⟩, va_recv (ci := 4) (q0 := 3) hK hP rfl (Q_m hRr), fun U hU hW => ⟨rfl, Pr_mk hE hRc hRr hRo hP hD hS hU hW⟩⟩ rfl rfl hl.1 rfl (lv_room (Nat.le_of_ble_eq_true rfl)) dX3_hold_25 ⟨Nat.le_of_ble_eq_true rfl, Nat.le_of_ble_eq_true rfl⟩) hS (fun v9 _ H locs wl hv9 hRc hRr hRo hP hD hS => ?_)
    refine n_top (y := .int (nI 0)) (congrArg Value.int (hv9.trans (congrArg nI (bN_f (by decide))))) ?_
    clear hv9 v9
    refine n_if_ne (tgt := 33) hx hb dX3_hold_28 (by decide) (by decide) (fun c_28 => absurd c_28 (by decide)) (fun c_28 => ?_)
    refine lv_iconst (v := nI 0) hx hb dX3_hold_31 (by decide) ?_
    have hrel : (fun (v9 : Int32) (u9 : Nat → Nat → Nat) => (¬ okR r x ∧ u9 = up2 r 30 22 1) ∨ (okR r x ∧ r 30 13 ≠ 0 ∧ u9 = up2 r 30 22 2) ∨ (∃ a, a < r 30 0 ∧ x = nI a ∧ r 30 13 = 0 ∧ v9 = nI (r 6 a) ∧ u9 = up2 (up2 r 30 22 0) 6 a b)) (nI 0) (up2 r 30 22 1) := by exact Or.inl ⟨c_6, rfl⟩
    exact W.zret (v := nI 0) (ty := .boolean) hx hb hr (nb_le (by first | exact bN_le _ | decide | omega | assumption)) (fun t ht hW => ⟨⟨_, (up2 r 30 22 1), rfl, hrel, Wr_mk hRc hRr hRo hP hD ht⟩, hS.F ht⟩) hS.2.2 dX3_hold_32
set_option maxHeartbeats 4000000 in
set_option maxRecDepth 100000 in
theorem k_X3_setFaults (l : Launch) (D : va_G) (G : Nat → Nat) (h0 : Nat) (c r : Nat → Nat → Nat) (o : Nat) (x y : Int32) (hI : IR r) : Met l yX3_setFaults wsX3_setFaults ({ frames := 2, cells := 0, slots := 0, locals := 43 } : Room) (va_Pc [.ref (G 3), .int x, .int y] (fun U => Pr D G h0 c r o U)) (va_Qi (fun (v9 : Int32) (u9 : Nat → Nat → Nat) => (¬ okR r x ∧ u9 = up2 r 30 22 1) ∨ (okR r x ∧ ¬ inR y 0 10 ∧ u9 = up2 r 30 22 2) ∨ (∃ a t, a < r 30 0 ∧ x = nI a ∧ (0 ≤ t ∧ t ≤ 10) ∧ y = nI t ∧ v9 = nI (r 4 a) ∧ u9 = up2 (up2 r 30 22 0) 4 a t)) (fun (u9 : Nat → Nat → Nat) t => Wr D G h0 c u9 o t) (fun q => h0 ≤ q)) 0 0 (fun q => h0 ≤ q) := by
  refine Met.ofW (cc := cX3_setFaults) (maxL := 4) (ret := (some .int)) (by decide) rfl ?_
  intro p e s m args below meth cd s₁ B hml hv
  obtain ⟨rfl, hE, wl, hRc, hRr, hRo, hP, hD⟩ := hv
  have hx := B.exec
  have hb := B.bytes
  have hr := B.returns
  have hts := atoms_spec (ws := wsX3_setFaults) B.pre
  have hown : s.vm.findClass RX3 = some m.cls := findClass_of_methodNamed B.named
  have hlocks := B.notSynchronized
  have hK := hE.2.1
  have hS : va_S (fun q => h0 ≤ q) s.heap s.heap [] := va_S.rf
  have hl := lv_entry ([.ref (G 3), .int x, .int y]) (n := 4) (Nat.le_of_ble_eq_true rfl)
  rw [lg_entry_eq]
  generalize (lg_sl ([.ref (G 3), .int x, .int y]) ++ List.replicate (4 - (lg_sl ([.ref (G 3), .int x, .int y])).length) Slot.unset).toArray = ls at hl ⊢
  have hl : lv_has ls 4 [(0, .ref (G 3)), (1, .int x), (2, .int y)] := hl
  have inX3 : ∀ w ∈ wsX30, w ∈ wsX3_setFaults := by decide +kernel
  have hBr := IR_B hI
  have hn := IR_n hI
  have hs := IR_s hI
  refine lv_aload_n hx hb dX3_setFaults_0 rfl (lv_at hl 0 rfl) ?_
  refine lv_aload_n hx hb dX3_setFaults_1 rfl (lv_at hl 0 rfl) ?_
  refine lv_iload_n hx hb dX3_setFaults_2 rfl (lv_at hl 1 rfl) ?_
  refine y_calli (va_runV (As := [.int x]) (rest := [.ref (G 3)]) ⟨hx, hb, hml, hown, hts⟩ (k_X3_isUnit l D G h0 c r o x (by first | exact hn | assumption)) (cwV 1 hts gX3_setFaults_X3_isUnit rfl rfl rfl (by decide +kernel) ⟨Nat.le_of_ble_eq_true rfl, Nat.le_of_ble_eq_true rfl⟩) ⟨fun a U g mk q => ⟨q.1, Pr_cg q.2⟩, va_recv (ci := 4) (q0 := 3) hK hP rfl (Q_m hRr), fun U hU hW => ⟨rfl, Pr_mk hE hRc hRr hRo hP hD hS hU hW⟩⟩ rfl rfl hl.1 rfl (lv_room (Nat.le_of_ble_eq_true rfl)) dX3_setFaults_3 ⟨Nat.le_of_ble_eq_true rfl, Nat.le_of_ble_eq_true rfl⟩) hS (fun v9 _ H locs wl hv9 hRc hRr hRo hP hD hS => ?_)
  refine n_top (y := .int (nI (bN (okR r x)))) (congrArg Value.int hv9) ?_
  clear hv9 v9
  refine n_ifb_ne (tgt := 13) hx hb dX3_setFaults_6 (by decide) (fun c_6 => ?_) (fun c_6 => ?_)
  · obtain ⟨j_x, hj_x, hx_x⟩ := c_6
    refine lv_iload_n hx hb dX3_setFaults_13 rfl (lv_at hl 2 rfl) ?_
    refine lv_iconst (v := nI 0) hx hb dX3_setFaults_14 (by decide) ?_
    refine lv_bipush (v := nI 10) hx hb dX3_setFaults_15 (by decide) ?_
    refine y_calli (va_runS (As := [.int y, .int (nI 0), .int (nI 10)]) (rest := [.ref (G 3)]) ⟨hx, hb, hml, hown, hts⟩ (k_X3_isIn l D G h0 c r o y (nI 0) (nI 10)) (va_cwS 3 hts gX3_setFaults_X3_isIn rfl rfl rfl (by decide +kernel) ⟨Nat.le_of_ble_eq_true rfl, Nat.le_of_ble_eq_true rfl⟩) ⟨fun a U g mk q => ⟨q.1, Pr_cg q.2⟩, fun U hU hW => ⟨rfl, Pr_mk hE hRc hRr hRo hP hD hS hU hW⟩⟩ rfl rfl hl.1 rfl (lv_room (Nat.le_of_ble_eq_true rfl)) dX3_setFaults_17 ⟨Nat.le_of_ble_eq_true rfl, Nat.le_of_ble_eq_true rfl⟩) hS (fun v9 _ H locs wl hv9 hRc hRr hRo hP hD hS => ?_)
    refine n_top (y := .int (nI (bN (inR y 0 10)))) (congrArg Value.int hv9) ?_
    clear hv9 v9
    refine n_ifb_eq (tgt := 27) hx hb dX3_setFaults_20 (by decide) (fun c_20 => ?_) (fun c_20 => ?_)
    · refine lv_iconst (v := nI 2) hx hb dX3_setFaults_27 (by decide) ?_
      refine y_calli (va_runV (As := [.int (nI 2)]) (rest := []) ⟨hx, hb, hml, hown, hts⟩ (k_X3_goes l D G h0 c r o 2 (by decide)) (cwV 1 hts gX3_setFaults_X3_goes rfl rfl rfl (by decide +kernel) ⟨Nat.le_of_ble_eq_true rfl, Nat.le_of_ble_eq_true rfl⟩) ⟨fun a U g mk q => ⟨q.1, Pr_cg q.2⟩, va_recv (ci := 4) (q0 := 3) hK hP rfl (Q_m hRr), fun U hU hW => ⟨rfl, Pr_mk hE hRc hRr hRo hP hD hS hU hW⟩⟩ rfl rfl hl.1 rfl (lv_room (Nat.le_of_ble_eq_true rfl)) dX3_setFaults_28 ⟨Nat.le_of_ble_eq_true rfl, Nat.le_of_ble_eq_true rfl⟩) hS (fun v9 _ H locs wl hv9 hRc hRr hRo hP hD hS => ?_)
      refine n_top (y := .int (nI 0)) (congrArg Value.int (hv9.trans (congrArg nI (bN_f (by decide))))) ?_
      clear hv9 v9
      refine n_if_ne (tgt := 36) hx hb dX3_setFaults_31 (by decide) (by decide) (fun c_31 => absurd c_31 (by decide)) (fun c_31 => ?_)
      refine lv_iconst (v := nI 0) hx hb dX3_setFaults_34 (by decide) ?_
      have hrel : (fun (v9 : Int32) (u9 : Nat → Nat → Nat) => (¬ okR r x ∧ u9 = up2 r 30 22 1) ∨ (okR r x ∧ ¬ inR y 0 10 ∧ u9 = up2 r 30 22 2) ∨ (∃ a t, a < r 30 0 ∧ x = nI a ∧ (0 ≤ t ∧ t ≤ 10) ∧ y = nI t ∧ v9 = nI (r 4 a) ∧ u9 = up2 (up2 r 30 22 0) 4 a t)) (nI 0) (up2 r 30 22 2) := by exact Or.inr (Or.inl ⟨⟨j_x, hj_x, hx_x⟩, c_20, rfl⟩)
      exact W.iret (v := nI 0) hx hb hr (fun t ht hW => ⟨⟨_, (up2 r 30 22 2), rfl, hrel, Wr_mk hRc hRr hRo hP hD ht⟩, hS.F ht⟩) hS.2.2 dX3_setFaults_35
    · obtain ⟨t_y, ht_y, hx_y⟩ := inR_nI c_20 (by decide) (by decide)
      refine lv_iconst (v := nI 0) hx hb dX3_setFaults_23 (by decide) ?_
      refine lv_goto (tgt := 28) hx hb dX3_setFaults_24 (by decide) ?_
      refine y_calli (va_runV (As := [.int (nI 0)]) (rest := []) ⟨hx, hb, hml, hown, hts⟩ (k_X3_goes l D G h0 c r o 0 (by decide)) (cwV 1 hts gX3_setFaults_X3_goes rfl rfl rfl (by decide +kernel) ⟨Nat.le_of_ble_eq_true rfl, Nat.le_of_ble_eq_true rfl⟩) ⟨fun a U g mk q => ⟨q.1, Pr_cg q.2⟩, va_recv (ci := 4) (q0 := 3) hK hP rfl (Q_m hRr), fun U hU hW => ⟨rfl, Pr_mk hE hRc hRr hRo hP hD hS hU hW⟩⟩ rfl rfl hl.1 rfl (lv_room (Nat.le_of_ble_eq_true rfl)) dX3_setFaults_28 ⟨Nat.le_of_ble_eq_true rfl, Nat.le_of_ble_eq_true rfl⟩) hS (fun v9 _ H locs wl hv9 hRc hRr hRo hP hD hS => ?_)
      refine n_top (y := .int (nI 1)) (congrArg Value.int (hv9.trans (congrArg nI (bN_t rfl)))) ?_
      clear hv9 v9
      refine n_if_ne (tgt := 36) hx hb dX3_setFaults_31 (by decide) (by decide) (fun c_31 => ?_) (fun c_31 => absurd c_31 (by decide))
      refine lv_aload_n hx hb dX3_setFaults_36 rfl (lv_at hl 0 rfl) ?_
      refine va_get (D := D) (ci := 4) (v := .ref (G 8)) (C := RX3) (T := TX3) (N := 23) hx hb hts inX3 hown hK hP 3 (Q_m hRr) rfl 4 (by decide) (hts (.fieldLink RX3 19 "BootStageModel" "faults" "[I") (by decide +kernel)) (fun _ h9 => h9) rfl dX3_setFaults_37 ?_
      refine lv_iload_n hx hb dX3_setFaults_40 rfl (lv_at hl 1 rfl) ?_
      refine n_top (y := .int (nI j_x)) (congrArg Value.int hx_x) ?_
      refine x_iald hx hb hK hP 8 (Q_a4 hRr) (by first | omega | decide | assumption) (by decide) dX3_setFaults_41 (v := nI (r 4 j_x)) (congrArg nI (show (up2 r 30 22 0) 4 j_x = r 4 j_x from by simp [up2])) ?_
      refine lv_istore_n (lv' := [(3, .int (nI (r 4 j_x))), (0, .ref (G 3)), (1, .int x), (2, .int y)]) hx hb dX3_setFaults_42 rfl hl (by decide) rfl (fun ls hl => ?_)
      refine lv_aload_n hx hb dX3_setFaults_43 rfl (lv_at hl 1 rfl) ?_
      refine va_get (D := D) (ci := 4) (v := .ref (G 8)) (C := RX3) (T := TX3) (N := 23) hx hb hts inX3 hown hK hP 3 (Q_m hRr) rfl 4 (by decide) (hts (.fieldLink RX3 19 "BootStageModel" "faults" "[I") (by decide +kernel)) (fun _ h9 => h9) rfl dX3_setFaults_44 ?_
      refine lv_iload_n hx hb dX3_setFaults_47 rfl (lv_at hl 2 rfl) ?_
      refine n_top (y := .int (nI j_x)) (congrArg Value.int hx_x) ?_
      refine lv_iload_n hx hb dX3_setFaults_48 rfl (lv_at hl 3 rfl) ?_
      refine n_top (y := .int (nI t_y)) (congrArg Value.int hx_y) ?_
      refine x_iast (Z := fun wl => Rc G c wl ∧ Rr G (up2 (up2 r 30 22 0) 4 j_x t_y) wl ∧ Ro G o wl) hx hb hK hP hD hS 8 (Q_a4 hRr) (by first | omega | decide | assumption) (by decide) dX3_setFaults_49 ⟨Rc_fr hRc (by decide) (by decide), P_a4 t_y (by first | omega | decide | assumption) hRr, Ro_fr hRo (by decide)⟩ (fun H locs wl hZ hP hD hS => ?_)
      obtain ⟨hRc, hRr, hRo⟩ := hZ
      refine lv_iload_n hx hb dX3_setFaults_50 rfl (lv_at hl 0 rfl) ?_
      have hrel : (fun (v9 : Int32) (u9 : Nat → Nat → Nat) => (¬ okR r x ∧ u9 = up2 r 30 22 1) ∨ (okR r x ∧ ¬ inR y 0 10 ∧ u9 = up2 r 30 22 2) ∨ (∃ a t, a < r 30 0 ∧ x = nI a ∧ (0 ≤ t ∧ t ≤ 10) ∧ y = nI t ∧ v9 = nI (r 4 a) ∧ u9 = up2 (up2 r 30 22 0) 4 a t)) (nI (r 4 j_x)) (up2 (up2 r 30 22 0) 4 j_x t_y) := by exact Or.inr (Or.inr ⟨j_x, t_y, hj_x, hx_x, ht_y, hx_y, rfl, rfl⟩)
      exact W.iret (v := nI (r 4 j_x)) hx hb hr (fun t ht hW => ⟨⟨_, (up2 (up2 r 30 22 0) 4 j_x t_y), rfl, hrel, Wr_mk hRc hRr hRo hP hD ht⟩, hS.F ht⟩) hS.2.2 dX3_setFaults_51
  · refine lv_iconst (v := nI 1) hx hb dX3_setFaults_9 (by decide) ?_
    refine lv_goto (tgt := 28) hx hb dX3_setFaults_10 (by decide) ?_
    refine y_calli (va_runV (As := [.int (nI 1)]) (rest := []) ⟨hx, hb, hml, hown, hts⟩ (k_X3_goes l D G h0 c r o 1 (by decide)) (cwV 1 hts gX3_setFaults_X3_goes rfl rfl rfl (by decide +kernel) ⟨Nat.le_of_ble_eq_true rfl, Nat.le_of_ble_eq_true rfl⟩) ⟨fun a U g mk q => ⟨q.1, Pr_cg q.2⟩, va_recv (ci := 4) (q0 := 3) hK hP rfl (Q_m hRr), fun U hU hW => ⟨rfl, Pr_mk hE hRc hRr hRo hP hD hS hU hW⟩⟩ rfl rfl hl.1 rfl (lv_room (Nat.le_of_ble_eq_true rfl)) dX3_setFaults_28 ⟨Nat.le_of_ble_eq_true rfl, Nat.le_of_ble_eq_true rfl⟩) hS (fun v9 _ H locs wl hv9 hRc hRr hRo hP hD hS => ?_)
    refine n_top (y := .int (nI 0)) (congrArg Value.int (hv9.trans (congrArg nI (bN_f (by decide))))) ?_
    clear hv9 v9
    refine n_if_ne (tgt := 36) hx hb dX3_setFaults_31 (by decide) (by decide) (fun c_31 => absurd c_31 (by decide)) (fun c_31 => ?_)
    refine lv_iconst (v := nI 0) hx hb dX3_setFaults_34 (by decide) ?_
    have hrel : (fun (v9 : Int32) (u9 : Nat → Nat → Nat) => (¬ okR r x ∧ u9 = up2 r 30 22 1) ∨ (okR r x ∧ ¬ inR y 0 10 ∧ u9 = up2 r 30 22 2) ∨ (∃ a t, a < r 30 0 ∧ x = nI a ∧ (0 ≤ t ∧ t ≤ 10) ∧ y = nI t ∧ v9 = nI (r 4 a) ∧ u9 = up2 (up2 r 30 22 0) 4 a t)) (nI 0) (up2 r 30 22 1) := by exact Or.inl ⟨c_6, rfl⟩
    exact W.iret (v := nI 0) hx hb hr (fun t ht hW => ⟨⟨_, (up2 r 30 22 1), rfl, hrel, Wr_mk hRc hRr hRo hP hD ht⟩, hS.F ht⟩) hS.2.2 dX3_setFaults_35
set_option maxHeartbeats 4000000 in
set_option maxRecDepth 100000 in
theorem k_X3_setTime (l : Launch) (D : va_G) (G : Nat → Nat) (h0 : Nat) (c r : Nat → Nat → Nat) (o : Nat) (x y : Int32) (hI : IR r) : Met l yX3_setTime wsX3_setTime ({ frames := 2, cells := 0, slots := 0, locals := 43 } : Room) (va_Pc [.ref (G 3), .int x, .int y] (fun U => Pr D G h0 c r o U)) (va_Qi (fun (v9 : Int32) (u9 : Nat → Nat → Nat) => (¬ okR r x ∧ u9 = up2 r 30 22 1) ∨ (okR r x ∧ ¬ inR y 1 100 ∧ u9 = up2 r 30 22 2) ∨ (∃ a t, a < r 30 0 ∧ x = nI a ∧ (1 ≤ t ∧ t ≤ 100) ∧ y = nI t ∧ v9 = nI (r 1 a) ∧ u9 = up2 (up2 r 30 22 0) 1 a t)) (fun (u9 : Nat → Nat → Nat) t => Wr D G h0 c u9 o t) (fun q => h0 ≤ q)) 0 0 (fun q => h0 ≤ q) := by
  refine Met.ofW (cc := cX3_setTime) (maxL := 4) (ret := (some .int)) (by decide) rfl ?_
  intro p e s m args below meth cd s₁ B hml hv
  obtain ⟨rfl, hE, wl, hRc, hRr, hRo, hP, hD⟩ := hv
  have hx := B.exec
  have hb := B.bytes
  have hr := B.returns
  have hts := atoms_spec (ws := wsX3_setTime) B.pre
  have hown : s.vm.findClass RX3 = some m.cls := findClass_of_methodNamed B.named
  have hlocks := B.notSynchronized
  have hK := hE.2.1
  have hS : va_S (fun q => h0 ≤ q) s.heap s.heap [] := va_S.rf
  have hl := lv_entry ([.ref (G 3), .int x, .int y]) (n := 4) (Nat.le_of_ble_eq_true rfl)
  rw [lg_entry_eq]
  generalize (lg_sl ([.ref (G 3), .int x, .int y]) ++ List.replicate (4 - (lg_sl ([.ref (G 3), .int x, .int y])).length) Slot.unset).toArray = ls at hl ⊢
  have hl : lv_has ls 4 [(0, .ref (G 3)), (1, .int x), (2, .int y)] := hl
  have inX3 : ∀ w ∈ wsX30, w ∈ wsX3_setTime := by decide +kernel
  have hBr := IR_B hI
  have hn := IR_n hI
  have hs := IR_s hI
  refine lv_aload_n hx hb dX3_setTime_0 rfl (lv_at hl 0 rfl) ?_
  refine lv_aload_n hx hb dX3_setTime_1 rfl (lv_at hl 0 rfl) ?_
  refine lv_iload_n hx hb dX3_setTime_2 rfl (lv_at hl 1 rfl) ?_
  refine y_calli (va_runV (As := [.int x]) (rest := [.ref (G 3)]) ⟨hx, hb, hml, hown, hts⟩ (k_X3_isUnit l D G h0 c r o x (by first | exact hn | assumption)) (cwV 1 hts gX3_setTime_X3_isUnit rfl rfl rfl (by decide +kernel) ⟨Nat.le_of_ble_eq_true rfl, Nat.le_of_ble_eq_true rfl⟩) ⟨fun a U g mk q => ⟨q.1, Pr_cg q.2⟩, va_recv (ci := 4) (q0 := 3) hK hP rfl (Q_m hRr), fun U hU hW => ⟨rfl, Pr_mk hE hRc hRr hRo hP hD hS hU hW⟩⟩ rfl rfl hl.1 rfl (lv_room (Nat.le_of_ble_eq_true rfl)) dX3_setTime_3 ⟨Nat.le_of_ble_eq_true rfl, Nat.le_of_ble_eq_true rfl⟩) hS (fun v9 _ H locs wl hv9 hRc hRr hRo hP hD hS => ?_)
  refine n_top (y := .int (nI (bN (okR r x)))) (congrArg Value.int hv9) ?_
  clear hv9 v9
  refine n_ifb_ne (tgt := 13) hx hb dX3_setTime_6 (by decide) (fun c_6 => ?_) (fun c_6 => ?_)
  · obtain ⟨j_x, hj_x, hx_x⟩ := c_6
    refine lv_iload_n hx hb dX3_setTime_13 rfl (lv_at hl 2 rfl) ?_
    refine lv_iconst (v := nI 1) hx hb dX3_setTime_14 (by decide) ?_
    refine lv_bipush (v := nI 100) hx hb dX3_setTime_15 (by decide) ?_
    refine y_calli (va_runS (As := [.int y, .int (nI 1), .int (nI 100)]) (rest := [.ref (G 3)]) ⟨hx, hb, hml, hown, hts⟩ (k_X3_isIn l D G h0 c r o y (nI 1) (nI 100)) (va_cwS 3 hts gX3_setTime_X3_isIn rfl rfl rfl (by decide +kernel) ⟨Nat.le_of_ble_eq_true rfl, Nat.le_of_ble_eq_true rfl⟩) ⟨fun a U g mk q => ⟨q.1, Pr_cg q.2⟩, fun U hU hW => ⟨rfl, Pr_mk hE hRc hRr hRo hP hD hS hU hW⟩⟩ rfl rfl hl.1 rfl (lv_room (Nat.le_of_ble_eq_true rfl)) dX3_setTime_17 ⟨Nat.le_of_ble_eq_true rfl, Nat.le_of_ble_eq_true rfl⟩) hS (fun v9 _ H locs wl hv9 hRc hRr hRo hP hD hS => ?_)
    refine n_top (y := .int (nI (bN (inR y 1 100)))) (congrArg Value.int hv9) ?_
    clear hv9 v9
    refine n_ifb_eq (tgt := 27) hx hb dX3_setTime_20 (by decide) (fun c_20 => ?_) (fun c_20 => ?_)
    · refine lv_iconst (v := nI 2) hx hb dX3_setTime_27 (by decide) ?_
      refine y_calli (va_runV (As := [.int (nI 2)]) (rest := []) ⟨hx, hb, hml, hown, hts⟩ (k_X3_goes l D G h0 c r o 2 (by decide)) (cwV 1 hts gX3_setTime_X3_goes rfl rfl rfl (by decide +kernel) ⟨Nat.le_of_ble_eq_true rfl, Nat.le_of_ble_eq_true rfl⟩) ⟨fun a U g mk q => ⟨q.1, Pr_cg q.2⟩, va_recv (ci := 4) (q0 := 3) hK hP rfl (Q_m hRr), fun U hU hW => ⟨rfl, Pr_mk hE hRc hRr hRo hP hD hS hU hW⟩⟩ rfl rfl hl.1 rfl (lv_room (Nat.le_of_ble_eq_true rfl)) dX3_setTime_28 ⟨Nat.le_of_ble_eq_true rfl, Nat.le_of_ble_eq_true rfl⟩) hS (fun v9 _ H locs wl hv9 hRc hRr hRo hP hD hS => ?_)
      refine n_top (y := .int (nI 0)) (congrArg Value.int (hv9.trans (congrArg nI (bN_f (by decide))))) ?_
      clear hv9 v9
      refine n_if_ne (tgt := 36) hx hb dX3_setTime_31 (by decide) (by decide) (fun c_31 => absurd c_31 (by decide)) (fun c_31 => ?_)
      refine lv_iconst (v := nI 0) hx hb dX3_setTime_34 (by decide) ?_
      have hrel : (fun (v9 : Int32) (u9 : Nat → Nat → Nat) => (¬ okR r x ∧ u9 = up2 r 30 22 1) ∨ (okR r x ∧ ¬ inR y 1 100 ∧ u9 = up2 r 30 22 2) ∨ (∃ a t, a < r 30 0 ∧ x = nI a ∧ (1 ≤ t ∧ t ≤ 100) ∧ y = nI t ∧ v9 = nI (r 1 a) ∧ u9 = up2 (up2 r 30 22 0) 1 a t)) (nI 0) (up2 r 30 22 2) := by exact Or.inr (Or.inl ⟨⟨j_x, hj_x, hx_x⟩, c_20, rfl⟩)
      exact W.iret (v := nI 0) hx hb hr (fun t ht hW => ⟨⟨_, (up2 r 30 22 2), rfl, hrel, Wr_mk hRc hRr hRo hP hD ht⟩, hS.F ht⟩) hS.2.2 dX3_setTime_35
    · obtain ⟨t_y, ht_y, hx_y⟩ := inR_nI c_20 (by decide) (by decide)
      refine lv_iconst (v := nI 0) hx hb dX3_setTime_23 (by decide) ?_
      refine lv_goto (tgt := 28) hx hb dX3_setTime_24 (by decide) ?_
      refine y_calli (va_runV (As := [.int (nI 0)]) (rest := []) ⟨hx, hb, hml, hown, hts⟩ (k_X3_goes l D G h0 c r o 0 (by decide)) (cwV 1 hts gX3_setTime_X3_goes rfl rfl rfl (by decide +kernel) ⟨Nat.le_of_ble_eq_true rfl, Nat.le_of_ble_eq_true rfl⟩) ⟨fun a U g mk q => ⟨q.1, Pr_cg q.2⟩, va_recv (ci := 4) (q0 := 3) hK hP rfl (Q_m hRr), fun U hU hW => ⟨rfl, Pr_mk hE hRc hRr hRo hP hD hS hU hW⟩⟩ rfl rfl hl.1 rfl (lv_room (Nat.le_of_ble_eq_true rfl)) dX3_setTime_28 ⟨Nat.le_of_ble_eq_true rfl, Nat.le_of_ble_eq_true rfl⟩) hS (fun v9 _ H locs wl hv9 hRc hRr hRo hP hD hS => ?_)
      refine n_top (y := .int (nI 1)) (congrArg Value.int (hv9.trans (congrArg nI (bN_t rfl)))) ?_
      clear hv9 v9
      refine n_if_ne (tgt := 36) hx hb dX3_setTime_31 (by decide) (by decide) (fun c_31 => ?_) (fun c_31 => absurd c_31 (by decide))
      refine lv_aload_n hx hb dX3_setTime_36 rfl (lv_at hl 0 rfl) ?_
      refine va_get (D := D) (ci := 4) (v := .ref (G 5)) (C := RX3) (T := TX3) (N := 23) hx hb hts inX3 hown hK hP 3 (Q_m hRr) rfl 1 (by decide) (hts (.fieldLink RX3 7 "BootStageModel" "times" "[I") (by decide +kernel)) (fun _ h9 => h9) rfl dX3_setTime_37 ?_
      refine lv_iload_n hx hb dX3_setTime_40 rfl (lv_at hl 1 rfl) ?_
      refine n_top (y := .int (nI j_x)) (congrArg Value.int hx_x) ?_
      refine x_iald hx hb hK hP 5 (Q_a1 hRr) (by first | omega | decide | assumption) (by decide) dX3_setTime_41 (v := nI (r 1 j_x)) (congrArg nI (show (up2 r 30 22 0) 1 j_x = r 1 j_x from by simp [up2])) ?_
      refine lv_istore_n (lv' := [(3, .int (nI (r 1 j_x))), (0, .ref (G 3)), (1, .int x), (2, .int y)]) hx hb dX3_setTime_42 rfl hl (by decide) rfl (fun ls hl => ?_)
      refine lv_aload_n hx hb dX3_setTime_43 rfl (lv_at hl 1 rfl) ?_
      refine va_get (D := D) (ci := 4) (v := .ref (G 5)) (C := RX3) (T := TX3) (N := 23) hx hb hts inX3 hown hK hP 3 (Q_m hRr) rfl 1 (by decide) (hts (.fieldLink RX3 7 "BootStageModel" "times" "[I") (by decide +kernel)) (fun _ h9 => h9) rfl dX3_setTime_44 ?_
      refine lv_iload_n hx hb dX3_setTime_47 rfl (lv_at hl 2 rfl) ?_
      refine n_top (y := .int (nI j_x)) (congrArg Value.int hx_x) ?_
      refine lv_iload_n hx hb dX3_setTime_48 rfl (lv_at hl 3 rfl) ?_
      refine n_top (y := .int (nI t_y)) (congrArg Value.int hx_y) ?_
      refine x_iast (Z := fun wl => Rc G c wl ∧ Rr G (up2 (up2 r 30 22 0) 1 j_x t_y) wl ∧ Ro G o wl) hx hb hK hP hD hS 5 (Q_a1 hRr) (by first | omega | decide | assumption) (by decide) dX3_setTime_49 ⟨Rc_fr hRc (by decide) (by decide), P_a1 t_y (by first | omega | decide | assumption) hRr, Ro_fr hRo (by decide)⟩ (fun H locs wl hZ hP hD hS => ?_)
      obtain ⟨hRc, hRr, hRo⟩ := hZ
      refine lv_iload_n hx hb dX3_setTime_50 rfl (lv_at hl 0 rfl) ?_
      have hrel : (fun (v9 : Int32) (u9 : Nat → Nat → Nat) => (¬ okR r x ∧ u9 = up2 r 30 22 1) ∨ (okR r x ∧ ¬ inR y 1 100 ∧ u9 = up2 r 30 22 2) ∨ (∃ a t, a < r 30 0 ∧ x = nI a ∧ (1 ≤ t ∧ t ≤ 100) ∧ y = nI t ∧ v9 = nI (r 1 a) ∧ u9 = up2 (up2 r 30 22 0) 1 a t)) (nI (r 1 j_x)) (up2 (up2 r 30 22 0) 1 j_x t_y) := by exact Or.inr (Or.inr ⟨j_x, t_y, hj_x, hx_x, ht_y, hx_y, rfl, rfl⟩)
      exact W.iret (v := nI (r 1 j_x)) hx hb hr (fun t ht hW => ⟨⟨_, (up2 (up2 r 30 22 0) 1 j_x t_y), rfl, hrel, Wr_mk hRc hRr hRo hP hD ht⟩, hS.F ht⟩) hS.2.2 dX3_setTime_51
  · refine lv_iconst (v := nI 1) hx hb dX3_setTime_9 (by decide) ?_
    refine lv_goto (tgt := 28) hx hb dX3_setTime_10 (by decide) ?_
    refine y_calli (va_runV (As := [.int (nI 1)]) (rest := []) ⟨hx, hb, hml, hown, hts⟩ (k_X3_goes l D G h0 c r o 1 (by decide)) (cwV 1 hts gX3_setTime_X3_goes rfl rfl rfl (by decide +kernel) ⟨Nat.le_of_ble_eq_true rfl, Nat.le_of_ble_eq_true rfl⟩) ⟨fun a U g mk q => ⟨q.1, Pr_cg q.2⟩, va_recv (ci := 4) (q0 := 3) hK hP rfl (Q_m hRr), fun U hU hW => ⟨rfl, Pr_mk hE hRc hRr hRo hP hD hS hU hW⟩⟩ rfl rfl hl.1 rfl (lv_room (Nat.le_of_ble_eq_true rfl)) dX3_setTime_28 ⟨Nat.le_of_ble_eq_true rfl, Nat.le_of_ble_eq_true rfl⟩) hS (fun v9 _ H locs wl hv9 hRc hRr hRo hP hD hS => ?_)
    refine n_top (y := .int (nI 0)) (congrArg Value.int (hv9.trans (congrArg nI (bN_f (by decide))))) ?_
    clear hv9 v9
    refine n_if_ne (tgt := 36) hx hb dX3_setTime_31 (by decide) (by decide) (fun c_31 => absurd c_31 (by decide)) (fun c_31 => ?_)
    refine lv_iconst (v := nI 0) hx hb dX3_setTime_34 (by decide) ?_
    have hrel : (fun (v9 : Int32) (u9 : Nat → Nat → Nat) => (¬ okR r x ∧ u9 = up2 r 30 22 1) ∨ (okR r x ∧ ¬ inR y 1 100 ∧ u9 = up2 r 30 22 2) ∨ (∃ a t, a < r 30 0 ∧ x = nI a ∧ (1 ≤ t ∧ t ≤ 100) ∧ y = nI t ∧ v9 = nI (r 1 a) ∧ u9 = up2 (up2 r 30 22 0) 1 a t)) (nI 0) (up2 r 30 22 1) := by exact Or.inl ⟨c_6, rfl⟩
    exact W.iret (v := nI 0) hx hb hr (fun t ht hW => ⟨⟨_, (up2 r 30 22 1), rfl, hrel, Wr_mk hRc hRr hRo hP hD ht⟩, hS.F ht⟩) hS.2.2 dX3_setTime_35
set_option maxHeartbeats 4000000 in
set_option maxRecDepth 100000 in
theorem k_X3_learned (l : Launch) (D : va_G) (G : Nat → Nat) (h0 : Nat) (c r : Nat → Nat → Nat) (o : Nat) (x : Int32) (hI : IR r) : Met l yX3_learned wsX3_learned ({ frames := 3, cells := 0, slots := 0, locals := 64 } : Room) (va_Pc [.ref (G 3), .int x] (fun U => Pr D G h0 c r o U)) (va_Qi (fun (v9 : Int32) (u9 : Nat → Nat → Nat) => (¬ okR r x ∧ u9 = up2 r 30 22 1) ∨ (∃ a, a < r 30 0 ∧ x = nI a ∧ v9 = nI (r 2 a) ∧ u9 = up2 r 30 22 0)) (fun (u9 : Nat → Nat → Nat) t => Wr D G h0 c u9 o t) (fun q => h0 ≤ q)) 0 0 (fun q => h0 ≤ q) := by
  refine Met.ofW (cc := cX3_learned) (maxL := 2) (ret := (some .int)) (by decide) rfl ?_
  intro p e s m args below meth cd s₁ B hml hv
  obtain ⟨rfl, hE, wl, hRc, hRr, hRo, hP, hD⟩ := hv
  have hx := B.exec
  have hb := B.bytes
  have hr := B.returns
  have hts := atoms_spec (ws := wsX3_learned) B.pre
  have hown : s.vm.findClass RX3 = some m.cls := findClass_of_methodNamed B.named
  have hlocks := B.notSynchronized
  have hK := hE.2.1
  have hS : va_S (fun q => h0 ≤ q) s.heap s.heap [] := va_S.rf
  have hl := lv_entry ([.ref (G 3), .int x]) (n := 2) (Nat.le_of_ble_eq_true rfl)
  rw [lg_entry_eq]
  generalize (lg_sl ([.ref (G 3), .int x]) ++ List.replicate (2 - (lg_sl ([.ref (G 3), .int x])).length) Slot.unset).toArray = ls at hl ⊢
  have hl : lv_has ls 2 [(0, .ref (G 3)), (1, .int x)] := hl
  have inX3 : ∀ w ∈ wsX30, w ∈ wsX3_learned := by decide +kernel
  have hBr := IR_B hI
  have hn := IR_n hI
  have hs := IR_s hI
  refine lv_aload_n hx hb dX3_learned_0 rfl (lv_at hl 0 rfl) ?_
  refine lv_iload_n hx hb dX3_learned_1 rfl (lv_at hl 1 rfl) ?_
  refine y_calli (va_runV (As := [.int x]) (rest := []) ⟨hx, hb, hml, hown, hts⟩ (k_X3_asks l D G h0 c r o x hn) (cwV 1 hts gX3_learned_X3_asks rfl rfl rfl (by decide +kernel) ⟨Nat.le_of_ble_eq_true rfl, Nat.le_of_ble_eq_true rfl⟩) ⟨fun a U g mk q => ⟨q.1, Pr_cg q.2⟩, va_recv (ci := 4) (q0 := 3) hK hP rfl (Q_m hRr), fun U hU hW => ⟨rfl, Pr_mk hE hRc hRr hRo hP hD hS hU hW⟩⟩ rfl rfl hl.1 rfl (lv_room (Nat.le_of_ble_eq_true rfl)) dX3_learned_2 ⟨Nat.le_of_ble_eq_true rfl, Nat.le_of_ble_eq_true rfl⟩) hS (fun v9 _ H locs wl hv9 hRc hRr hRo hP hD hS => ?_)
  refine n_top (y := .int (nI (bN (okR r x)))) (congrArg Value.int hv9) ?_
  clear hv9 v9
  refine n_ifb_eq (tgt := 17) hx hb dX3_learned_5 (by decide) (fun c_5 => ?_) (fun c_5 => ?_)
  · refine lv_iconst (v := nI 0) hx hb dX3_learned_17 (by decide) ?_
    have hrel : (fun (v9 : Int32) (u9 : Nat → Nat → Nat) => (¬ okR r x ∧ u9 = up2 r 30 22 1) ∨ (∃ a, a < r 30 0 ∧ x = nI a ∧ v9 = nI (r 2 a) ∧ u9 = up2 r 30 22 0)) (nI 0) (up2 r 30 22 (1 - bN (okR r x))) := by exact Or.inl ⟨c_5, by rw [bN_f c_5]⟩
    exact W.iret (v := nI 0) hx hb hr (fun t ht hW => ⟨⟨_, (up2 r 30 22 (1 - bN (okR r x))), rfl, hrel, Wr_mk hRc hRr hRo hP hD ht⟩, hS.F ht⟩) hS.2.2 dX3_learned_18
  · obtain ⟨j_x, hj_x, hx_x⟩ := c_5
    refine lv_aload_n hx hb dX3_learned_8 rfl (lv_at hl 0 rfl) ?_
    refine va_get (D := D) (ci := 4) (v := .ref (G 6)) (C := RX3) (T := TX3) (N := 23) hx hb hts inX3 hown hK hP 3 (Q_m hRr) rfl 2 (by decide) (hts (.fieldLink RX3 13 "BootStageModel" "learned" "[I") (by decide +kernel)) (fun _ h9 => h9) rfl dX3_learned_9 ?_
    refine lv_iload_n hx hb dX3_learned_12 rfl (lv_at hl 1 rfl) ?_
    refine n_top (y := .int (nI j_x)) (congrArg Value.int hx_x) ?_
    refine x_iald hx hb hK hP 6 (Q_a2 hRr) (by first | omega | decide | assumption) (by decide) dX3_learned_13 (v := nI (r 2 j_x)) (congrArg nI (show (up2 r 30 22 (1 - bN (okR r x))) 2 j_x = r 2 j_x from by simp [up2])) ?_
    refine lv_goto (tgt := 18) hx hb dX3_learned_14 (by decide) ?_
    have hrel : (fun (v9 : Int32) (u9 : Nat → Nat → Nat) => (¬ okR r x ∧ u9 = up2 r 30 22 1) ∨ (∃ a, a < r 30 0 ∧ x = nI a ∧ v9 = nI (r 2 a) ∧ u9 = up2 r 30 22 0)) (nI (r 2 j_x)) (up2 r 30 22 (1 - bN (okR r x))) := by exact Or.inr ⟨j_x, hj_x, hx_x, rfl, by rw [bN_t (show okR r x from ⟨_, hj_x, hx_x⟩)]⟩
    exact W.iret (v := nI (r 2 j_x)) hx hb hr (fun t ht hW => ⟨⟨_, (up2 r 30 22 (1 - bN (okR r x))), rfl, hrel, Wr_mk hRc hRr hRo hP hD ht⟩, hS.F ht⟩) hS.2.2 dX3_learned_18
set_option maxHeartbeats 4000000 in
set_option maxRecDepth 100000 in
theorem k_X3_faults (l : Launch) (D : va_G) (G : Nat → Nat) (h0 : Nat) (c r : Nat → Nat → Nat) (o : Nat) (x : Int32) (hI : IR r) : Met l yX3_faults wsX3_faults ({ frames := 3, cells := 0, slots := 0, locals := 64 } : Room) (va_Pc [.ref (G 3), .int x] (fun U => Pr D G h0 c r o U)) (va_Qi (fun (v9 : Int32) (u9 : Nat → Nat → Nat) => (¬ okR r x ∧ u9 = up2 r 30 22 1) ∨ (∃ a, a < r 30 0 ∧ x = nI a ∧ v9 = nI (r 4 a) ∧ u9 = up2 r 30 22 0)) (fun (u9 : Nat → Nat → Nat) t => Wr D G h0 c u9 o t) (fun q => h0 ≤ q)) 0 0 (fun q => h0 ≤ q) := by
  refine Met.ofW (cc := cX3_faults) (maxL := 2) (ret := (some .int)) (by decide) rfl ?_
  intro p e s m args below meth cd s₁ B hml hv
  obtain ⟨rfl, hE, wl, hRc, hRr, hRo, hP, hD⟩ := hv
  have hx := B.exec
  have hb := B.bytes
  have hr := B.returns
  have hts := atoms_spec (ws := wsX3_faults) B.pre
  have hown : s.vm.findClass RX3 = some m.cls := findClass_of_methodNamed B.named
  have hlocks := B.notSynchronized
  have hK := hE.2.1
  have hS : va_S (fun q => h0 ≤ q) s.heap s.heap [] := va_S.rf
  have hl := lv_entry ([.ref (G 3), .int x]) (n := 2) (Nat.le_of_ble_eq_true rfl)
  rw [lg_entry_eq]
  generalize (lg_sl ([.ref (G 3), .int x]) ++ List.replicate (2 - (lg_sl ([.ref (G 3), .int x])).length) Slot.unset).toArray = ls at hl ⊢
  have hl : lv_has ls 2 [(0, .ref (G 3)), (1, .int x)] := hl
  have inX3 : ∀ w ∈ wsX30, w ∈ wsX3_faults := by decide +kernel
  have hBr := IR_B hI
  have hn := IR_n hI
  have hs := IR_s hI
  refine lv_aload_n hx hb dX3_faults_0 rfl (lv_at hl 0 rfl) ?_
  refine lv_iload_n hx hb dX3_faults_1 rfl (lv_at hl 1 rfl) ?_
  refine y_calli (va_runV (As := [.int x]) (rest := []) ⟨hx, hb, hml, hown, hts⟩ (k_X3_asks l D G h0 c r o x hn) (cwV 1 hts gX3_faults_X3_asks rfl rfl rfl (by decide +kernel) ⟨Nat.le_of_ble_eq_true rfl, Nat.le_of_ble_eq_true rfl⟩) ⟨fun a U g mk q => ⟨q.1, Pr_cg q.2⟩, va_recv (ci := 4) (q0 := 3) hK hP rfl (Q_m hRr), fun U hU hW => ⟨rfl, Pr_mk hE hRc hRr hRo hP hD hS hU hW⟩⟩ rfl rfl hl.1 rfl (lv_room (Nat.le_of_ble_eq_true rfl)) dX3_faults_2 ⟨Nat.le_of_ble_eq_true rfl, Nat.le_of_ble_eq_true rfl⟩) hS (fun v9 _ H locs wl hv9 hRc hRr hRo hP hD hS => ?_)
  refine n_top (y := .int (nI (bN (okR r x)))) (congrArg Value.int hv9) ?_
  clear hv9 v9
  refine n_ifb_eq (tgt := 17) hx hb dX3_faults_5 (by decide) (fun c_5 => ?_) (fun c_5 => ?_)
  · refine lv_iconst (v := nI 0) hx hb dX3_faults_17 (by decide) ?_
    have hrel : (fun (v9 : Int32) (u9 : Nat → Nat → Nat) => (¬ okR r x ∧ u9 = up2 r 30 22 1) ∨ (∃ a, a < r 30 0 ∧ x = nI a ∧ v9 = nI (r 4 a) ∧ u9 = up2 r 30 22 0)) (nI 0) (up2 r 30 22 (1 - bN (okR r x))) := by exact Or.inl ⟨c_5, by rw [bN_f c_5]⟩
    exact W.iret (v := nI 0) hx hb hr (fun t ht hW => ⟨⟨_, (up2 r 30 22 (1 - bN (okR r x))), rfl, hrel, Wr_mk hRc hRr hRo hP hD ht⟩, hS.F ht⟩) hS.2.2 dX3_faults_18
  · obtain ⟨j_x, hj_x, hx_x⟩ := c_5
    refine lv_aload_n hx hb dX3_faults_8 rfl (lv_at hl 0 rfl) ?_
    refine va_get (D := D) (ci := 4) (v := .ref (G 8)) (C := RX3) (T := TX3) (N := 23) hx hb hts inX3 hown hK hP 3 (Q_m hRr) rfl 4 (by decide) (hts (.fieldLink RX3 19 "BootStageModel" "faults" "[I") (by decide +kernel)) (fun _ h9 => h9) rfl dX3_faults_9 ?_
    refine lv_iload_n hx hb dX3_faults_12 rfl (lv_at hl 1 rfl) ?_
    refine n_top (y := .int (nI j_x)) (congrArg Value.int hx_x) ?_
    refine x_iald hx hb hK hP 8 (Q_a4 hRr) (by first | omega | decide | assumption) (by decide) dX3_faults_13 (v := nI (r 4 j_x)) (congrArg nI (show (up2 r 30 22 (1 - bN (okR r x))) 4 j_x = r 4 j_x from by simp [up2])) ?_
    refine lv_goto (tgt := 18) hx hb dX3_faults_14 (by decide) ?_
    have hrel : (fun (v9 : Int32) (u9 : Nat → Nat → Nat) => (¬ okR r x ∧ u9 = up2 r 30 22 1) ∨ (∃ a, a < r 30 0 ∧ x = nI a ∧ v9 = nI (r 4 a) ∧ u9 = up2 r 30 22 0)) (nI (r 4 j_x)) (up2 r 30 22 (1 - bN (okR r x))) := by exact Or.inr ⟨j_x, hj_x, hx_x, rfl, by rw [bN_t (show okR r x from ⟨_, hj_x, hx_x⟩)]⟩
    exact W.iret (v := nI (r 4 j_x)) hx hb hr (fun t ht hW => ⟨⟨_, (up2 r 30 22 (1 - bN (okR r x))), rfl, hrel, Wr_mk hRc hRr hRo hP hD ht⟩, hS.F ht⟩) hS.2.2 dX3_faults_18
set_option maxHeartbeats 4000000 in
set_option maxRecDepth 100000 in
theorem k_X3_state (l : Launch) (D : va_G) (G : Nat → Nat) (h0 : Nat) (c r : Nat → Nat → Nat) (o : Nat) (x : Int32) (hI : IR r) : Met l yX3_state wsX3_state ({ frames := 3, cells := 0, slots := 0, locals := 64 } : Room) (va_Pc [.ref (G 3), .int x] (fun U => Pr D G h0 c r o U)) (va_Qi (fun (v9 : Int32) (u9 : Nat → Nat → Nat) => (¬ okR r x ∧ u9 = up2 r 30 22 1) ∨ (∃ a, a < r 30 0 ∧ x = nI a ∧ v9 = nI (r 17 a) ∧ u9 = up2 r 30 22 0)) (fun (u9 : Nat → Nat → Nat) t => Wr D G h0 c u9 o t) (fun q => h0 ≤ q)) 0 0 (fun q => h0 ≤ q) := by
  refine Met.ofW (cc := cX3_state) (maxL := 2) (ret := (some .int)) (by decide) rfl ?_
  intro p e s m args below meth cd s₁ B hml hv
  obtain ⟨rfl, hE, wl, hRc, hRr, hRo, hP, hD⟩ := hv
  have hx := B.exec
  have hb := B.bytes
  have hr := B.returns
  have hts := atoms_spec (ws := wsX3_state) B.pre
  have hown : s.vm.findClass RX3 = some m.cls := findClass_of_methodNamed B.named
  have hlocks := B.notSynchronized
  have hK := hE.2.1
  have hS : va_S (fun q => h0 ≤ q) s.heap s.heap [] := va_S.rf
  have hl := lv_entry ([.ref (G 3), .int x]) (n := 2) (Nat.le_of_ble_eq_true rfl)
  rw [lg_entry_eq]
  generalize (lg_sl ([.ref (G 3), .int x]) ++ List.replicate (2 - (lg_sl ([.ref (G 3), .int x])).length) Slot.unset).toArray = ls at hl ⊢
  have hl : lv_has ls 2 [(0, .ref (G 3)), (1, .int x)] := hl
  have inX3 : ∀ w ∈ wsX30, w ∈ wsX3_state := by decide +kernel
  have hBr := IR_B hI
  have hn := IR_n hI
  have hs := IR_s hI
  refine lv_aload_n hx hb dX3_state_0 rfl (lv_at hl 0 rfl) ?_
  refine lv_iload_n hx hb dX3_state_1 rfl (lv_at hl 1 rfl) ?_
  refine y_calli (va_runV (As := [.int x]) (rest := []) ⟨hx, hb, hml, hown, hts⟩ (k_X3_asks l D G h0 c r o x hn) (cwV 1 hts gX3_state_X3_asks rfl rfl rfl (by decide +kernel) ⟨Nat.le_of_ble_eq_true rfl, Nat.le_of_ble_eq_true rfl⟩) ⟨fun a U g mk q => ⟨q.1, Pr_cg q.2⟩, va_recv (ci := 4) (q0 := 3) hK hP rfl (Q_m hRr), fun U hU hW => ⟨rfl, Pr_mk hE hRc hRr hRo hP hD hS hU hW⟩⟩ rfl rfl hl.1 rfl (lv_room (Nat.le_of_ble_eq_true rfl)) dX3_state_2 ⟨Nat.le_of_ble_eq_true rfl, Nat.le_of_ble_eq_true rfl⟩) hS (fun v9 _ H locs wl hv9 hRc hRr hRo hP hD hS => ?_)
  refine n_top (y := .int (nI (bN (okR r x)))) (congrArg Value.int hv9) ?_
  clear hv9 v9
  refine n_ifb_eq (tgt := 17) hx hb dX3_state_5 (by decide) (fun c_5 => ?_) (fun c_5 => ?_)
  · refine lv_iconst (v := nI 0) hx hb dX3_state_17 (by decide) ?_
    have hrel : (fun (v9 : Int32) (u9 : Nat → Nat → Nat) => (¬ okR r x ∧ u9 = up2 r 30 22 1) ∨ (∃ a, a < r 30 0 ∧ x = nI a ∧ v9 = nI (r 17 a) ∧ u9 = up2 r 30 22 0)) (nI 0) (up2 r 30 22 (1 - bN (okR r x))) := by exact Or.inl ⟨c_5, by rw [bN_f c_5]⟩
    exact W.iret (v := nI 0) hx hb hr (fun t ht hW => ⟨⟨_, (up2 r 30 22 (1 - bN (okR r x))), rfl, hrel, Wr_mk hRc hRr hRo hP hD ht⟩, hS.F ht⟩) hS.2.2 dX3_state_18
  · obtain ⟨j_x, hj_x, hx_x⟩ := c_5
    refine lv_aload_n hx hb dX3_state_8 rfl (lv_at hl 0 rfl) ?_
    refine va_get (D := D) (ci := 4) (v := .ref (G 15)) (C := RX3) (T := TX3) (N := 23) hx hb hts inX3 hown hK hP 3 (Q_m hRr) rfl 17 (by decide) (hts (.fieldLink RX3 41 "BootStageModel" "states" "[I") (by decide +kernel)) (fun _ h9 => h9) rfl dX3_state_9 ?_
    refine lv_iload_n hx hb dX3_state_12 rfl (lv_at hl 1 rfl) ?_
    refine n_top (y := .int (nI j_x)) (congrArg Value.int hx_x) ?_
    refine x_iald hx hb hK hP 15 (Q_a17 hRr) (by first | omega | decide | assumption) (by decide) dX3_state_13 (v := nI (r 17 j_x)) (congrArg nI (show (up2 r 30 22 (1 - bN (okR r x))) 17 j_x = r 17 j_x from by simp [up2])) ?_
    refine lv_goto (tgt := 18) hx hb dX3_state_14 (by decide) ?_
    have hrel : (fun (v9 : Int32) (u9 : Nat → Nat → Nat) => (¬ okR r x ∧ u9 = up2 r 30 22 1) ∨ (∃ a, a < r 30 0 ∧ x = nI a ∧ v9 = nI (r 17 a) ∧ u9 = up2 r 30 22 0)) (nI (r 17 j_x)) (up2 r 30 22 (1 - bN (okR r x))) := by exact Or.inr ⟨j_x, hj_x, hx_x, rfl, by rw [bN_t (show okR r x from ⟨_, hj_x, hx_x⟩)]⟩
    exact W.iret (v := nI (r 17 j_x)) hx hb hr (fun t ht hW => ⟨⟨_, (up2 r 30 22 (1 - bN (okR r x))), rfl, hrel, Wr_mk hRc hRr hRo hP hD ht⟩, hS.F ht⟩) hS.2.2 dX3_state_18
set_option maxHeartbeats 4000000 in
set_option maxRecDepth 100000 in
theorem k_X3_units (l : Launch) (D : va_G) (G : Nat → Nat) (h0 : Nat) (c r : Nat → Nat → Nat) (o : Nat) : Met l yX3_units wsX3_units ({ frames := 0, cells := 0, slots := 0, locals := 0 } : Room) (va_Pc [.ref (G 3)] (fun U => Pr D G h0 c r o U)) (va_Qi (fun (v9 : Int32) (_ : Unit) => v9 = nI (r 30 0)) (fun _ t => Wr D G h0 c (up2 r 30 22 0) o t) (fun q => h0 ≤ q)) 0 0 (fun q => h0 ≤ q) := by
  refine Met.ofW (cc := cX3_units) (maxL := 1) (ret := (some .int)) (by decide) rfl ?_
  intro p e s m args below meth cd s₁ B hml hv
  obtain ⟨rfl, hE, wl, hRc, hRr, hRo, hP, hD⟩ := hv
  have hx := B.exec
  have hb := B.bytes
  have hr := B.returns
  have hts := atoms_spec (ws := wsX3_units) B.pre
  have hown : s.vm.findClass RX3 = some m.cls := findClass_of_methodNamed B.named
  have hlocks := B.notSynchronized
  have hK := hE.2.1
  have hS : va_S (fun q => h0 ≤ q) s.heap s.heap [] := va_S.rf
  have hl := lv_entry ([.ref (G 3)]) (n := 1) (Nat.le_of_ble_eq_true rfl)
  rw [lg_entry_eq]
  generalize (lg_sl ([.ref (G 3)]) ++ List.replicate (1 - (lg_sl ([.ref (G 3)])).length) Slot.unset).toArray = ls at hl ⊢
  have hl : lv_has ls 1 [(0, .ref (G 3))] := hl
  have inX3 : ∀ w ∈ wsX30, w ∈ wsX3_units := by decide +kernel
  refine lv_aload_n hx hb dX3_units_0 rfl (lv_at hl 0 rfl) ?_
  refine lv_iconst (v := nI 0) hx hb dX3_units_1 (by decide) ?_
  refine x_put (D := D) (G := G) (ci := 4) (ty := .int) (C := RX3) (T := TX3) (N := 23) (Z := fun wl => Rc G c wl ∧ Rr G (up2 r 30 22 0) wl ∧ Ro G o wl) hx hb hts inX3 tyX3 tyX3_ok nmX3 hown hK hP hD hS 3 (Q_m hRr) rfl 22 (by decide) (hts (.fieldLink RX3 56 "BootStageModel" "thrown" "I") (by decide +kernel)) (fun _ h9 => h9) rfl (by decide +kernel) rfl rfl (Nat.le_of_ble_eq_true rfl) dX3_units_2 ⟨Rc_fr hRc (by decide) (by decide), P_m22 0 hRr, Ro_fr hRo (by decide)⟩ (fun H locs wl hZ hP hD hS => ?_)
  obtain ⟨hRc, hRr, hRo⟩ := hZ
  refine lv_aload_n hx hb dX3_units_5 rfl (lv_at hl 0 rfl) ?_
  refine va_get (D := D) (ci := 4) (v := .int (nI (r 30 0))) (C := RX3) (T := TX3) (N := 23) hx hb hts inX3 hown hK hP 3 (Q_m hRr) rfl 0 (by decide) (hts (.fieldLink RX3 60 "BootStageModel" "units" "I") (by decide +kernel)) (fun _ h9 => h9) (congrArg (fun z => some (Value.int (nI z))) (show (up2 r 30 22 0) 30 0 = r 30 0 from by simp [up2])) dX3_units_6 ?_
  exact W.iret (v := nI (r 30 0)) hx hb hr (fun t ht hW => ⟨⟨_, (), rfl, (show nI (r 30 0) = nI (r 30 0) from by first | rfl | (apply congrArg nI; omega) | exact congrArg nI (bN_t (by omega)).symm | exact congrArg nI (bN_f (by omega)).symm), Wr_mk hRc hRr hRo hP hD ht⟩, hS.F ht⟩) hS.2.2 dX3_units_9
set_option maxHeartbeats 4000000 in
set_option maxRecDepth 100000 in
theorem k_X3_goesOn (l : Launch) (D : va_G) (G : Nat → Nat) (h0 : Nat) (c r : Nat → Nat → Nat) (o : Nat) (hg : r 30 13 ≤ 1) : Met l yX3_goesOn wsX3_goesOn ({ frames := 0, cells := 0, slots := 0, locals := 0 } : Room) (va_Pc [.ref (G 3)] (fun U => Pr D G h0 c r o U)) (va_Qi (fun (v9 : Int32) (_ : Unit) => v9 = nI (r 30 13)) (fun _ t => Wr D G h0 c (up2 r 30 22 0) o t) (fun q => h0 ≤ q)) 0 0 (fun q => h0 ≤ q) := by
  refine Met.ofW (cc := cX3_goesOn) (maxL := 1) (ret := (some .boolean)) (by decide) rfl ?_
  intro p e s m args below meth cd s₁ B hml hv
  obtain ⟨rfl, hE, wl, hRc, hRr, hRo, hP, hD⟩ := hv
  have hx := B.exec
  have hb := B.bytes
  have hr := B.returns
  have hts := atoms_spec (ws := wsX3_goesOn) B.pre
  have hown : s.vm.findClass RX3 = some m.cls := findClass_of_methodNamed B.named
  have hlocks := B.notSynchronized
  have hK := hE.2.1
  have hS : va_S (fun q => h0 ≤ q) s.heap s.heap [] := va_S.rf
  have hl := lv_entry ([.ref (G 3)]) (n := 1) (Nat.le_of_ble_eq_true rfl)
  rw [lg_entry_eq]
  generalize (lg_sl ([.ref (G 3)]) ++ List.replicate (1 - (lg_sl ([.ref (G 3)])).length) Slot.unset).toArray = ls at hl ⊢
  have hl : lv_has ls 1 [(0, .ref (G 3))] := hl
  have inX3 : ∀ w ∈ wsX30, w ∈ wsX3_goesOn := by decide +kernel
  refine lv_aload_n hx hb dX3_goesOn_0 rfl (lv_at hl 0 rfl) ?_
  refine lv_iconst (v := nI 0) hx hb dX3_goesOn_1 (by decide) ?_
  refine x_put (D := D) (G := G) (ci := 4) (ty := .int) (C := RX3) (T := TX3) (N := 23) (Z := fun wl => Rc G c wl ∧ Rr G (up2 r 30 22 0) wl ∧ Ro G o wl) hx hb hts inX3 tyX3 tyX3_ok nmX3 hown hK hP hD hS 3 (Q_m hRr) rfl 22 (by decide) (hts (.fieldLink RX3 56 "BootStageModel" "thrown" "I") (by decide +kernel)) (fun _ h9 => h9) rfl (by decide +kernel) rfl rfl (Nat.le_of_ble_eq_true rfl) dX3_goesOn_2 ⟨Rc_fr hRc (by decide) (by decide), P_m22 0 hRr, Ro_fr hRo (by decide)⟩ (fun H locs wl hZ hP hD hS => ?_)
  obtain ⟨hRc, hRr, hRo⟩ := hZ
  refine lv_aload_n hx hb dX3_goesOn_5 rfl (lv_at hl 0 rfl) ?_
  refine va_get (D := D) (ci := 4) (v := .int (nI (r 30 13))) (C := RX3) (T := TX3) (N := 23) hx hb hts inX3 hown hK hP 3 (Q_m hRr) rfl 13 (by decide) (hts (.fieldLink RX3 67 "BootStageModel" "goesOn" "Z") (by decide +kernel)) (fun _ h9 => h9) (congrArg (fun z => some (Value.int (nI z))) (show (up2 r 30 22 0) 30 13 = r 30 13 from by simp [up2])) dX3_goesOn_6 ?_
  exact W.zret (v := nI (r 30 13)) (ty := .boolean) hx hb hr (nb_le (by first | exact bN_le _ | decide | omega | assumption)) (fun t ht hW => ⟨⟨_, (), rfl, (show nI (r 30 13) = nI (r 30 13) from by first | rfl | (apply congrArg nI; omega) | exact congrArg nI (bN_t (by omega)).symm | exact congrArg nI (bN_f (by omega)).symm), Wr_mk hRc hRr hRo hP hD ht⟩, hS.F ht⟩) hS.2.2 dX3_goesOn_9
set_option maxHeartbeats 4000000 in
set_option maxRecDepth 100000 in
theorem k_X3_bar (l : Launch) (D : va_G) (G : Nat → Nat) (h0 : Nat) (c r : Nat → Nat → Nat) (o : Nat) (hg : r 30 12 ≤ 1) : Met l yX3_bar wsX3_bar ({ frames := 0, cells := 0, slots := 0, locals := 0 } : Room) (va_Pc [.ref (G 3)] (fun U => Pr D G h0 c r o U)) (va_Qi (fun (v9 : Int32) (_ : Unit) => v9 = nI (if r 30 12 = 0 then 0 else r 30 16)) (fun _ t => Wr D G h0 c (up2 r 30 22 0) o t) (fun q => h0 ≤ q)) 0 0 (fun q => h0 ≤ q) := by
  refine Met.ofW (cc := cX3_bar) (maxL := 1) (ret := (some .int)) (by decide) rfl ?_
  intro p e s m args below meth cd s₁ B hml hv
  obtain ⟨rfl, hE, wl, hRc, hRr, hRo, hP, hD⟩ := hv
  have hx := B.exec
  have hb := B.bytes
  have hr := B.returns
  have hts := atoms_spec (ws := wsX3_bar) B.pre
  have hown : s.vm.findClass RX3 = some m.cls := findClass_of_methodNamed B.named
  have hlocks := B.notSynchronized
  have hK := hE.2.1
  have hS : va_S (fun q => h0 ≤ q) s.heap s.heap [] := va_S.rf
  have hl := lv_entry ([.ref (G 3)]) (n := 1) (Nat.le_of_ble_eq_true rfl)
  rw [lg_entry_eq]
  generalize (lg_sl ([.ref (G 3)]) ++ List.replicate (1 - (lg_sl ([.ref (G 3)])).length) Slot.unset).toArray = ls at hl ⊢
  have hl : lv_has ls 1 [(0, .ref (G 3))] := hl
  have inX3 : ∀ w ∈ wsX30, w ∈ wsX3_bar := by decide +kernel
  refine lv_aload_n hx hb dX3_bar_0 rfl (lv_at hl 0 rfl) ?_
  refine lv_iconst (v := nI 0) hx hb dX3_bar_1 (by decide) ?_
  refine x_put (D := D) (G := G) (ci := 4) (ty := .int) (C := RX3) (T := TX3) (N := 23) (Z := fun wl => Rc G c wl ∧ Rr G (up2 r 30 22 0) wl ∧ Ro G o wl) hx hb hts inX3 tyX3 tyX3_ok nmX3 hown hK hP hD hS 3 (Q_m hRr) rfl 22 (by decide) (hts (.fieldLink RX3 56 "BootStageModel" "thrown" "I") (by decide +kernel)) (fun _ h9 => h9) rfl (by decide +kernel) rfl rfl (Nat.le_of_ble_eq_true rfl) dX3_bar_2 ⟨Rc_fr hRc (by decide) (by decide), P_m22 0 hRr, Ro_fr hRo (by decide)⟩ (fun H locs wl hZ hP hD hS => ?_)
  obtain ⟨hRc, hRr, hRo⟩ := hZ
  refine lv_aload_n hx hb dX3_bar_5 rfl (lv_at hl 0 rfl) ?_
  refine va_get (D := D) (ci := 4) (v := .int (nI (r 30 12))) (C := RX3) (T := TX3) (N := 23) hx hb hts inX3 hown hK hP 3 (Q_m hRr) rfl 12 (by decide) (hts (.fieldLink RX3 96 "BootStageModel" "wasBegun" "Z") (by decide +kernel)) (fun _ h9 => h9) (congrArg (fun z => some (Value.int (nI z))) (show (up2 r 30 22 0) 30 12 = r 30 12 from by simp [up2])) dX3_bar_6 ?_
  refine n_if_eq (tgt := 19) hx hb dX3_bar_9 (by decide) (by omega) (fun c_9 => ?_) (fun c_9 => ?_)
  · refine lv_iconst (v := nI 0) hx hb dX3_bar_19 (by decide) ?_
    exact W.iret (v := nI 0) hx hb hr (fun t ht hW => ⟨⟨_, (), rfl, (show nI 0 = nI (if r 30 12 = 0 then 0 else r 30 16) from by rw [if_pos c_9]), Wr_mk hRc hRr hRo hP hD ht⟩, hS.F ht⟩) hS.2.2 dX3_bar_20
  · refine lv_aload_n hx hb dX3_bar_12 rfl (lv_at hl 0 rfl) ?_
    refine va_get (D := D) (ci := 4) (v := .int (nI (r 30 16))) (C := RX3) (T := TX3) (N := 23) hx hb hts inX3 hown hK hP 3 (Q_m hRr) rfl 16 (by decide) (hts (.fieldLink RX3 105 "BootStageModel" "bar" "I") (by decide +kernel)) (fun _ h9 => h9) (congrArg (fun z => some (Value.int (nI z))) (show (up2 r 30 22 0) 30 16 = r 30 16 from by simp [up2])) dX3_bar_13 ?_
    refine lv_goto (tgt := 20) hx hb dX3_bar_16 (by decide) ?_
    exact W.iret (v := nI (r 30 16)) hx hb hr (fun t ht hW => ⟨⟨_, (), rfl, (show nI (r 30 16) = nI (if r 30 12 = 0 then 0 else r 30 16) from by rw [if_neg (Nat.ne_of_gt c_9)]), Wr_mk hRc hRr hRo hP hD ht⟩, hS.F ht⟩) hS.2.2 dX3_bar_20
set_option maxHeartbeats 4000000 in
set_option maxRecDepth 100000 in
theorem k_X3_thrown (l : Launch) (D : va_G) (G : Nat → Nat) (h0 : Nat) (c r : Nat → Nat → Nat) (o : Nat) : Met l yX3_thrown wsX3_thrown ({ frames := 0, cells := 0, slots := 0, locals := 0 } : Room) (va_Pc [.ref (G 3)] (fun U => Pr D G h0 c r o U)) (va_Qi (fun (v9 : Int32) (_ : Unit) => v9 = nI (r 30 22)) (fun _ t => Wr D G h0 c r o t) (fun q => h0 ≤ q)) 0 0 (fun q => h0 ≤ q) := by
  refine Met.ofW (cc := cX3_thrown) (maxL := 1) (ret := (some .int)) (by decide) rfl ?_
  intro p e s m args below meth cd s₁ B hml hv
  obtain ⟨rfl, hE, wl, hRc, hRr, hRo, hP, hD⟩ := hv
  have hx := B.exec
  have hb := B.bytes
  have hr := B.returns
  have hts := atoms_spec (ws := wsX3_thrown) B.pre
  have hown : s.vm.findClass RX3 = some m.cls := findClass_of_methodNamed B.named
  have hlocks := B.notSynchronized
  have hK := hE.2.1
  have hS : va_S (fun q => h0 ≤ q) s.heap s.heap [] := va_S.rf
  have hl := lv_entry ([.ref (G 3)]) (n := 1) (Nat.le_of_ble_eq_true rfl)
  rw [lg_entry_eq]
  generalize (lg_sl ([.ref (G 3)]) ++ List.replicate (1 - (lg_sl ([.ref (G 3)])).length) Slot.unset).toArray = ls at hl ⊢
  have hl : lv_has ls 1 [(0, .ref (G 3))] := hl
  have inX3 : ∀ w ∈ wsX30, w ∈ wsX3_thrown := by decide +kernel
  refine lv_aload_n hx hb dX3_thrown_0 rfl (lv_at hl 0 rfl) ?_
  refine va_get (D := D) (ci := 4) (v := .int (nI (r 30 22))) (C := RX3) (T := TX3) (N := 23) hx hb hts inX3 hown hK hP 3 (Q_m hRr) rfl 22 (by decide) (hts (.fieldLink RX3 56 "BootStageModel" "thrown" "I") (by decide +kernel)) (fun _ h9 => h9) rfl dX3_thrown_1 ?_
  exact W.iret (v := nI (r 30 22)) hx hb hr (fun t ht hW => ⟨⟨_, (), rfl, (show nI (r 30 22) = nI (r 30 22) from by first | rfl | (apply congrArg nI; omega) | exact congrArg nI (bN_t (by omega)).symm | exact congrArg nI (bN_f (by omega)).symm), Wr_mk hRc hRr hRo hP hD ht⟩, hS.F ht⟩) hS.2.2 dX3_thrown_4
set_option maxHeartbeats 4000000 in
set_option maxRecDepth 100000 in
theorem k_X3_ready (l : Launch) (D : va_G) (G : Nat → Nat) (h0 : Nat) (c r : Nat → Nat → Nat) (o : Nat) (hI : IR r) : Met l yX3_ready wsX3_ready ({ frames := 0, cells := 0, slots := 0, locals := 0 } : Room) (va_Pc [.ref (G 3)] (fun U => Pr D G h0 c r o U)) (va_Qi (fun (v9 : Int32) (_ : Unit) => v9 = nI (mk (fun w => r 17 w = 2) (r 30 0))) (fun _ t => Wr D G h0 c (up2 r 30 22 0) o t) (fun q => h0 ≤ q)) 0 0 (fun q => h0 ≤ q) := by
  refine Met.ofW (cc := cX3_ready) (maxL := 3) (ret := (some .int)) (by decide) rfl ?_
  intro p e s m args below meth cd s₁ B hml hv
  obtain ⟨rfl, hE, wl, hRc, hRr, hRo, hP, hD⟩ := hv
  have hx := B.exec
  have hb := B.bytes
  have hr := B.returns
  have hts := atoms_spec (ws := wsX3_ready) B.pre
  have hown : s.vm.findClass RX3 = some m.cls := findClass_of_methodNamed B.named
  have hlocks := B.notSynchronized
  have hK := hE.2.1
  have hS : va_S (fun q => h0 ≤ q) s.heap s.heap [] := va_S.rf
  have hl := lv_entry ([.ref (G 3)]) (n := 3) (Nat.le_of_ble_eq_true rfl)
  rw [lg_entry_eq]
  generalize (lg_sl ([.ref (G 3)]) ++ List.replicate (3 - (lg_sl ([.ref (G 3)])).length) Slot.unset).toArray = ls at hl ⊢
  have hl : lv_has ls 3 [(0, .ref (G 3))] := hl
  have inX3 : ∀ w ∈ wsX30, w ∈ wsX3_ready := by decide +kernel
  obtain ⟨Q, hQ⟩ : ∃ Q, Q = MQ below (va_Qi (fun (v9 : Int32) (_ : Unit) => v9 = nI (mk (fun w => r 17 w = 2) (r 30 0))) (fun _ t => Wr D G h0 c (up2 r 30 22 0) o t) (fun q => h0 ≤ q)) ([.ref (G 3)] : List Value).toArray s 0 0 (fun q => h0 ≤ q) := ⟨_, rfl⟩
  rw [← hQ]
  have hBr := IR_B hI
  have hn := IR_n hI
  have hs := IR_s hI
  refine lv_aload_n hx hb dX3_ready_0 rfl (lv_at hl 0 rfl) ?_
  refine lv_iconst (v := nI 0) hx hb dX3_ready_1 (by decide) ?_
  refine x_put (D := D) (G := G) (ci := 4) (ty := .int) (C := RX3) (T := TX3) (N := 23) (Z := fun wl => Rc G c wl ∧ Rr G (up2 r 30 22 0) wl ∧ Ro G o wl) hx hb hts inX3 tyX3 tyX3_ok nmX3 hown hK hP hD hS 3 (Q_m hRr) rfl 22 (by decide) (hts (.fieldLink RX3 56 "BootStageModel" "thrown" "I") (by decide +kernel)) (fun _ h9 => h9) rfl (by decide +kernel) rfl rfl (Nat.le_of_ble_eq_true rfl) dX3_ready_2 ⟨Rc_fr hRc (by decide) (by decide), P_m22 0 hRr, Ro_fr hRo (by decide)⟩ (fun H locs wl hZ hP hD hS => ?_)
  obtain ⟨hRc, hRr, hRo⟩ := hZ
  refine lv_iconst (v := nI 0) hx hb dX3_ready_5 (by decide) ?_
  refine lv_istore_n (lv' := [(1, .int (nI 0)), (0, .ref (G 3))]) hx hb dX3_ready_6 rfl hl (by decide) rfl (fun ls hl => ?_)
  refine lv_iconst (v := nI 0) hx hb dX3_ready_7 (by decide) ?_
  refine lv_istore_n (lv' := [(2, .int (nI 0)), (1, .int (nI 0)), (0, .ref (G 3))]) hx hb dX3_ready_8 rfl hl (by decide) rfl (fun ls hl => ?_)
  have L9 : ∀ (d i : Nat), r 30 0 - i < d → i ≤ r 30 0 → ∀ (H : Heap) (locs : List Loc) (wl : va_W) (ls : Array Slot), Rc G c wl → Rr G (up2 r 30 22 0) wl → Ro G o wl → va_P D vwCl wl H → va_D (fun q => h0 ≤ q) wl → va_S (fun q => h0 ≤ q) s.heap H locs → lv_has ls 3 [(2, .int (nI i)), (1, .int (nI (mk (fun w => r 17 w = 2) i))), (0, .ref (G 3))] → W p l e (headSpec wsX3_ready ({ frames := 0, cells := 0, slots := 0, locals := 0 } : Room)).room s m ([.ref (G 3)] : List Value).toArray below meth cd H locs 0 0 Q (F0 m 9 ls []) := by
    intro d9
    induction d9 with
    | zero => intro i hd; exact absurd hd (Nat.not_lt_zero _)
    | succ d9 ih9 =>
      intro i hd hi  H locs wl ls hRc hRr hRo hP hD hS hl
      refine lv_iload_n hx hb dX3_ready_9 rfl (lv_at hl 0 rfl) ?_
      refine lv_aload_n hx hb dX3_ready_10 rfl (lv_at hl 2 rfl) ?_
      refine va_get (D := D) (ci := 4) (v := .int (nI (r 30 0))) (C := RX3) (T := TX3) (N := 23) hx hb hts inX3 hown hK hP 3 (Q_m hRr) rfl 0 (by decide) (hts (.fieldLink RX3 60 "BootStageModel" "units" "I") (by decide +kernel)) (fun _ h9 => h9) (congrArg (fun z => some (Value.int (nI z))) (show (up2 r 30 22 0) 30 0 = r 30 0 from by simp [up2])) dX3_ready_11 ?_
      refine n_icmp_ge (tgt := 43) hx hb dX3_ready_14 (by decide) (by omega) (hBr _ _ (by decide)) (fun c_14 => ?_) (fun c_14 => ?_)
      · refine lv_iload_n hx hb dX3_ready_43 rfl (lv_at hl 1 rfl) ?_
        rw [hQ]
        exact W.iret (v := nI (mk (fun w => r 17 w = 2) i)) hx hb hr (fun t ht hW => ⟨⟨_, (), rfl, (show nI (mk (fun w => r 17 w = 2) i) = nI (mk (fun w => r 17 w = 2) (r 30 0)) from by rw [show i = r 30 0 by omega]), Wr_mk hRc hRr hRo hP hD ht⟩, hS.F ht⟩) hS.2.2 dX3_ready_44
      · refine lv_iload_n hx hb dX3_ready_17 rfl (lv_at hl 1 rfl) ?_
        refine lv_aload_n hx hb dX3_ready_18 rfl (lv_at hl 2 rfl) ?_
        refine va_get (D := D) (ci := 4) (v := .ref (G 15)) (C := RX3) (T := TX3) (N := 23) hx hb hts inX3 hown hK hP 3 (Q_m hRr) rfl 17 (by decide) (hts (.fieldLink RX3 41 "BootStageModel" "states" "[I") (by decide +kernel)) (fun _ h9 => h9) rfl dX3_ready_19 ?_
        refine lv_iload_n hx hb dX3_ready_22 rfl (lv_at hl 0 rfl) ?_
        refine x_iald hx hb hK hP 15 (Q_a17 hRr) (by first | omega | decide | assumption) (by decide) dX3_ready_23 (v := nI (r 17 i)) (congrArg nI (show (up2 r 30 22 0) 17 i = r 17 i from by simp [up2])) ?_
        refine lv_iconst (v := nI 2) hx hb dX3_ready_24 (by decide) ?_
        refine n_icmp_ne (tgt := 34) hx hb dX3_ready_25 (by decide) (hBr _ _ (by decide)) (by decide) (fun c_25 => ?_) (fun c_25 => ?_)
        · refine lv_iconst (v := nI 0) hx hb dX3_ready_34 (by decide) ?_
          refine n_ior hx hb dX3_ready_35 ?_
          refine lv_istore_n (lv' := [(1, .int (nI ((mk (fun w => r 17 w = 2) i) ||| 0))), (2, .int (nI i)), (0, .ref (G 3))]) hx hb dX3_ready_36 rfl hl (by decide) rfl (fun ls hl => ?_)
          refine lv_iinc (v := nI (i + 1)) (lv' := [(2, .int (nI (i + 1))), (1, .int (nI ((mk (fun w => r 17 w = 2) i) ||| 0))), (0, .ref (G 3))]) hx hb dX3_ready_37 hl (k := 1) rfl (nI_add i 1) (by decide) rfl (fun ls hl => ?_)
          refine lv_goto (tgt := 9) hx hb dX3_ready_40 (by decide) ?_
          exact ih9 (i + 1) (by omega) (by omega)   _ _ _ _ hRc hRr hRo hP hD hS (show lv_has ls 3 [(2, .int (nI (i + 1))), (1, .int (nI (mk (fun w => r 17 w = 2) (i + 1)))), (0, .ref (G 3))] from by rw [show ((.int (nI (mk (fun w => r 17 w = 2) (i + 1))) : Value)) = .int (nI ((mk (fun w => r 17 w = 2) i) ||| 0)) from by exact congrArg (fun z => Value.int (nI z)) ((show mk (fun w => r 17 w = 2) (i + 1) = mk (fun w => r 17 w = 2) i from mk_f c_25).trans (Nat.or_zero _).symm)]; exact lv_sub hl [0, 1, 2] rfl)
        · refine lv_iconst (v := nI 1) hx hb dX3_ready_28 (by decide) ?_
          refine lv_iload_n hx hb dX3_ready_29 rfl (lv_at hl 0 rfl) ?_
          refine n_bit hx hb dX3_ready_30 (by omega) ?_
          refine lv_goto (tgt := 35) hx hb dX3_ready_31 (by decide) ?_
          refine n_ior hx hb dX3_ready_35 ?_
          refine lv_istore_n (lv' := [(1, .int (nI ((mk (fun w => r 17 w = 2) i) ||| (2 ^ i)))), (2, .int (nI i)), (0, .ref (G 3))]) hx hb dX3_ready_36 rfl hl (by decide) rfl (fun ls hl => ?_)
          refine lv_iinc (v := nI (i + 1)) (lv' := [(2, .int (nI (i + 1))), (1, .int (nI ((mk (fun w => r 17 w = 2) i) ||| (2 ^ i)))), (0, .ref (G 3))]) hx hb dX3_ready_37 hl (k := 1) rfl (nI_add i 1) (by decide) rfl (fun ls hl => ?_)
          refine lv_goto (tgt := 9) hx hb dX3_ready_40 (by decide) ?_
          exact ih9 (i + 1) (by omega) (by omega)   _ _ _ _ hRc hRr hRo hP hD hS (show lv_has ls 3 [(2, .int (nI (i + 1))), (1, .int (nI (mk (fun w => r 17 w = 2) (i + 1)))), (0, .ref (G 3))] from by rw [show ((.int (nI (mk (fun w => r 17 w = 2) (i + 1))) : Value)) = .int (nI ((mk (fun w => r 17 w = 2) i) ||| (2 ^ i))) from by exact congrArg (fun z => Value.int (nI z)) (mk_t c_25)]; exact lv_sub hl [0, 1, 2] rfl)
  exact L9 _ 0 (Nat.lt_succ_self _) (by omega)   _ _ _ _ hRc hRr hRo hP hD hS (show lv_has ls 3 [(2, .int (nI 0)), (1, .int (nI (mk (fun w => r 17 w = 2) 0))), (0, .ref (G 3))] from by rw [show ((.int (nI (mk (fun w => r 17 w = 2) 0)) : Value)) = .int (nI 0) from by rfl]; exact lv_sub hl [0, 1, 2] rfl)
