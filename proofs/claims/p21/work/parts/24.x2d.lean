set_option maxHeartbeats 4000000 in
set_option maxRecDepth 100000 in
theorem k_X2_add (l : Launch) (hlt : l.stackTraces = false) (D : va_G) (G : Nat → Nat) (h0 : Nat) (c r : Nat → Nat → Nat) (o : Nat) (x y : Int32) (hI : IC c) : vx_Met l yX2_add wsX2_add ({ frames := 7, cells := 3, slots := 18, locals := 105 } : Room) (va_Pc [.ref (G 0), .int x, .int y] (fun U => Pr D G h0 c r o U)) (va_Qi (fun (v9 : Int32) (u9 : Nat → Nat → Nat) => ∃ t k, (1 ≤ t ∧ t ≤ 100) ∧ (0 ≤ k ∧ k ≤ 3) ∧ x = nI t ∧ y = nI k ∧ c 20 1 < 20 ∧ c 20 3 = 0 ∧ v9 = nI (c 20 1) ∧ u9 = up2 (up2 (up2 c 1 (c 20 1) t) 2 (c 20 1) k) 20 1 (c 20 1 + 1)) (fun (u9 : Nat → Nat → Nat) t => Wr D G h0 u9 r o t) (fun q => h0 ≤ q)) (xw D G h0 c r o (fun E => (E = exA ∧ ¬ (inR x 1 100 ∧ inR y 0 3)) ∨ (E = exS ∧ (inR x 1 100 ∧ inR y 0 3) ∧ ¬ (c 20 1 < 20 ∧ c 20 3 = 0)))) 3 18 (fun q => h0 ≤ q) := by
  refine vx_ofW (cc := cX2_add) (maxL := 4) (ret := (some .int)) (by decide) rfl ?_
  intro p e s m args below meth cd s₁ B hml htab hv
  obtain ⟨rfl, hE, wl, hRc, hRr, hRo, hP, hD⟩ := hv
  have hx := B.exec
  have hb := B.bytes
  have hr := B.returns
  have hts := atoms_spec (ws := wsX2_add) B.pre
  have hown : s.vm.findClass RX2 = some m.cls := findClass_of_methodNamed B.named
  have hlocks := B.notSynchronized
  have hK := hE.2.1
  have hS : va_S (fun q => h0 ≤ q) s.heap s.heap [] := va_S.rf
  have hl := lv_entry ([.ref (G 0), .int x, .int y]) (n := 4) (Nat.le_of_ble_eq_true rfl)
  rw [lg_entry_eq]
  generalize (lg_sl ([.ref (G 0), .int x, .int y]) ++ List.replicate (4 - (lg_sl ([.ref (G 0), .int x, .int y])).length) Slot.unset).toArray = ls at hl ⊢
  have hl : lv_has ls 4 [(0, .ref (G 0)), (1, .int x), (2, .int y)] := hl
  have inX0 : ∀ w ∈ wsX00, w ∈ wsX2_add := by decide +kernel
  have inX2 : ∀ w ∈ wsX20, w ∈ wsX2_add := by decide +kernel
  have hB := IC_B hI
  have hn := IC_n hI
  have hs := IC_s hI
  refine lv_aload_n hx hb dX2_add_0 rfl (lv_at hl 0 rfl) ?_
  refine lv_iload_n hx hb dX2_add_1 rfl (lv_at hl 1 rfl) ?_
  refine lv_iconst (v := nI 1) hx hb dX2_add_2 (by decide) ?_
  refine lv_bipush (v := nI 100) hx hb dX2_add_3 (by decide) ?_
  refine yx_callv (vx_runV (As := [.int x, .int (nI 1), .int (nI 100)]) (rest := []) ⟨hx, hb, hml, hown, hts⟩ (k_X2_checkRange l hlt D G h0 c r o x 1 100) (cwV 3 hts gX2_add_X2_checkRange rfl rfl rfl (by decide +kernel) ⟨Nat.le_of_ble_eq_true rfl, Nat.le_of_ble_eq_true rfl⟩) ⟨fun a U g mk q => ⟨q.1, Pr_cg q.2⟩, va_recv (ci := 3) (q0 := 0) hK hP rfl (Q_o hRc), fun U hU hW => ⟨rfl, Pr_mk hE hRc hRr hRo hP hD hS hU hW⟩⟩ rfl rfl hl.1 rfl (lv_room (Nat.le_of_ble_eq_true rfl)) dX2_add_5 ⟨Nat.le_of_ble_eq_true rfl, Nat.le_of_ble_eq_true rfl⟩) hS htab hlocks (fun E h => by exact Or.inl ⟨h.1, fun z => h.2 z.1⟩) (Nat.le_of_ble_eq_true rfl) (Nat.le_of_ble_eq_true rfl) (fun u9 H locs wl hp9 hRc hRr hRo hP hD hS => ?_)
  have hr_5 : inR x 1 100 := hp9
  obtain ⟨t_5, ht_5, hxt_5⟩ := inR_nI hr_5 (by decide) (by decide)
  refine lv_aload_n hx hb dX2_add_8 rfl (lv_at hl 0 rfl) ?_
  refine lv_iload_n hx hb dX2_add_9 rfl (lv_at hl 2 rfl) ?_
  refine lv_iconst (v := nI 0) hx hb dX2_add_10 (by decide) ?_
  refine lv_iconst (v := nI 3) hx hb dX2_add_11 (by decide) ?_
  refine yx_callv (vx_runV (As := [.int y, .int (nI 0), .int (nI 3)]) (rest := []) ⟨hx, hb, hml, hown, hts⟩ (k_X2_checkRange l hlt D G h0 c r o y 0 3) (cwV 3 hts gX2_add_X2_checkRange rfl rfl rfl (by decide +kernel) ⟨Nat.le_of_ble_eq_true rfl, Nat.le_of_ble_eq_true rfl⟩) ⟨fun a U g mk q => ⟨q.1, Pr_cg q.2⟩, va_recv (ci := 3) (q0 := 0) hK hP rfl (Q_o hRc), fun U hU hW => ⟨rfl, Pr_mk hE hRc hRr hRo hP hD hS hU hW⟩⟩ rfl rfl hl.1 rfl (lv_room (Nat.le_of_ble_eq_true rfl)) dX2_add_12 ⟨Nat.le_of_ble_eq_true rfl, Nat.le_of_ble_eq_true rfl⟩) hS htab hlocks (fun E h => by exact Or.inl ⟨h.1, fun z => h.2 z.2⟩) (Nat.le_of_ble_eq_true rfl) (Nat.le_of_ble_eq_true rfl) (fun u9 H locs wl hp9 hRc hRr hRo hP hD hS => ?_)
  have hr_12 : inR y 0 3 := hp9
  obtain ⟨t_12, ht_12, hxt_12⟩ := inR_nI hr_12 (by decide) (by decide)
  refine lv_aload_n hx hb dX2_add_15 rfl (lv_at hl 0 rfl) ?_
  refine va_get (D := D) (ci := 3) (v := .int (nI (c 20 1))) (C := RX2) (T := TX2) (N := 7) hx hb hts inX2 hown hK hP 0 (Q_o hRc) rfl 1 (by decide) (hts (.fieldLink RX2 15 "BootStage" "count" "I") (by decide +kernel)) (fun _ h9 => h9) rfl dX2_add_16 ?_
  refine lv_bipush (v := nI 20) hx hb dX2_add_19 (by decide) ?_
  refine n_icmp_lt (tgt := 34) hx hb dX2_add_21 (by decide) (hB _ _ (by decide)) (by decide) (fun c_21 => ?_) (fun c_21 => ?_)
  · refine lv_aload_n hx hb dX2_add_34 rfl (lv_at hl 0 rfl) ?_
    refine yx_callv (vx_runV (As := []) (rest := []) ⟨hx, hb, hml, hown, hts⟩ (k_X2_checkNoStart l hlt D G h0 c r o (hB _ _ (by decide))) (cwV 0 hts gX2_add_X2_checkNoStart rfl rfl rfl (by decide +kernel) ⟨Nat.le_of_ble_eq_true rfl, Nat.le_of_ble_eq_true rfl⟩) ⟨fun a U g mk q => ⟨q.1, Pr_cg q.2⟩, va_recv (ci := 3) (q0 := 0) hK hP rfl (Q_o hRc), fun U hU hW => ⟨rfl, Pr_mk hE hRc hRr hRo hP hD hS hU hW⟩⟩ rfl rfl hl.1 rfl (lv_room (Nat.le_of_ble_eq_true rfl)) dX2_add_35 ⟨Nat.le_of_ble_eq_true rfl, Nat.le_of_ble_eq_true rfl⟩) hS htab hlocks (fun E h => by exact Or.inr ⟨h.1, ⟨hr_5, hr_12⟩, fun z => h.2 z.2⟩) (Nat.le_of_ble_eq_true rfl) (Nat.le_of_ble_eq_true rfl) (fun u9 H locs wl hp9 hRc hRr hRo hP hD hS => ?_)
    have hg_35 : c 20 3 = 0 := hp9
    refine lv_aload_n hx hb dX2_add_38 rfl (lv_at hl 0 rfl) ?_
    refine va_get (D := D) (ci := 3) (v := .ref (G 1)) (C := RX2) (T := TX2) (N := 7) hx hb hts inX2 hown hK hP 0 (Q_o hRc) rfl 0 (by decide) (hts (.fieldLink RX2 11 "BootStage" "rows" "[LBootStage$Unit;") (by decide +kernel)) (fun _ h9 => h9) rfl dX2_add_39 ?_
    refine lv_aload_n hx hb dX2_add_42 rfl (lv_at hl 0 rfl) ?_
    refine va_get (D := D) (ci := 3) (v := .int (nI (c 20 1))) (C := RX2) (T := TX2) (N := 7) hx hb hts inX2 hown hK hP 0 (Q_o hRc) rfl 1 (by decide) (hts (.fieldLink RX2 15 "BootStage" "count" "I") (by decide +kernel)) (fun _ h9 => h9) rfl dX2_add_43 ?_
    refine x_row hx hb hK hP hRc (by first | omega | decide | assumption) dX2_add_46 ?_
    refine lv_astore_n (lv' := [(3, .ref (G (20 + (c 20 1)))), (0, .ref (G 0)), (1, .int x), (2, .int y)]) hx hb dX2_add_47 rfl hl (by decide) rfl (fun ls hl => ?_)
    refine lv_aload_n hx hb dX2_add_48 rfl (lv_at hl 0 rfl) ?_
    refine lv_iload_n hx hb dX2_add_49 rfl (lv_at hl 2 rfl) ?_
    refine n_top (y := .int (nI t_5)) (congrArg Value.int hxt_5) ?_
    refine x_put (D := D) (G := G) (ci := 1) (ty := .int) (C := RX0) (T := TX0) (N := 13) (Z := fun wl => Rc G (up2 c 1 (c 20 1) t_5) wl ∧ Rr G r wl ∧ Ro G o wl) hx hb hts inX0 tyX0 tyX0_ok nmX0 hown hK hP hD hS (7 + (c 20 1)) (Q_u hRc (by first | omega | decide | assumption)) rfl 1 (by decide) (hts (.fieldLink RX2 56 "BootStage$Unit" "time" "I") (by decide +kernel)) (fun _ h9 => h9) rfl (by decide +kernel) rfl rfl (Nat.le_of_ble_eq_true rfl) dX2_add_50 ⟨P_u1 (u := c 20 1) t_5 (by first | omega | decide | assumption) hRc, Rr_fr hRr (by omega), Ro_fr hRo (by omega)⟩ (fun H locs wl hZ hP hD hS => ?_)
    obtain ⟨hRc, hRr, hRo⟩ := hZ
    refine lv_aload_n hx hb dX2_add_53 rfl (lv_at hl 0 rfl) ?_
    refine lv_iload_n hx hb dX2_add_54 rfl (lv_at hl 3 rfl) ?_
    refine n_top (y := .int (nI t_12)) (congrArg Value.int hxt_12) ?_
    refine x_put (D := D) (G := G) (ci := 1) (ty := .int) (C := RX0) (T := TX0) (N := 13) (Z := fun wl => Rc G (up2 (up2 c 1 (c 20 1) t_5) 2 (c 20 1) t_12) wl ∧ Rr G r wl ∧ Ro G o wl) hx hb hts inX0 tyX0 tyX0_ok nmX0 hown hK hP hD hS (7 + (c 20 1)) (Q_u hRc (by first | omega | decide | assumption)) rfl 2 (by decide) (hts (.fieldLink RX2 59 "BootStage$Unit" "retries" "I") (by decide +kernel)) (fun _ h9 => h9) rfl (by decide +kernel) rfl rfl (Nat.le_of_ble_eq_true rfl) dX2_add_55 ⟨P_u2 (u := c 20 1) t_12 (by first | omega | decide | assumption) hRc, Rr_fr hRr (by omega), Ro_fr hRo (by omega)⟩ (fun H locs wl hZ hP hD hS => ?_)
    obtain ⟨hRc, hRr, hRo⟩ := hZ
    refine lv_aload_n hx hb dX2_add_58 rfl (lv_at hl 1 rfl) ?_
    refine lv_dup hx hb dX2_add_59 rfl ?_
    refine va_get (D := D) (ci := 3) (v := .int (nI (c 20 1))) (C := RX2) (T := TX2) (N := 7) hx hb hts inX2 hown hK hP 0 (Q_o hRc) rfl 1 (by decide) (hts (.fieldLink RX2 15 "BootStage" "count" "I") (by decide +kernel)) (fun _ h9 => h9) (congrArg (fun z => some (Value.int (nI z))) (show (up2 (up2 c 1 (c 20 1) t_5) 2 (c 20 1) t_12) 20 1 = c 20 1 from by simp [up2])) dX2_add_60 ?_
    refine lv_iconst (v := nI 1) hx hb dX2_add_63 (by decide) ?_
    refine n_iadd hx hb dX2_add_64 ?_
    refine x_put (D := D) (G := G) (ci := 3) (ty := .int) (C := RX2) (T := TX2) (N := 7) (Z := fun wl => Rc G (up2 (up2 (up2 c 1 (c 20 1) t_5) 2 (c 20 1) t_12) 20 1 ((c 20 1) + 1)) wl ∧ Rr G r wl ∧ Ro G o wl) hx hb hts inX2 tyX2 tyX2_ok nmX2 hown hK hP hD hS 0 (Q_o hRc) rfl 1 (by decide) (hts (.fieldLink RX2 15 "BootStage" "count" "I") (by decide +kernel)) (fun _ h9 => h9) rfl (by decide +kernel) rfl rfl (Nat.le_of_ble_eq_true rfl) dX2_add_65 ⟨P_o1 ((c 20 1) + 1) hRc, Rr_fr hRr (by decide), Ro_fr hRo (by decide)⟩ (fun H locs wl hZ hP hD hS => ?_)
    obtain ⟨hRc, hRr, hRo⟩ := hZ
    refine lv_aload_n hx hb dX2_add_68 rfl (lv_at hl 0 rfl) ?_
    refine va_get (D := D) (ci := 1) (v := .int (nI (c 20 1))) (C := RX0) (T := TX0) (N := 13) hx hb hts inX0 hown hK hP (7 + (c 20 1)) (Q_u hRc (by first | omega | decide | assumption)) rfl 0 (by decide) (hts (.fieldLink RX2 62 "BootStage$Unit" "number" "I") (by decide +kernel)) (fun _ h9 => h9) rfl dX2_add_69 ?_
    refine vx_ret ?_
    refine W.widen (k := 3) (n := 18) (Nat.le_of_ble_eq_true rfl) (Nat.le_of_ble_eq_true rfl) ?_
    have hrel : (fun (v9 : Int32) (u9 : Nat → Nat → Nat) => ∃ t k, (1 ≤ t ∧ t ≤ 100) ∧ (0 ≤ k ∧ k ≤ 3) ∧ x = nI t ∧ y = nI k ∧ c 20 1 < 20 ∧ c 20 3 = 0 ∧ v9 = nI (c 20 1) ∧ u9 = up2 (up2 (up2 c 1 (c 20 1) t) 2 (c 20 1) k) 20 1 (c 20 1 + 1)) (nI (c 20 1)) (up2 (up2 (up2 c 1 (c 20 1) t_5) 2 (c 20 1) t_12) 20 1 ((c 20 1) + 1)) := by exact ⟨t_5, t_12, ht_5, ht_12, hxt_5, hxt_12, c_21, hg_35, rfl, rfl⟩
    exact W.iret (v := nI (c 20 1)) hx hb hr (fun t ht hW => ⟨⟨_, (up2 (up2 (up2 c 1 (c 20 1) t_5) 2 (c 20 1) t_12) 20 1 ((c 20 1) + 1)), rfl, hrel, Wr_mk hRc hRr hRo hP hD ht⟩, hS.F ht⟩) hS.2.2 dX2_add_72
  · exact x_throw (cls := exS) (text := "there are 20 units") (ik := 46) (is := 48) (ic := 50) (sa := G 71) hx hb hlt hown (by decide +kernel) (hts (.classLink RX2 46 exS) (by decide +kernel)) (hts (.initialized exS) (by decide +kernel)) hE.2.2.1.2.2.1.1 (fun w h => hts w (List.mem_cons_of_mem _ (List.mem_append_left _ (List.mem_append_right _ h)))) (by decide +kernel) (by decide +kernel) hE hE.2.2.1.2.2.2.1.2.2.2.2.2 hS (hl.1.trans hml.symm) dX2_add_24 dX2_add_27 dX2_add_28 dX2_add_30 dX2_add_33 htab hlocks (Nat.le_of_ble_eq_true rfl) (Nat.le_of_ble_eq_true rfl) (Nat.le_of_ble_eq_true rfl) (Nat.le_of_ble_eq_true rfl) hRc hRr hRo hP hD (Or.inr ⟨rfl, ⟨hr_5, hr_12⟩, fun z => absurd z.1 (by omega)⟩) (Nat.le_of_ble_eq_true rfl) (Nat.le_of_ble_eq_true rfl)
set_option maxHeartbeats 4000000 in
set_option maxRecDepth 100000 in
theorem k_X2_need (l : Launch) (hlt : l.stackTraces = false) (D : va_G) (G : Nat → Nat) (h0 : Nat) (c r : Nat → Nat → Nat) (o : Nat) (x y : Int32) (hI : IC c) : vx_Met l yX2_need wsX2_need ({ frames := 7, cells := 3, slots := 18, locals := 103 } : Room) (va_Pc [.ref (G 0), .int x, .int y] (fun U => Pr D G h0 c r o U)) (va_Qi (fun (v9 : Int32) (u9 : Nat → Nat → Nat) => ∃ a b, a < c 20 1 ∧ b < c 20 1 ∧ x = nI a ∧ y = nI b ∧ ¬ Rch (eC c 0) b a ∧ c 20 3 = 0 ∧ v9 = nI (bN ((c 7 a).testBit b = true)) ∧ u9 = up2 c 7 a (c 7 a ||| 2 ^ b)) (fun (u9 : Nat → Nat → Nat) t => Wr D G h0 u9 r o t) (fun q => h0 ≤ q)) (xw D G h0 c r o (fun E => (E = exO ∧ ¬ (okU c x ∧ okU c y)) ∨ (E = exS ∧ ∃ a b, a < c 20 1 ∧ b < c 20 1 ∧ x = nI a ∧ y = nI b ∧ ¬ (¬ Rch (eC c 0) b a ∧ c 20 3 = 0)))) 3 18 (fun q => h0 ≤ q) := by
  refine vx_ofW (cc := cX2_need) (maxL := 6) (ret := (some .boolean)) (by decide) rfl ?_
  intro p e s m args below meth cd s₁ B hml htab hv
  obtain ⟨rfl, hE, wl, hRc, hRr, hRo, hP, hD⟩ := hv
  have hx := B.exec
  have hb := B.bytes
  have hr := B.returns
  have hts := atoms_spec (ws := wsX2_need) B.pre
  have hown : s.vm.findClass RX2 = some m.cls := findClass_of_methodNamed B.named
  have hlocks := B.notSynchronized
  have hK := hE.2.1
  have hS : va_S (fun q => h0 ≤ q) s.heap s.heap [] := va_S.rf
  have hl := lv_entry ([.ref (G 0), .int x, .int y]) (n := 6) (Nat.le_of_ble_eq_true rfl)
  rw [lg_entry_eq]
  generalize (lg_sl ([.ref (G 0), .int x, .int y]) ++ List.replicate (6 - (lg_sl ([.ref (G 0), .int x, .int y])).length) Slot.unset).toArray = ls at hl ⊢
  have hl : lv_has ls 6 [(0, .ref (G 0)), (1, .int x), (2, .int y)] := hl
  have inX0 : ∀ w ∈ wsX00, w ∈ wsX2_need := by decide +kernel
  have hB := IC_B hI
  have hn := IC_n hI
  have hs := IC_s hI
  refine lv_aload_n hx hb dX2_need_0 rfl (lv_at hl 0 rfl) ?_
  refine lv_iload_n hx hb dX2_need_1 rfl (lv_at hl 1 rfl) ?_
  refine yx_callr (vx_runV (As := [.int x]) (rest := []) ⟨hx, hb, hml, hown, hts⟩ (k_X2_unitAt l hlt D G h0 c r o x hn) (cwV 1 hts gX2_need_X2_unitAt rfl rfl rfl (by decide +kernel) ⟨Nat.le_of_ble_eq_true rfl, Nat.le_of_ble_eq_true rfl⟩) ⟨fun a U g mk q => ⟨q.1, Pr_cg q.2⟩, va_recv (ci := 3) (q0 := 0) hK hP rfl (Q_o hRc), fun U hU hW => ⟨rfl, Pr_mk hE hRc hRr hRo hP hD hS hU hW⟩⟩ rfl rfl hl.1 rfl (lv_room (Nat.le_of_ble_eq_true rfl)) dX2_need_2 ⟨Nat.le_of_ble_eq_true rfl, Nat.le_of_ble_eq_true rfl⟩) hS htab hlocks (fun E h => by exact Or.inl ⟨h.1, fun z => h.2 z.1⟩) (Nat.le_of_ble_eq_true rfl) (Nat.le_of_ble_eq_true rfl) (fun u9 H locs wl hp9 hRc hRr hRo hP hD hS => ?_)
  obtain ⟨hj_2, hxj_2⟩ : u9 < c 20 1 ∧ x = nI u9 := hp9
  obtain ⟨j_2, hju_2⟩ : ∃ z, z = u9 := ⟨_, rfl⟩
  rw [← hju_2] at hj_2 hxj_2 ⊢
  refine lv_astore_n (lv' := [(3, .ref (G (20 + j_2))), (0, .ref (G 0)), (1, .int x), (2, .int y)]) hx hb dX2_need_5 rfl hl (by decide) rfl (fun ls hl => ?_)
  refine lv_aload_n hx hb dX2_need_6 rfl (lv_at hl 1 rfl) ?_
  refine lv_iload_n hx hb dX2_need_7 rfl (lv_at hl 3 rfl) ?_
  refine yx_callr (vx_runV (As := [.int y]) (rest := []) ⟨hx, hb, hml, hown, hts⟩ (k_X2_unitAt l hlt D G h0 c r o y hn) (cwV 1 hts gX2_need_X2_unitAt rfl rfl rfl (by decide +kernel) ⟨Nat.le_of_ble_eq_true rfl, Nat.le_of_ble_eq_true rfl⟩) ⟨fun a U g mk q => ⟨q.1, Pr_cg q.2⟩, va_recv (ci := 3) (q0 := 0) hK hP rfl (Q_o hRc), fun U hU hW => ⟨rfl, Pr_mk hE hRc hRr hRo hP hD hS hU hW⟩⟩ rfl rfl hl.1 rfl (lv_room (Nat.le_of_ble_eq_true rfl)) dX2_need_8 ⟨Nat.le_of_ble_eq_true rfl, Nat.le_of_ble_eq_true rfl⟩) hS htab hlocks (fun E h => by exact Or.inl ⟨h.1, fun z => h.2 z.2⟩) (Nat.le_of_ble_eq_true rfl) (Nat.le_of_ble_eq_true rfl) (fun u9 H locs wl hp9 hRc hRr hRo hP hD hS => ?_)
  obtain ⟨hj_8, hxj_8⟩ : u9 < c 20 1 ∧ y = nI u9 := hp9
  obtain ⟨j_8, hju_8⟩ : ∃ z, z = u9 := ⟨_, rfl⟩
  rw [← hju_8] at hj_8 hxj_8 ⊢
  refine lv_astore (lv' := [(4, .ref (G (20 + j_8))), (3, .ref (G (20 + j_2))), (0, .ref (G 0)), (1, .int x), (2, .int y)]) hx hb dX2_need_11 hl (by decide) rfl (fun ls hl => ?_)
  refine lv_aload_n hx hb dX2_need_13 rfl (lv_at hl 2 rfl) ?_
  refine lv_aload hx hb dX2_need_14 (lv_at hl 0 rfl) ?_
  refine lv_aload_n hx hb dX2_need_16 rfl (lv_at hl 1 rfl) ?_
  refine lv_iconst (v := nI 0) hx hb dX2_need_17 (by decide) ?_
  refine y_calli (va_runV (As := [.ref (G (20 + j_8)), .ref (G (20 + j_2)), .int (nI 0)]) (rest := []) ⟨hx, hb, hml, hown, hts⟩ (k_X2_reaches l D G h0 c r o hI j_8 j_2 0 (by omega) (by omega) (by decide)) (cwV 3 hts gX2_need_X2_reaches rfl rfl rfl (by decide +kernel) ⟨Nat.le_of_ble_eq_true rfl, Nat.le_of_ble_eq_true rfl⟩) ⟨fun a U g mk q => ⟨q.1, Pr_cg q.2⟩, va_recv (ci := 3) (q0 := 0) hK hP rfl (Q_o hRc), fun U hU hW => ⟨rfl, Pr_mk hE hRc hRr hRo hP hD hS hU hW⟩⟩ rfl rfl hl.1 rfl (lv_room (Nat.le_of_ble_eq_true rfl)) dX2_need_18 ⟨Nat.le_of_ble_eq_true rfl, Nat.le_of_ble_eq_true rfl⟩) hS (fun v9 _ H locs wl hv9 hRc hRr hRo hP hD hS => ?_)
  refine n_top (y := .int (nI (bN (Rch (eC c 0) j_8 j_2)))) (congrArg Value.int hv9) ?_
  clear hv9 v9
  refine n_ifb_eq (tgt := 34) hx hb dX2_need_21 (by decide) (fun c_21 => ?_) (fun c_21 => ?_)
  · refine lv_aload_n hx hb dX2_need_34 rfl (lv_at hl 2 rfl) ?_
    refine yx_callv (vx_runV (As := []) (rest := []) ⟨hx, hb, hml, hown, hts⟩ (k_X2_checkNoStart l hlt D G h0 c r o (hB _ _ (by decide))) (cwV 0 hts gX2_need_X2_checkNoStart rfl rfl rfl (by decide +kernel) ⟨Nat.le_of_ble_eq_true rfl, Nat.le_of_ble_eq_true rfl⟩) ⟨fun a U g mk q => ⟨q.1, Pr_cg q.2⟩, va_recv (ci := 3) (q0 := 0) hK hP rfl (Q_o hRc), fun U hU hW => ⟨rfl, Pr_mk hE hRc hRr hRo hP hD hS hU hW⟩⟩ rfl rfl hl.1 rfl (lv_room (Nat.le_of_ble_eq_true rfl)) dX2_need_35 ⟨Nat.le_of_ble_eq_true rfl, Nat.le_of_ble_eq_true rfl⟩) hS htab hlocks (fun E h => by exact Or.inr ⟨h.1, j_2, j_8, hj_2, hj_8, hxj_2, hxj_8, fun z => h.2 z.2⟩) (Nat.le_of_ble_eq_true rfl) (Nat.le_of_ble_eq_true rfl) (fun u9 H locs wl hp9 hRc hRr hRo hP hD hS => ?_)
    have hg_35 : c 20 3 = 0 := hp9
    refine lv_aload_n hx hb dX2_need_38 rfl (lv_at hl 2 rfl) ?_
    refine lv_aload_n hx hb dX2_need_39 rfl (lv_at hl 1 rfl) ?_
    refine va_get (D := D) (ci := 1) (v := .int (nI (c 7 j_2))) (C := RX0) (T := TX0) (N := 13) hx hb hts inX0 hown hK hP (7 + j_2) (Q_u hRc (by first | omega | decide | assumption)) rfl 7 (by decide) (hts (.fieldLink RX2 75 "BootStage$Unit" "needs" "I") (by decide +kernel)) (fun _ h9 => h9) rfl dX2_need_40 ?_
    refine lv_aload hx hb dX2_need_43 (lv_at hl 0 rfl) ?_
    refine y_calli (va_runV (As := [.int (nI (c 7 j_2)), .ref (G (20 + j_8))]) (rest := []) ⟨hx, hb, hml, hown, hts⟩ (k_X2_contains l D G h0 c r o (c 7 j_2) j_8 (by first | omega | assumption)) (cwV 2 hts gX2_need_X2_contains rfl rfl rfl (by decide +kernel) ⟨Nat.le_of_ble_eq_true rfl, Nat.le_of_ble_eq_true rfl⟩) ⟨fun a U g mk q => ⟨q.1, Pr_cg q.2⟩, va_recv (ci := 3) (q0 := 0) hK hP rfl (Q_o hRc), fun U hU hW => ⟨rfl, Pr_mk hE hRc hRr hRo hP hD hS hU hW⟩⟩ rfl rfl hl.1 rfl (lv_room (Nat.le_of_ble_eq_true rfl)) dX2_need_45 ⟨Nat.le_of_ble_eq_true rfl, Nat.le_of_ble_eq_true rfl⟩) hS (fun v9 _ H locs wl hv9 hRc hRr hRo hP hD hS => ?_)
    refine n_top (y := .int (nI (bN (Nat.testBit (c 7 j_2) j_8 = true)))) (congrArg Value.int hv9) ?_
    clear hv9 v9
    refine lv_istore (lv' := [(5, .int (nI (bN (Nat.testBit (c 7 j_2) j_8 = true)))), (4, .ref (G (20 + j_8))), (3, .ref (G (20 + j_2))), (0, .ref (G 0)), (1, .int x), (2, .int y)]) hx hb dX2_need_48 hl (by decide) rfl (fun ls hl => ?_)
    refine lv_aload_n hx hb dX2_need_50 rfl (lv_at hl 2 rfl) ?_
    refine lv_dup hx hb dX2_need_51 rfl ?_
    refine va_get (D := D) (ci := 1) (v := .int (nI (c 7 j_2))) (C := RX0) (T := TX0) (N := 13) hx hb hts inX0 hown hK hP (7 + j_2) (Q_u hRc (by first | omega | decide | assumption)) rfl 7 (by decide) (hts (.fieldLink RX2 75 "BootStage$Unit" "needs" "I") (by decide +kernel)) (fun _ h9 => h9) rfl dX2_need_52 ?_
    refine lv_aload hx hb dX2_need_55 (lv_at hl 1 rfl) ?_
    refine y_calli (va_runV (As := []) (rest := [.int (nI (c 7 j_2)), .ref (G (20 + j_2))]) ⟨hx, hb, hml, hown, hts⟩ (k_X0_bit l D G h0 c r o j_8 (by first | omega | assumption)) (cwV 0 hts gX2_need_X0_bit rfl rfl rfl (by decide +kernel) ⟨Nat.le_of_ble_eq_true rfl, Nat.le_of_ble_eq_true rfl⟩) ⟨fun a U g mk q => ⟨q.1, Pr_cg q.2⟩, va_recv (ci := 1) (q0 := 7 + j_8) hK hP rfl (Q_u hRc (by first | omega | decide | assumption)), fun U hU hW => ⟨rfl, Pr_mk hE hRc hRr hRo hP hD hS hU hW⟩⟩ rfl rfl hl.1 rfl (lv_room (Nat.le_of_ble_eq_true rfl)) dX2_need_57 ⟨Nat.le_of_ble_eq_true rfl, Nat.le_of_ble_eq_true rfl⟩) hS (fun v9 _ H locs wl hv9 hRc hRr hRo hP hD hS => ?_)
    refine n_top (y := .int (nI (2 ^ j_8))) (congrArg Value.int hv9) ?_
    clear hv9 v9
    refine n_ior hx hb dX2_need_60 ?_
    refine x_put (D := D) (G := G) (ci := 1) (ty := .int) (C := RX0) (T := TX0) (N := 13) (Z := fun wl => Rc G (up2 c 7 j_2 ((c 7 j_2) ||| (2 ^ j_8))) wl ∧ Rr G r wl ∧ Ro G o wl) hx hb hts inX0 tyX0 tyX0_ok nmX0 hown hK hP hD hS (7 + j_2) (Q_u hRc (by first | omega | decide | assumption)) rfl 7 (by decide) (hts (.fieldLink RX2 75 "BootStage$Unit" "needs" "I") (by decide +kernel)) (fun _ h9 => h9) rfl (by decide +kernel) rfl rfl (Nat.le_of_ble_eq_true rfl) dX2_need_61 ⟨P_u7 (u := j_2) ((c 7 j_2) ||| (2 ^ j_8)) (by first | omega | decide | assumption) hRc, Rr_fr hRr (by omega), Ro_fr hRo (by omega)⟩ (fun H locs wl hZ hP hD hS => ?_)
    obtain ⟨hRc, hRr, hRo⟩ := hZ
    refine lv_iload hx hb dX2_need_64 (lv_at hl 0 rfl) ?_
    refine vx_ret ?_
    refine W.widen (k := 3) (n := 18) (Nat.le_of_ble_eq_true rfl) (Nat.le_of_ble_eq_true rfl) ?_
    have hrel : (fun (v9 : Int32) (u9 : Nat → Nat → Nat) => ∃ a b, a < c 20 1 ∧ b < c 20 1 ∧ x = nI a ∧ y = nI b ∧ ¬ Rch (eC c 0) b a ∧ c 20 3 = 0 ∧ v9 = nI (bN ((c 7 a).testBit b = true)) ∧ u9 = up2 c 7 a (c 7 a ||| 2 ^ b)) (nI (bN (Nat.testBit (c 7 j_2) j_8 = true))) (up2 c 7 j_2 ((c 7 j_2) ||| (2 ^ j_8))) := by exact ⟨j_2, j_8, hj_2, hj_8, hxj_2, hxj_8, c_21, hg_35, rfl, rfl⟩
    exact W.zret (v := nI (bN (Nat.testBit (c 7 j_2) j_8 = true))) (ty := .boolean) hx hb hr (nb_le (by first | exact bN_le _ | decide | omega | assumption)) (fun t ht hW => ⟨⟨_, (up2 c 7 j_2 ((c 7 j_2) ||| (2 ^ j_8))), rfl, hrel, Wr_mk hRc hRr hRo hP hD ht⟩, hS.F ht⟩) hS.2.2 dX2_need_66
  · exact x_throw (cls := exS) (text := "needs would make a loop") (ik := 46) (is := 73) (ic := 50) (sa := G 72) hx hb hlt hown (by decide +kernel) (hts (.classLink RX2 46 exS) (by decide +kernel)) (hts (.initialized exS) (by decide +kernel)) hE.2.2.1.2.2.1.2.1 (fun w h => hts w (List.mem_cons_of_mem _ (List.mem_append_left _ (List.mem_append_right _ h)))) (by decide +kernel) (by decide +kernel) hE hE.2.2.1.2.2.2.1.2.2.2.2.2 hS (hl.1.trans hml.symm) dX2_need_24 dX2_need_27 dX2_need_28 dX2_need_30 dX2_need_33 htab hlocks (Nat.le_of_ble_eq_true rfl) (Nat.le_of_ble_eq_true rfl) (Nat.le_of_ble_eq_true rfl) (Nat.le_of_ble_eq_true rfl) hRc hRr hRo hP hD (Or.inr ⟨rfl, j_2, j_8, hj_2, hj_8, hxj_2, hxj_8, fun z => z.1 c_21⟩) (Nat.le_of_ble_eq_true rfl) (Nat.le_of_ble_eq_true rfl)
set_option maxHeartbeats 4000000 in
set_option maxRecDepth 100000 in
theorem k_X2_hold (l : Launch) (hlt : l.stackTraces = false) (D : va_G) (G : Nat → Nat) (h0 : Nat) (c r : Nat → Nat → Nat) (o : Nat) (x : Int32) (b : Nat) (hb1 : b ≤ 1) (hI : IC c) : vx_Met l yX2_hold wsX2_hold ({ frames := 7, cells := 2, slots := 12, locals := 103 } : Room) (va_Pc [.ref (G 0), .int x, .int (nI b)] (fun U => Pr D G h0 c r o U)) (va_Qi (fun (v9 : Int32) (u9 : Nat → Nat → Nat) => ∃ a, a < c 20 1 ∧ x = nI a ∧ c 20 3 = 0 ∧ v9 = nI (c 5 a) ∧ u9 = up2 c 5 a b) (fun (u9 : Nat → Nat → Nat) t => Wr D G h0 u9 r o t) (fun q => h0 ≤ q)) (xw D G h0 c r o (fun E => (E = exO ∧ ¬ okU c x) ∨ (E = exS ∧ okU c x ∧ c 20 3 ≠ 0))) 2 12 (fun q => h0 ≤ q) := by
  refine vx_ofW (cc := cX2_hold) (maxL := 5) (ret := (some .boolean)) (by decide) rfl ?_
  intro p e s m args below meth cd s₁ B hml htab hv
  obtain ⟨rfl, hE, wl, hRc, hRr, hRo, hP, hD⟩ := hv
  have hx := B.exec
  have hb := B.bytes
  have hr := B.returns
  have hts := atoms_spec (ws := wsX2_hold) B.pre
  have hown : s.vm.findClass RX2 = some m.cls := findClass_of_methodNamed B.named
  have hlocks := B.notSynchronized
  have hK := hE.2.1
  have hS : va_S (fun q => h0 ≤ q) s.heap s.heap [] := va_S.rf
  have hl := lv_entry ([.ref (G 0), .int x, .int (nI b)]) (n := 5) (Nat.le_of_ble_eq_true rfl)
  rw [lg_entry_eq]
  generalize (lg_sl ([.ref (G 0), .int x, .int (nI b)]) ++ List.replicate (5 - (lg_sl ([.ref (G 0), .int x, .int (nI b)])).length) Slot.unset).toArray = ls at hl ⊢
  have hl : lv_has ls 5 [(0, .ref (G 0)), (1, .int x), (2, .int (nI b))] := hl
  have inX0 : ∀ w ∈ wsX00, w ∈ wsX2_hold := by decide +kernel
  have hB := IC_B hI
  have hn := IC_n hI
  have hs := IC_s hI
  have hU := IC_U hI
  refine lv_aload_n hx hb dX2_hold_0 rfl (lv_at hl 0 rfl) ?_
  refine lv_iload_n hx hb dX2_hold_1 rfl (lv_at hl 1 rfl) ?_
  refine yx_callr (vx_runV (As := [.int x]) (rest := []) ⟨hx, hb, hml, hown, hts⟩ (k_X2_unitAt l hlt D G h0 c r o x hn) (cwV 1 hts gX2_hold_X2_unitAt rfl rfl rfl (by decide +kernel) ⟨Nat.le_of_ble_eq_true rfl, Nat.le_of_ble_eq_true rfl⟩) ⟨fun a U g mk q => ⟨q.1, Pr_cg q.2⟩, va_recv (ci := 3) (q0 := 0) hK hP rfl (Q_o hRc), fun U hU hW => ⟨rfl, Pr_mk hE hRc hRr hRo hP hD hS hU hW⟩⟩ rfl rfl hl.1 rfl (lv_room (Nat.le_of_ble_eq_true rfl)) dX2_hold_2 ⟨Nat.le_of_ble_eq_true rfl, Nat.le_of_ble_eq_true rfl⟩) hS htab hlocks (fun E h => by exact Or.inl h) (Nat.le_of_ble_eq_true rfl) (Nat.le_of_ble_eq_true rfl) (fun u9 H locs wl hp9 hRc hRr hRo hP hD hS => ?_)
  obtain ⟨hj_2, hxj_2⟩ : u9 < c 20 1 ∧ x = nI u9 := hp9
  obtain ⟨j_2, hju_2⟩ : ∃ z, z = u9 := ⟨_, rfl⟩
  rw [← hju_2] at hj_2 hxj_2 ⊢
  refine lv_astore_n (lv' := [(3, .ref (G (20 + j_2))), (0, .ref (G 0)), (1, .int x), (2, .int (nI b))]) hx hb dX2_hold_5 rfl hl (by decide) rfl (fun ls hl => ?_)
  refine lv_aload_n hx hb dX2_hold_6 rfl (lv_at hl 1 rfl) ?_
  refine yx_callv (vx_runV (As := []) (rest := []) ⟨hx, hb, hml, hown, hts⟩ (k_X2_checkNoStart l hlt D G h0 c r o (hB _ _ (by decide))) (cwV 0 hts gX2_hold_X2_checkNoStart rfl rfl rfl (by decide +kernel) ⟨Nat.le_of_ble_eq_true rfl, Nat.le_of_ble_eq_true rfl⟩) ⟨fun a U g mk q => ⟨q.1, Pr_cg q.2⟩, va_recv (ci := 3) (q0 := 0) hK hP rfl (Q_o hRc), fun U hU hW => ⟨rfl, Pr_mk hE hRc hRr hRo hP hD hS hU hW⟩⟩ rfl rfl hl.1 rfl (lv_room (Nat.le_of_ble_eq_true rfl)) dX2_hold_7 ⟨Nat.le_of_ble_eq_true rfl, Nat.le_of_ble_eq_true rfl⟩) hS htab hlocks (fun E h => by exact Or.inr ⟨h.1, ⟨j_2, hj_2, hxj_2⟩, h.2⟩) (Nat.le_of_ble_eq_true rfl) (Nat.le_of_ble_eq_true rfl) (fun u9 H locs wl hp9 hRc hRr hRo hP hD hS => ?_)
  have hg_7 : c 20 3 = 0 := hp9
  refine lv_aload_n hx hb dX2_hold_10 rfl (lv_at hl 0 rfl) ?_
  refine va_get (D := D) (ci := 1) (v := .int (nI (c 5 j_2))) (C := RX0) (T := TX0) (N := 13) hx hb hts inX0 hown hK hP (7 + j_2) (Q_u hRc (by first | omega | decide | assumption)) rfl 5 (by decide) (hts (.fieldLink RX2 113 "BootStage$Unit" "isHeld" "Z") (by decide +kernel)) (fun _ h9 => h9) rfl dX2_hold_11 ?_
  refine lv_istore (lv' := [(4, .int (nI (c 5 j_2))), (3, .ref (G (20 + j_2))), (0, .ref (G 0)), (1, .int x), (2, .int (nI b))]) hx hb dX2_hold_14 hl (by decide) rfl (fun ls hl => ?_)
  refine lv_aload_n hx hb dX2_hold_16 rfl (lv_at hl 1 rfl) ?_
  refine lv_iload_n hx hb dX2_hold_17 rfl (lv_at hl 4 rfl) ?_
  refine x_put (D := D) (G := G) (ci := 1) (ty := .boolean) (C := RX0) (T := TX0) (N := 13) (Z := fun wl => Rc G (up2 c 5 j_2 b) wl ∧ Rr G r wl ∧ Ro G o wl) hx hb hts inX0 tyX0 tyX0_ok nmX0 hown hK hP hD hS (7 + j_2) (Q_u hRc (by first | omega | decide | assumption)) rfl 5 (by decide) (hts (.fieldLink RX2 113 "BootStage$Unit" "isHeld" "Z") (by decide +kernel)) (fun _ h9 => h9) rfl (by decide +kernel) (nb_le (by first | exact bN_le _ | decide | omega | assumption)) (nb_ft (by first | exact bN_le _ | decide | omega | assumption)) (Nat.le_of_ble_eq_true rfl) dX2_hold_18 ⟨P_u5 (u := j_2) b (by first | omega | decide | assumption) hRc, Rr_fr hRr (by omega), Ro_fr hRo (by omega)⟩ (fun H locs wl hZ hP hD hS => ?_)
  obtain ⟨hRc, hRr, hRo⟩ := hZ
  refine lv_iload hx hb dX2_hold_21 (lv_at hl 0 rfl) ?_
  refine vx_ret ?_
  refine W.widen (k := 2) (n := 12) (Nat.le_of_ble_eq_true rfl) (Nat.le_of_ble_eq_true rfl) ?_
  have hrel : (fun (v9 : Int32) (u9 : Nat → Nat → Nat) => ∃ a, a < c 20 1 ∧ x = nI a ∧ c 20 3 = 0 ∧ v9 = nI (c 5 a) ∧ u9 = up2 c 5 a b) (nI (c 5 j_2)) (up2 c 5 j_2 b) := by exact ⟨j_2, hj_2, hxj_2, hg_7, rfl, rfl⟩
  exact W.zret (v := nI (c 5 j_2)) (ty := .boolean) hx hb hr (nb_le (by exact (hU j_2).2.2.2.2.2.1)) (fun t ht hW => ⟨⟨_, (up2 c 5 j_2 b), rfl, hrel, Wr_mk hRc hRr hRo hP hD ht⟩, hS.F ht⟩) hS.2.2 dX2_hold_23
set_option maxHeartbeats 4000000 in
set_option maxRecDepth 100000 in
theorem k_X2_setFaults (l : Launch) (hlt : l.stackTraces = false) (D : va_G) (G : Nat → Nat) (h0 : Nat) (c r : Nat → Nat → Nat) (o : Nat) (x y : Int32) (hI : IC c) : vx_Met l yX2_setFaults wsX2_setFaults ({ frames := 7, cells := 2, slots := 12, locals := 105 } : Room) (va_Pc [.ref (G 0), .int x, .int y] (fun U => Pr D G h0 c r o U)) (va_Qi (fun (v9 : Int32) (u9 : Nat → Nat → Nat) => ∃ a t, a < c 20 1 ∧ x = nI a ∧ (0 ≤ t ∧ t ≤ 10) ∧ y = nI t ∧ v9 = nI (c 4 a) ∧ u9 = up2 c 4 a t) (fun (u9 : Nat → Nat → Nat) t => Wr D G h0 u9 r o t) (fun q => h0 ≤ q)) (xw D G h0 c r o (fun E => (E = exO ∧ ¬ okU c x) ∨ (E = exA ∧ okU c x ∧ ¬ inR y 0 10))) 2 12 (fun q => h0 ≤ q) := by
  refine vx_ofW (cc := cX2_setFaults) (maxL := 5) (ret := (some .int)) (by decide) rfl ?_
  intro p e s m args below meth cd s₁ B hml htab hv
  obtain ⟨rfl, hE, wl, hRc, hRr, hRo, hP, hD⟩ := hv
  have hx := B.exec
  have hb := B.bytes
  have hr := B.returns
  have hts := atoms_spec (ws := wsX2_setFaults) B.pre
  have hown : s.vm.findClass RX2 = some m.cls := findClass_of_methodNamed B.named
  have hlocks := B.notSynchronized
  have hK := hE.2.1
  have hS : va_S (fun q => h0 ≤ q) s.heap s.heap [] := va_S.rf
  have hl := lv_entry ([.ref (G 0), .int x, .int y]) (n := 5) (Nat.le_of_ble_eq_true rfl)
  rw [lg_entry_eq]
  generalize (lg_sl ([.ref (G 0), .int x, .int y]) ++ List.replicate (5 - (lg_sl ([.ref (G 0), .int x, .int y])).length) Slot.unset).toArray = ls at hl ⊢
  have hl : lv_has ls 5 [(0, .ref (G 0)), (1, .int x), (2, .int y)] := hl
  have inX0 : ∀ w ∈ wsX00, w ∈ wsX2_setFaults := by decide +kernel
  have hB := IC_B hI
  have hn := IC_n hI
  have hs := IC_s hI
  refine lv_aload_n hx hb dX2_setFaults_0 rfl (lv_at hl 0 rfl) ?_
  refine lv_iload_n hx hb dX2_setFaults_1 rfl (lv_at hl 1 rfl) ?_
  refine yx_callr (vx_runV (As := [.int x]) (rest := []) ⟨hx, hb, hml, hown, hts⟩ (k_X2_unitAt l hlt D G h0 c r o x hn) (cwV 1 hts gX2_setFaults_X2_unitAt rfl rfl rfl (by decide +kernel) ⟨Nat.le_of_ble_eq_true rfl, Nat.le_of_ble_eq_true rfl⟩) ⟨fun a U g mk q => ⟨q.1, Pr_cg q.2⟩, va_recv (ci := 3) (q0 := 0) hK hP rfl (Q_o hRc), fun U hU hW => ⟨rfl, Pr_mk hE hRc hRr hRo hP hD hS hU hW⟩⟩ rfl rfl hl.1 rfl (lv_room (Nat.le_of_ble_eq_true rfl)) dX2_setFaults_2 ⟨Nat.le_of_ble_eq_true rfl, Nat.le_of_ble_eq_true rfl⟩) hS htab hlocks (fun E h => by exact Or.inl h) (Nat.le_of_ble_eq_true rfl) (Nat.le_of_ble_eq_true rfl) (fun u9 H locs wl hp9 hRc hRr hRo hP hD hS => ?_)
  obtain ⟨hj_2, hxj_2⟩ : u9 < c 20 1 ∧ x = nI u9 := hp9
  obtain ⟨j_2, hju_2⟩ : ∃ z, z = u9 := ⟨_, rfl⟩
  rw [← hju_2] at hj_2 hxj_2 ⊢
  refine lv_astore_n (lv' := [(3, .ref (G (20 + j_2))), (0, .ref (G 0)), (1, .int x), (2, .int y)]) hx hb dX2_setFaults_5 rfl hl (by decide) rfl (fun ls hl => ?_)
  refine lv_aload_n hx hb dX2_setFaults_6 rfl (lv_at hl 1 rfl) ?_
  refine lv_iload_n hx hb dX2_setFaults_7 rfl (lv_at hl 3 rfl) ?_
  refine lv_iconst (v := nI 0) hx hb dX2_setFaults_8 (by decide) ?_
  refine lv_bipush (v := nI 10) hx hb dX2_setFaults_9 (by decide) ?_
  refine yx_callv (vx_runV (As := [.int y, .int (nI 0), .int (nI 10)]) (rest := []) ⟨hx, hb, hml, hown, hts⟩ (k_X2_checkRange l hlt D G h0 c r o y 0 10) (cwV 3 hts gX2_setFaults_X2_checkRange rfl rfl rfl (by decide +kernel) ⟨Nat.le_of_ble_eq_true rfl, Nat.le_of_ble_eq_true rfl⟩) ⟨fun a U g mk q => ⟨q.1, Pr_cg q.2⟩, va_recv (ci := 3) (q0 := 0) hK hP rfl (Q_o hRc), fun U hU hW => ⟨rfl, Pr_mk hE hRc hRr hRo hP hD hS hU hW⟩⟩ rfl rfl hl.1 rfl (lv_room (Nat.le_of_ble_eq_true rfl)) dX2_setFaults_11 ⟨Nat.le_of_ble_eq_true rfl, Nat.le_of_ble_eq_true rfl⟩) hS htab hlocks (fun E h => by exact Or.inr ⟨h.1, ⟨j_2, hj_2, hxj_2⟩, h.2⟩) (Nat.le_of_ble_eq_true rfl) (Nat.le_of_ble_eq_true rfl) (fun u9 H locs wl hp9 hRc hRr hRo hP hD hS => ?_)
  have hr_11 : inR y 0 10 := hp9
  obtain ⟨t_11, ht_11, hxt_11⟩ := inR_nI hr_11 (by decide) (by decide)
  refine lv_aload_n hx hb dX2_setFaults_14 rfl (lv_at hl 0 rfl) ?_
  refine va_get (D := D) (ci := 1) (v := .int (nI (c 4 j_2))) (C := RX0) (T := TX0) (N := 13) hx hb hts inX0 hown hK hP (7 + j_2) (Q_u hRc (by first | omega | decide | assumption)) rfl 4 (by decide) (hts (.fieldLink RX2 116 "BootStage$Unit" "faults" "I") (by decide +kernel)) (fun _ h9 => h9) rfl dX2_setFaults_15 ?_
  refine lv_istore (lv' := [(4, .int (nI (c 4 j_2))), (3, .ref (G (20 + j_2))), (0, .ref (G 0)), (1, .int x), (2, .int y)]) hx hb dX2_setFaults_18 hl (by decide) rfl (fun ls hl => ?_)
  refine lv_aload_n hx hb dX2_setFaults_20 rfl (lv_at hl 1 rfl) ?_
  refine lv_iload_n hx hb dX2_setFaults_21 rfl (lv_at hl 4 rfl) ?_
  refine n_top (y := .int (nI t_11)) (congrArg Value.int hxt_11) ?_
  refine x_put (D := D) (G := G) (ci := 1) (ty := .int) (C := RX0) (T := TX0) (N := 13) (Z := fun wl => Rc G (up2 c 4 j_2 t_11) wl ∧ Rr G r wl ∧ Ro G o wl) hx hb hts inX0 tyX0 tyX0_ok nmX0 hown hK hP hD hS (7 + j_2) (Q_u hRc (by first | omega | decide | assumption)) rfl 4 (by decide) (hts (.fieldLink RX2 116 "BootStage$Unit" "faults" "I") (by decide +kernel)) (fun _ h9 => h9) rfl (by decide +kernel) rfl rfl (Nat.le_of_ble_eq_true rfl) dX2_setFaults_22 ⟨P_u4 (u := j_2) t_11 (by first | omega | decide | assumption) hRc, Rr_fr hRr (by omega), Ro_fr hRo (by omega)⟩ (fun H locs wl hZ hP hD hS => ?_)
  obtain ⟨hRc, hRr, hRo⟩ := hZ
  refine lv_iload hx hb dX2_setFaults_25 (lv_at hl 0 rfl) ?_
  refine vx_ret ?_
  refine W.widen (k := 2) (n := 12) (Nat.le_of_ble_eq_true rfl) (Nat.le_of_ble_eq_true rfl) ?_
  have hrel : (fun (v9 : Int32) (u9 : Nat → Nat → Nat) => ∃ a t, a < c 20 1 ∧ x = nI a ∧ (0 ≤ t ∧ t ≤ 10) ∧ y = nI t ∧ v9 = nI (c 4 a) ∧ u9 = up2 c 4 a t) (nI (c 4 j_2)) (up2 c 4 j_2 t_11) := by exact ⟨j_2, t_11, hj_2, hxj_2, ht_11, hxt_11, rfl, rfl⟩
  exact W.iret (v := nI (c 4 j_2)) hx hb hr (fun t ht hW => ⟨⟨_, (up2 c 4 j_2 t_11), rfl, hrel, Wr_mk hRc hRr hRo hP hD ht⟩, hS.F ht⟩) hS.2.2 dX2_setFaults_27
set_option maxHeartbeats 4000000 in
set_option maxRecDepth 100000 in
theorem k_X2_setTime (l : Launch) (hlt : l.stackTraces = false) (D : va_G) (G : Nat → Nat) (h0 : Nat) (c r : Nat → Nat → Nat) (o : Nat) (x y : Int32) (hI : IC c) : vx_Met l yX2_setTime wsX2_setTime ({ frames := 7, cells := 2, slots := 12, locals := 105 } : Room) (va_Pc [.ref (G 0), .int x, .int y] (fun U => Pr D G h0 c r o U)) (va_Qi (fun (v9 : Int32) (u9 : Nat → Nat → Nat) => ∃ a t, a < c 20 1 ∧ x = nI a ∧ (1 ≤ t ∧ t ≤ 100) ∧ y = nI t ∧ v9 = nI (c 1 a) ∧ u9 = up2 c 1 a t) (fun (u9 : Nat → Nat → Nat) t => Wr D G h0 u9 r o t) (fun q => h0 ≤ q)) (xw D G h0 c r o (fun E => (E = exO ∧ ¬ okU c x) ∨ (E = exA ∧ okU c x ∧ ¬ inR y 1 100))) 2 12 (fun q => h0 ≤ q) := by
  refine vx_ofW (cc := cX2_setTime) (maxL := 5) (ret := (some .int)) (by decide) rfl ?_
  intro p e s m args below meth cd s₁ B hml htab hv
  obtain ⟨rfl, hE, wl, hRc, hRr, hRo, hP, hD⟩ := hv
  have hx := B.exec
  have hb := B.bytes
  have hr := B.returns
  have hts := atoms_spec (ws := wsX2_setTime) B.pre
  have hown : s.vm.findClass RX2 = some m.cls := findClass_of_methodNamed B.named
  have hlocks := B.notSynchronized
  have hK := hE.2.1
  have hS : va_S (fun q => h0 ≤ q) s.heap s.heap [] := va_S.rf
  have hl := lv_entry ([.ref (G 0), .int x, .int y]) (n := 5) (Nat.le_of_ble_eq_true rfl)
  rw [lg_entry_eq]
  generalize (lg_sl ([.ref (G 0), .int x, .int y]) ++ List.replicate (5 - (lg_sl ([.ref (G 0), .int x, .int y])).length) Slot.unset).toArray = ls at hl ⊢
  have hl : lv_has ls 5 [(0, .ref (G 0)), (1, .int x), (2, .int y)] := hl
  have inX0 : ∀ w ∈ wsX00, w ∈ wsX2_setTime := by decide +kernel
  have hB := IC_B hI
  have hn := IC_n hI
  have hs := IC_s hI
  refine lv_aload_n hx hb dX2_setTime_0 rfl (lv_at hl 0 rfl) ?_
  refine lv_iload_n hx hb dX2_setTime_1 rfl (lv_at hl 1 rfl) ?_
  refine yx_callr (vx_runV (As := [.int x]) (rest := []) ⟨hx, hb, hml, hown, hts⟩ (k_X2_unitAt l hlt D G h0 c r o x hn) (cwV 1 hts gX2_setTime_X2_unitAt rfl rfl rfl (by decide +kernel) ⟨Nat.le_of_ble_eq_true rfl, Nat.le_of_ble_eq_true rfl⟩) ⟨fun a U g mk q => ⟨q.1, Pr_cg q.2⟩, va_recv (ci := 3) (q0 := 0) hK hP rfl (Q_o hRc), fun U hU hW => ⟨rfl, Pr_mk hE hRc hRr hRo hP hD hS hU hW⟩⟩ rfl rfl hl.1 rfl (lv_room (Nat.le_of_ble_eq_true rfl)) dX2_setTime_2 ⟨Nat.le_of_ble_eq_true rfl, Nat.le_of_ble_eq_true rfl⟩) hS htab hlocks (fun E h => by exact Or.inl h) (Nat.le_of_ble_eq_true rfl) (Nat.le_of_ble_eq_true rfl) (fun u9 H locs wl hp9 hRc hRr hRo hP hD hS => ?_)
  obtain ⟨hj_2, hxj_2⟩ : u9 < c 20 1 ∧ x = nI u9 := hp9
  obtain ⟨j_2, hju_2⟩ : ∃ z, z = u9 := ⟨_, rfl⟩
  rw [← hju_2] at hj_2 hxj_2 ⊢
  refine lv_astore_n (lv' := [(3, .ref (G (20 + j_2))), (0, .ref (G 0)), (1, .int x), (2, .int y)]) hx hb dX2_setTime_5 rfl hl (by decide) rfl (fun ls hl => ?_)
  refine lv_aload_n hx hb dX2_setTime_6 rfl (lv_at hl 1 rfl) ?_
  refine lv_iload_n hx hb dX2_setTime_7 rfl (lv_at hl 3 rfl) ?_
  refine lv_iconst (v := nI 1) hx hb dX2_setTime_8 (by decide) ?_
  refine lv_bipush (v := nI 100) hx hb dX2_setTime_9 (by decide) ?_
  refine yx_callv (vx_runV (As := [.int y, .int (nI 1), .int (nI 100)]) (rest := []) ⟨hx, hb, hml, hown, hts⟩ (k_X2_checkRange l hlt D G h0 c r o y 1 100) (cwV 3 hts gX2_setTime_X2_checkRange rfl rfl rfl (by decide +kernel) ⟨Nat.le_of_ble_eq_true rfl, Nat.le_of_ble_eq_true rfl⟩) ⟨fun a U g mk q => ⟨q.1, Pr_cg q.2⟩, va_recv (ci := 3) (q0 := 0) hK hP rfl (Q_o hRc), fun U hU hW => ⟨rfl, Pr_mk hE hRc hRr hRo hP hD hS hU hW⟩⟩ rfl rfl hl.1 rfl (lv_room (Nat.le_of_ble_eq_true rfl)) dX2_setTime_11 ⟨Nat.le_of_ble_eq_true rfl, Nat.le_of_ble_eq_true rfl⟩) hS htab hlocks (fun E h => by exact Or.inr ⟨h.1, ⟨j_2, hj_2, hxj_2⟩, h.2⟩) (Nat.le_of_ble_eq_true rfl) (Nat.le_of_ble_eq_true rfl) (fun u9 H locs wl hp9 hRc hRr hRo hP hD hS => ?_)
  have hr_11 : inR y 1 100 := hp9
  obtain ⟨t_11, ht_11, hxt_11⟩ := inR_nI hr_11 (by decide) (by decide)
  refine lv_aload_n hx hb dX2_setTime_14 rfl (lv_at hl 0 rfl) ?_
  refine va_get (D := D) (ci := 1) (v := .int (nI (c 1 j_2))) (C := RX0) (T := TX0) (N := 13) hx hb hts inX0 hown hK hP (7 + j_2) (Q_u hRc (by first | omega | decide | assumption)) rfl 1 (by decide) (hts (.fieldLink RX2 56 "BootStage$Unit" "time" "I") (by decide +kernel)) (fun _ h9 => h9) rfl dX2_setTime_15 ?_
  refine lv_istore (lv' := [(4, .int (nI (c 1 j_2))), (3, .ref (G (20 + j_2))), (0, .ref (G 0)), (1, .int x), (2, .int y)]) hx hb dX2_setTime_18 hl (by decide) rfl (fun ls hl => ?_)
  refine lv_aload_n hx hb dX2_setTime_20 rfl (lv_at hl 1 rfl) ?_
  refine lv_iload_n hx hb dX2_setTime_21 rfl (lv_at hl 4 rfl) ?_
  refine n_top (y := .int (nI t_11)) (congrArg Value.int hxt_11) ?_
  refine x_put (D := D) (G := G) (ci := 1) (ty := .int) (C := RX0) (T := TX0) (N := 13) (Z := fun wl => Rc G (up2 c 1 j_2 t_11) wl ∧ Rr G r wl ∧ Ro G o wl) hx hb hts inX0 tyX0 tyX0_ok nmX0 hown hK hP hD hS (7 + j_2) (Q_u hRc (by first | omega | decide | assumption)) rfl 1 (by decide) (hts (.fieldLink RX2 56 "BootStage$Unit" "time" "I") (by decide +kernel)) (fun _ h9 => h9) rfl (by decide +kernel) rfl rfl (Nat.le_of_ble_eq_true rfl) dX2_setTime_22 ⟨P_u1 (u := j_2) t_11 (by first | omega | decide | assumption) hRc, Rr_fr hRr (by omega), Ro_fr hRo (by omega)⟩ (fun H locs wl hZ hP hD hS => ?_)
  obtain ⟨hRc, hRr, hRo⟩ := hZ
  refine lv_iload hx hb dX2_setTime_25 (lv_at hl 0 rfl) ?_
  refine vx_ret ?_
  refine W.widen (k := 2) (n := 12) (Nat.le_of_ble_eq_true rfl) (Nat.le_of_ble_eq_true rfl) ?_
  have hrel : (fun (v9 : Int32) (u9 : Nat → Nat → Nat) => ∃ a t, a < c 20 1 ∧ x = nI a ∧ (1 ≤ t ∧ t ≤ 100) ∧ y = nI t ∧ v9 = nI (c 1 a) ∧ u9 = up2 c 1 a t) (nI (c 1 j_2)) (up2 c 1 j_2 t_11) := by exact ⟨j_2, t_11, hj_2, hxj_2, ht_11, hxt_11, rfl, rfl⟩
  exact W.iret (v := nI (c 1 j_2)) hx hb hr (fun t ht hW => ⟨⟨_, (up2 c 1 j_2 t_11), rfl, hrel, Wr_mk hRc hRr hRo hP hD ht⟩, hS.F ht⟩) hS.2.2 dX2_setTime_27
set_option maxHeartbeats 4000000 in
set_option maxRecDepth 100000 in
theorem k_X2_learned (l : Launch) (hlt : l.stackTraces = false) (D : va_G) (G : Nat → Nat) (h0 : Nat) (c r : Nat → Nat → Nat) (o : Nat) (x : Int32) (hI : IC c) : vx_Met l yX2_learned wsX2_learned ({ frames := 7, cells := 1, slots := 6, locals := 103 } : Room) (va_Pc [.ref (G 0), .int x] (fun U => Pr D G h0 c r o U)) (va_Qi (fun (v9 : Int32) (u9 : Nat → Nat → Nat) => ∃ a, a < c 20 1 ∧ x = nI a ∧ v9 = nI (c 3 a) ∧ u9 = c) (fun (u9 : Nat → Nat → Nat) t => Wr D G h0 u9 r o t) (fun q => h0 ≤ q)) (xw D G h0 c r o (fun E => E = exO ∧ ¬ okU c x)) 1 6 (fun q => h0 ≤ q) := by
  refine vx_ofW (cc := cX2_learned) (maxL := 2) (ret := (some .int)) (by decide) rfl ?_
  intro p e s m args below meth cd s₁ B hml htab hv
  obtain ⟨rfl, hE, wl, hRc, hRr, hRo, hP, hD⟩ := hv
  have hx := B.exec
  have hb := B.bytes
  have hr := B.returns
  have hts := atoms_spec (ws := wsX2_learned) B.pre
  have hown : s.vm.findClass RX2 = some m.cls := findClass_of_methodNamed B.named
  have hlocks := B.notSynchronized
  have hK := hE.2.1
  have hS : va_S (fun q => h0 ≤ q) s.heap s.heap [] := va_S.rf
  have hl := lv_entry ([.ref (G 0), .int x]) (n := 2) (Nat.le_of_ble_eq_true rfl)
  rw [lg_entry_eq]
  generalize (lg_sl ([.ref (G 0), .int x]) ++ List.replicate (2 - (lg_sl ([.ref (G 0), .int x])).length) Slot.unset).toArray = ls at hl ⊢
  have hl : lv_has ls 2 [(0, .ref (G 0)), (1, .int x)] := hl
  have inX0 : ∀ w ∈ wsX00, w ∈ wsX2_learned := by decide +kernel
  have hB := IC_B hI
  have hn := IC_n hI
  have hs := IC_s hI
  refine lv_aload_n hx hb dX2_learned_0 rfl (lv_at hl 0 rfl) ?_
  refine lv_iload_n hx hb dX2_learned_1 rfl (lv_at hl 1 rfl) ?_
  refine yx_callr (vx_runV (As := [.int x]) (rest := []) ⟨hx, hb, hml, hown, hts⟩ (k_X2_unitAt l hlt D G h0 c r o x hn) (cwV 1 hts gX2_learned_X2_unitAt rfl rfl rfl (by decide +kernel) ⟨Nat.le_of_ble_eq_true rfl, Nat.le_of_ble_eq_true rfl⟩) ⟨fun a U g mk q => ⟨q.1, Pr_cg q.2⟩, va_recv (ci := 3) (q0 := 0) hK hP rfl (Q_o hRc), fun U hU hW => ⟨rfl, Pr_mk hE hRc hRr hRo hP hD hS hU hW⟩⟩ rfl rfl hl.1 rfl (lv_room (Nat.le_of_ble_eq_true rfl)) dX2_learned_2 ⟨Nat.le_of_ble_eq_true rfl, Nat.le_of_ble_eq_true rfl⟩) hS htab hlocks (fun E h => by exact h) (Nat.le_of_ble_eq_true rfl) (Nat.le_of_ble_eq_true rfl) (fun u9 H locs wl hp9 hRc hRr hRo hP hD hS => ?_)
  obtain ⟨hj_2, hxj_2⟩ : u9 < c 20 1 ∧ x = nI u9 := hp9
  obtain ⟨j_2, hju_2⟩ : ∃ z, z = u9 := ⟨_, rfl⟩
  rw [← hju_2] at hj_2 hxj_2 ⊢
  refine va_get (D := D) (ci := 1) (v := .int (nI (c 3 j_2))) (C := RX0) (T := TX0) (N := 13) hx hb hts inX0 hown hK hP (7 + j_2) (Q_u hRc (by first | omega | decide | assumption)) rfl 3 (by decide) (hts (.fieldLink RX2 119 "BootStage$Unit" "learned" "I") (by decide +kernel)) (fun _ h9 => h9) rfl dX2_learned_5 ?_
  refine vx_ret ?_
  refine W.widen (k := 1) (n := 6) (Nat.le_of_ble_eq_true rfl) (Nat.le_of_ble_eq_true rfl) ?_
  have hrel : (fun (v9 : Int32) (u9 : Nat → Nat → Nat) => ∃ a, a < c 20 1 ∧ x = nI a ∧ v9 = nI (c 3 a) ∧ u9 = c) (nI (c 3 j_2)) c := by exact ⟨j_2, hj_2, hxj_2, rfl, rfl⟩
  exact W.iret (v := nI (c 3 j_2)) hx hb hr (fun t ht hW => ⟨⟨_, c, rfl, hrel, Wr_mk hRc hRr hRo hP hD ht⟩, hS.F ht⟩) hS.2.2 dX2_learned_8
set_option maxHeartbeats 4000000 in
set_option maxRecDepth 100000 in
theorem k_X2_faults (l : Launch) (hlt : l.stackTraces = false) (D : va_G) (G : Nat → Nat) (h0 : Nat) (c r : Nat → Nat → Nat) (o : Nat) (x : Int32) (hI : IC c) : vx_Met l yX2_faults wsX2_faults ({ frames := 7, cells := 1, slots := 6, locals := 103 } : Room) (va_Pc [.ref (G 0), .int x] (fun U => Pr D G h0 c r o U)) (va_Qi (fun (v9 : Int32) (u9 : Nat → Nat → Nat) => ∃ a, a < c 20 1 ∧ x = nI a ∧ v9 = nI (c 4 a) ∧ u9 = c) (fun (u9 : Nat → Nat → Nat) t => Wr D G h0 u9 r o t) (fun q => h0 ≤ q)) (xw D G h0 c r o (fun E => E = exO ∧ ¬ okU c x)) 1 6 (fun q => h0 ≤ q) := by
  refine vx_ofW (cc := cX2_faults) (maxL := 2) (ret := (some .int)) (by decide) rfl ?_
  intro p e s m args below meth cd s₁ B hml htab hv
  obtain ⟨rfl, hE, wl, hRc, hRr, hRo, hP, hD⟩ := hv
  have hx := B.exec
  have hb := B.bytes
  have hr := B.returns
  have hts := atoms_spec (ws := wsX2_faults) B.pre
  have hown : s.vm.findClass RX2 = some m.cls := findClass_of_methodNamed B.named
  have hlocks := B.notSynchronized
  have hK := hE.2.1
  have hS : va_S (fun q => h0 ≤ q) s.heap s.heap [] := va_S.rf
  have hl := lv_entry ([.ref (G 0), .int x]) (n := 2) (Nat.le_of_ble_eq_true rfl)
  rw [lg_entry_eq]
  generalize (lg_sl ([.ref (G 0), .int x]) ++ List.replicate (2 - (lg_sl ([.ref (G 0), .int x])).length) Slot.unset).toArray = ls at hl ⊢
  have hl : lv_has ls 2 [(0, .ref (G 0)), (1, .int x)] := hl
  have inX0 : ∀ w ∈ wsX00, w ∈ wsX2_faults := by decide +kernel
  have hB := IC_B hI
  have hn := IC_n hI
  have hs := IC_s hI
  refine lv_aload_n hx hb dX2_faults_0 rfl (lv_at hl 0 rfl) ?_
  refine lv_iload_n hx hb dX2_faults_1 rfl (lv_at hl 1 rfl) ?_
  refine yx_callr (vx_runV (As := [.int x]) (rest := []) ⟨hx, hb, hml, hown, hts⟩ (k_X2_unitAt l hlt D G h0 c r o x hn) (cwV 1 hts gX2_faults_X2_unitAt rfl rfl rfl (by decide +kernel) ⟨Nat.le_of_ble_eq_true rfl, Nat.le_of_ble_eq_true rfl⟩) ⟨fun a U g mk q => ⟨q.1, Pr_cg q.2⟩, va_recv (ci := 3) (q0 := 0) hK hP rfl (Q_o hRc), fun U hU hW => ⟨rfl, Pr_mk hE hRc hRr hRo hP hD hS hU hW⟩⟩ rfl rfl hl.1 rfl (lv_room (Nat.le_of_ble_eq_true rfl)) dX2_faults_2 ⟨Nat.le_of_ble_eq_true rfl, Nat.le_of_ble_eq_true rfl⟩) hS htab hlocks (fun E h => by exact h) (Nat.le_of_ble_eq_true rfl) (Nat.le_of_ble_eq_true rfl) (fun u9 H locs wl hp9 hRc hRr hRo hP hD hS => ?_)
  obtain ⟨hj_2, hxj_2⟩ : u9 < c 20 1 ∧ x = nI u9 := hp9
  obtain ⟨j_2, hju_2⟩ : ∃ z, z = u9 := ⟨_, rfl⟩
  rw [← hju_2] at hj_2 hxj_2 ⊢
  refine va_get (D := D) (ci := 1) (v := .int (nI (c 4 j_2))) (C := RX0) (T := TX0) (N := 13) hx hb hts inX0 hown hK hP (7 + j_2) (Q_u hRc (by first | omega | decide | assumption)) rfl 4 (by decide) (hts (.fieldLink RX2 116 "BootStage$Unit" "faults" "I") (by decide +kernel)) (fun _ h9 => h9) rfl dX2_faults_5 ?_
  refine vx_ret ?_
  refine W.widen (k := 1) (n := 6) (Nat.le_of_ble_eq_true rfl) (Nat.le_of_ble_eq_true rfl) ?_
  have hrel : (fun (v9 : Int32) (u9 : Nat → Nat → Nat) => ∃ a, a < c 20 1 ∧ x = nI a ∧ v9 = nI (c 4 a) ∧ u9 = c) (nI (c 4 j_2)) c := by exact ⟨j_2, hj_2, hxj_2, rfl, rfl⟩
  exact W.iret (v := nI (c 4 j_2)) hx hb hr (fun t ht hW => ⟨⟨_, c, rfl, hrel, Wr_mk hRc hRr hRo hP hD ht⟩, hS.F ht⟩) hS.2.2 dX2_faults_8
set_option maxHeartbeats 4000000 in
set_option maxRecDepth 100000 in
theorem k_X2_state (l : Launch) (hlt : l.stackTraces = false) (D : va_G) (G : Nat → Nat) (h0 : Nat) (c r : Nat → Nat → Nat) (o : Nat) (x : Int32) (hI : IC c) : vx_Met l yX2_state wsX2_state ({ frames := 7, cells := 1, slots := 6, locals := 103 } : Room) (va_Pc [.ref (G 0), .int x] (fun U => Pr D G h0 c r o U)) (va_Qi (fun (v9 : Int32) (u9 : Nat → Nat → Nat) => ∃ a, a < c 20 1 ∧ x = nI a ∧ v9 = nI (c 9 a) ∧ u9 = c) (fun (u9 : Nat → Nat → Nat) t => Wr D G h0 u9 r o t) (fun q => h0 ≤ q)) (xw D G h0 c r o (fun E => E = exO ∧ ¬ okU c x)) 1 6 (fun q => h0 ≤ q) := by
  refine vx_ofW (cc := cX2_state) (maxL := 2) (ret := (some .int)) (by decide) rfl ?_
  intro p e s m args below meth cd s₁ B hml htab hv
  obtain ⟨rfl, hE, wl, hRc, hRr, hRo, hP, hD⟩ := hv
  have hx := B.exec
  have hb := B.bytes
  have hr := B.returns
  have hts := atoms_spec (ws := wsX2_state) B.pre
  have hown : s.vm.findClass RX2 = some m.cls := findClass_of_methodNamed B.named
  have hlocks := B.notSynchronized
  have hK := hE.2.1
  have hS : va_S (fun q => h0 ≤ q) s.heap s.heap [] := va_S.rf
  have hl := lv_entry ([.ref (G 0), .int x]) (n := 2) (Nat.le_of_ble_eq_true rfl)
  rw [lg_entry_eq]
  generalize (lg_sl ([.ref (G 0), .int x]) ++ List.replicate (2 - (lg_sl ([.ref (G 0), .int x])).length) Slot.unset).toArray = ls at hl ⊢
  have hl : lv_has ls 2 [(0, .ref (G 0)), (1, .int x)] := hl
  have inX0 : ∀ w ∈ wsX00, w ∈ wsX2_state := by decide +kernel
  have hB := IC_B hI
  have hn := IC_n hI
  have hs := IC_s hI
  refine lv_aload_n hx hb dX2_state_0 rfl (lv_at hl 0 rfl) ?_
  refine lv_iload_n hx hb dX2_state_1 rfl (lv_at hl 1 rfl) ?_
  refine yx_callr (vx_runV (As := [.int x]) (rest := []) ⟨hx, hb, hml, hown, hts⟩ (k_X2_unitAt l hlt D G h0 c r o x hn) (cwV 1 hts gX2_state_X2_unitAt rfl rfl rfl (by decide +kernel) ⟨Nat.le_of_ble_eq_true rfl, Nat.le_of_ble_eq_true rfl⟩) ⟨fun a U g mk q => ⟨q.1, Pr_cg q.2⟩, va_recv (ci := 3) (q0 := 0) hK hP rfl (Q_o hRc), fun U hU hW => ⟨rfl, Pr_mk hE hRc hRr hRo hP hD hS hU hW⟩⟩ rfl rfl hl.1 rfl (lv_room (Nat.le_of_ble_eq_true rfl)) dX2_state_2 ⟨Nat.le_of_ble_eq_true rfl, Nat.le_of_ble_eq_true rfl⟩) hS htab hlocks (fun E h => by exact h) (Nat.le_of_ble_eq_true rfl) (Nat.le_of_ble_eq_true rfl) (fun u9 H locs wl hp9 hRc hRr hRo hP hD hS => ?_)
  obtain ⟨hj_2, hxj_2⟩ : u9 < c 20 1 ∧ x = nI u9 := hp9
  obtain ⟨j_2, hju_2⟩ : ∃ z, z = u9 := ⟨_, rfl⟩
  rw [← hju_2] at hj_2 hxj_2 ⊢
  refine va_get (D := D) (ci := 1) (v := .int (nI (c 9 j_2))) (C := RX0) (T := TX0) (N := 13) hx hb hts inX0 hown hK hP (7 + j_2) (Q_u hRc (by first | omega | decide | assumption)) rfl 9 (by decide) (hts (.fieldLink RX2 136 "BootStage$Unit" "state" "I") (by decide +kernel)) (fun _ h9 => h9) rfl dX2_state_5 ?_
  refine vx_ret ?_
  refine W.widen (k := 1) (n := 6) (Nat.le_of_ble_eq_true rfl) (Nat.le_of_ble_eq_true rfl) ?_
  have hrel : (fun (v9 : Int32) (u9 : Nat → Nat → Nat) => ∃ a, a < c 20 1 ∧ x = nI a ∧ v9 = nI (c 9 a) ∧ u9 = c) (nI (c 9 j_2)) c := by exact ⟨j_2, hj_2, hxj_2, rfl, rfl⟩
  exact W.iret (v := nI (c 9 j_2)) hx hb hr (fun t ht hW => ⟨⟨_, c, rfl, hrel, Wr_mk hRc hRr hRo hP hD ht⟩, hS.F ht⟩) hS.2.2 dX2_state_8
set_option maxHeartbeats 4000000 in
set_option maxRecDepth 100000 in
theorem k_X2_standIn (l : Launch) (hlt : l.stackTraces = false) (D : va_G) (G : Nat → Nat) (h0 : Nat) (c r : Nat → Nat → Nat) (o : Nat) (x y : Int32) (hI : IC c) : vx_Met l yX2_standIn wsX2_standIn ({ frames := 7, cells := 4, slots := 24, locals := 104 } : Room) (va_Pc [.ref (G 0), .int x, .int y] (fun U => Pr D G h0 c r o U)) (va_Qi (fun (v9 : Int32) (u9 : Nat → Nat → Nat) => ∃ a k, a < c 20 1 ∧ x = nI a ∧ (k = 0 ∧ y = -1 ∨ ∃ b, b < c 20 1 ∧ y = nI b ∧ b ≠ a ∧ k = b + 1) ∧ c 20 3 = 0 ∧ v9 = siI (c 6 a) ∧ u9 = up2 c 6 a k) (fun (u9 : Nat → Nat → Nat) t => Wr D G h0 u9 r o t) (fun q => h0 ≤ q)) (xw D G h0 c r o (fun E => (E = exO ∧ ¬ (okU c x ∧ (y = -1 ∨ okU c y))) ∨ (E = exA ∧ okU c x ∧ okU c y ∧ x = y) ∨ (E = exS ∧ okU c x ∧ (y = -1 ∨ okU c y) ∧ x ≠ y ∧ c 20 3 ≠ 0))) 4 24 (fun q => h0 ≤ q) := by
  refine vx_ofW (cc := cX2_standIn) (maxL := 6) (ret := (some .int)) (by decide) rfl ?_
  intro p e s m args below meth cd s₁ B hml htab hv
  obtain ⟨rfl, hE, wl, hRc, hRr, hRo, hP, hD⟩ := hv
  have hx := B.exec
  have hb := B.bytes
  have hr := B.returns
  have hts := atoms_spec (ws := wsX2_standIn) B.pre
  have hown : s.vm.findClass RX2 = some m.cls := findClass_of_methodNamed B.named
  have hlocks := B.notSynchronized
  have hK := hE.2.1
  have hS : va_S (fun q => h0 ≤ q) s.heap s.heap [] := va_S.rf
  have hl := lv_entry ([.ref (G 0), .int x, .int y]) (n := 6) (Nat.le_of_ble_eq_true rfl)
  rw [lg_entry_eq]
  generalize (lg_sl ([.ref (G 0), .int x, .int y]) ++ List.replicate (6 - (lg_sl ([.ref (G 0), .int x, .int y])).length) Slot.unset).toArray = ls at hl ⊢
  have hl : lv_has ls 6 [(0, .ref (G 0)), (1, .int x), (2, .int y)] := hl
  have inX0 : ∀ w ∈ wsX00, w ∈ wsX2_standIn := by decide +kernel
  have hB := IC_B hI
  have hn := IC_n hI
  have hs := IC_s hI
  refine lv_aload_n hx hb dX2_standIn_0 rfl (lv_at hl 0 rfl) ?_
  refine lv_iload_n hx hb dX2_standIn_1 rfl (lv_at hl 1 rfl) ?_
  refine yx_callr (vx_runV (As := [.int x]) (rest := []) ⟨hx, hb, hml, hown, hts⟩ (k_X2_unitAt l hlt D G h0 c r o x hn) (cwV 1 hts gX2_standIn_X2_unitAt rfl rfl rfl (by decide +kernel) ⟨Nat.le_of_ble_eq_true rfl, Nat.le_of_ble_eq_true rfl⟩) ⟨fun a U g mk q => ⟨q.1, Pr_cg q.2⟩, va_recv (ci := 3) (q0 := 0) hK hP rfl (Q_o hRc), fun U hU hW => ⟨rfl, Pr_mk hE hRc hRr hRo hP hD hS hU hW⟩⟩ rfl rfl hl.1 rfl (lv_room (Nat.le_of_ble_eq_true rfl)) dX2_standIn_2 ⟨Nat.le_of_ble_eq_true rfl, Nat.le_of_ble_eq_true rfl⟩) hS htab hlocks (fun E h => by exact Or.inl ⟨h.1, fun z => h.2 z.1⟩) (Nat.le_of_ble_eq_true rfl) (Nat.le_of_ble_eq_true rfl) (fun u9 H locs wl hp9 hRc hRr hRo hP hD hS => ?_)
  obtain ⟨hj_2, hxj_2⟩ : u9 < c 20 1 ∧ x = nI u9 := hp9
  obtain ⟨j_2, hju_2⟩ : ∃ z, z = u9 := ⟨_, rfl⟩
  rw [← hju_2] at hj_2 hxj_2 ⊢
  refine lv_astore_n (lv' := [(3, .ref (G (20 + j_2))), (0, .ref (G 0)), (1, .int x), (2, .int y)]) hx hb dX2_standIn_5 rfl hl (by decide) rfl (fun ls hl => ?_)
  refine lv_iload_n hx hb dX2_standIn_6 rfl (lv_at hl 3 rfl) ?_
  refine lv_iconst (v := (-1)) hx hb dX2_standIn_7 (by decide) ?_
  refine lv_icmp_ne (tgt := 15) hx hb dX2_standIn_8 (by decide) (fun c_8 => ?_) (fun c_8 => ?_)
  · refine lv_aload_n hx hb dX2_standIn_15 rfl (lv_at hl 1 rfl) ?_
    refine lv_iload_n hx hb dX2_standIn_16 rfl (lv_at hl 3 rfl) ?_
    refine yx_callr (vx_runV (As := [.int y]) (rest := []) ⟨hx, hb, hml, hown, hts⟩ (k_X2_unitAt l hlt D G h0 c r o y hn) (cwV 1 hts gX2_standIn_X2_unitAt rfl rfl rfl (by decide +kernel) ⟨Nat.le_of_ble_eq_true rfl, Nat.le_of_ble_eq_true rfl⟩) ⟨fun a U g mk q => ⟨q.1, Pr_cg q.2⟩, va_recv (ci := 3) (q0 := 0) hK hP rfl (Q_o hRc), fun U hU hW => ⟨rfl, Pr_mk hE hRc hRr hRo hP hD hS hU hW⟩⟩ rfl rfl hl.1 rfl (lv_room (Nat.le_of_ble_eq_true rfl)) dX2_standIn_17 ⟨Nat.le_of_ble_eq_true rfl, Nat.le_of_ble_eq_true rfl⟩) hS htab hlocks (fun E h => by exact Or.inl ⟨h.1, fun z => h.2 (z.2.elim (fun z => absurd z c_8) id)⟩) (Nat.le_of_ble_eq_true rfl) (Nat.le_of_ble_eq_true rfl) (fun u9 H locs wl hp9 hRc hRr hRo hP hD hS => ?_)
    obtain ⟨hj_17, hxj_17⟩ : u9 < c 20 1 ∧ y = nI u9 := hp9
    obtain ⟨j_17, hju_17⟩ : ∃ z, z = u9 := ⟨_, rfl⟩
    rw [← hju_17] at hj_17 hxj_17 ⊢
    refine lv_astore (lv' := [(4, .ref (G (20 + j_17))), (3, .ref (G (20 + j_2))), (0, .ref (G 0)), (1, .int x), (2, .int y)]) hx hb dX2_standIn_20 hl (by decide) rfl (fun ls hl => ?_)
    refine lv_aload_n hx hb dX2_standIn_22 rfl (lv_at hl 2 rfl) ?_
    refine lv_aload_n hx hb dX2_standIn_23 rfl (lv_at hl 1 rfl) ?_
    refine lv_aload hx hb dX2_standIn_24 (lv_at hl 0 rfl) ?_
    refine yx_callv (vx_runV (As := [.ref (G (20 + j_2)), .ref (G (20 + j_17))]) (rest := []) ⟨hx, hb, hml, hown, hts⟩ (k_X2_checkDifferent l hlt D G h0 c r o j_2 j_17 (by first | omega | assumption) (by first | omega | assumption)) (cwV 2 hts gX2_standIn_X2_checkDifferent rfl rfl rfl (by decide +kernel) ⟨Nat.le_of_ble_eq_true rfl, Nat.le_of_ble_eq_true rfl⟩) ⟨fun a U g mk q => ⟨q.1, Pr_cg q.2⟩, va_recv (ci := 3) (q0 := 0) hK hP rfl (Q_o hRc), fun U hU hW => ⟨rfl, Pr_mk hE hRc hRr hRo hP hD hS hU hW⟩⟩ rfl rfl hl.1 rfl (lv_room (Nat.le_of_ble_eq_true rfl)) dX2_standIn_26 ⟨Nat.le_of_ble_eq_true rfl, Nat.le_of_ble_eq_true rfl⟩) hS htab hlocks (fun E h => by exact Or.inr (Or.inl ⟨h.1, ⟨j_2, hj_2, hxj_2⟩, ⟨j_17, hj_17, hxj_17⟩, by rw [hxj_2, hxj_17, h.2]⟩)) (Nat.le_of_ble_eq_true rfl) (Nat.le_of_ble_eq_true rfl) (fun u9 H locs wl hp9 hRc hRr hRo hP hD hS => ?_)
    have hd_26 : j_2 ≠ j_17 := hp9
    refine lv_aload_n hx hb dX2_standIn_29 rfl (lv_at hl 2 rfl) ?_
    refine yx_callv (vx_runV (As := []) (rest := []) ⟨hx, hb, hml, hown, hts⟩ (k_X2_checkNoStart l hlt D G h0 c r o (hB _ _ (by decide))) (cwV 0 hts gX2_standIn_X2_checkNoStart rfl rfl rfl (by decide +kernel) ⟨Nat.le_of_ble_eq_true rfl, Nat.le_of_ble_eq_true rfl⟩) ⟨fun a U g mk q => ⟨q.1, Pr_cg q.2⟩, va_recv (ci := 3) (q0 := 0) hK hP rfl (Q_o hRc), fun U hU hW => ⟨rfl, Pr_mk hE hRc hRr hRo hP hD hS hU hW⟩⟩ rfl rfl hl.1 rfl (lv_room (Nat.le_of_ble_eq_true rfl)) dX2_standIn_30 ⟨Nat.le_of_ble_eq_true rfl, Nat.le_of_ble_eq_true rfl⟩) hS htab hlocks (fun E h => by exact Or.inr (Or.inr ⟨h.1, ⟨j_2, hj_2, hxj_2⟩, Or.inr ⟨j_17, hj_17, hxj_17⟩, by rw [hxj_2, hxj_17]; exact fun z => hd_26 ((nI_eq (by omega) (by omega)).mp z), h.2⟩)) (Nat.le_of_ble_eq_true rfl) (Nat.le_of_ble_eq_true rfl) (fun u9 H locs wl hp9 hRc hRr hRo hP hD hS => ?_)
    have hg_30 : c 20 3 = 0 := hp9
    refine lv_aload_n hx hb dX2_standIn_33 rfl (lv_at hl 1 rfl) ?_
    rcases (show c 6 j_2 = 0 ∨ ∃ w, c 6 j_2 = w + 1 from by cases h9 : c 6 j_2 with | zero => exact Or.inl rfl | succ w => exact Or.inr ⟨w, rfl⟩) with hz_34 | ⟨w_34, hz_34⟩
    · skip
      refine va_get (D := D) (ci := 1) (v := .null) (C := RX0) (T := TX0) (N := 13) hx hb hts inX0 hown hK hP (7 + j_2) (Q_u hRc (by first | omega | decide | assumption)) rfl 6 (by decide) (hts (.fieldLink RX2 109 "BootStage$Unit" "substitute" "LBootStage$Unit;") (by decide +kernel)) (fun _ h9 => h9) (congrArg some (sbV_0 G hz_34)) dX2_standIn_34 ?_
      refine lv_ifnonnullN hx hb dX2_standIn_37 ?_
      refine lv_iconst (v := (-1)) hx hb dX2_standIn_40 (by decide) ?_
      refine lv_goto (tgt := 51) hx hb dX2_standIn_41 (by decide) ?_
      refine lv_istore (lv' := [(5, .int (-1)), (4, .ref (G (20 + j_17))), (3, .ref (G (20 + j_2))), (0, .ref (G 0)), (1, .int x), (2, .int y)]) hx hb dX2_standIn_51 hl (by decide) rfl (fun ls hl => ?_)
      refine lv_aload_n hx hb dX2_standIn_53 rfl (lv_at hl 2 rfl) ?_
      refine lv_aload hx hb dX2_standIn_54 (lv_at hl 1 rfl) ?_
      refine x_put (D := D) (G := G) (ci := 1) (ty := .object "BootStage$Unit") (C := RX0) (T := TX0) (N := 13) (Z := fun wl => Rc G (up2 c 6 j_2 (j_17 + 1)) wl ∧ Rr G r wl ∧ Ro G o wl) hx hb hts inX0 tyX0 tyX0_ok nmX0 hown hK hP hD hS (7 + j_2) (Q_u hRc (by first | omega | decide | assumption)) rfl 6 (by decide) (hts (.fieldLink RX2 109 "BootStage$Unit" "substitute" "LBootStage$Unit;") (by decide +kernel)) (fun _ h9 => h9) rfl (by decide +kernel) (by first | rfl | decide) (by first | rfl | decide) (Nat.le_of_ble_eq_true rfl) dX2_standIn_56 ⟨(by have h9 := P_u6 (u := j_2) (j_17 + 1) (by first | omega | decide | assumption) hRc; rw [sbV_s G rfl] at h9; exact h9), Rr_fr hRr (by omega), Ro_fr hRo (by omega)⟩ (fun H locs wl hZ hP hD hS => ?_)
      obtain ⟨hRc, hRr, hRo⟩ := hZ
      refine lv_iload hx hb dX2_standIn_59 (lv_at hl 0 rfl) ?_
      refine vx_ret ?_
      refine W.widen (k := 4) (n := 24) (Nat.le_of_ble_eq_true rfl) (Nat.le_of_ble_eq_true rfl) ?_
      have hrel : (fun (v9 : Int32) (u9 : Nat → Nat → Nat) => ∃ a k, a < c 20 1 ∧ x = nI a ∧ (k = 0 ∧ y = -1 ∨ ∃ b, b < c 20 1 ∧ y = nI b ∧ b ≠ a ∧ k = b + 1) ∧ c 20 3 = 0 ∧ v9 = siI (c 6 a) ∧ u9 = up2 c 6 a k) ((-1)) (up2 c 6 j_2 (j_17 + 1)) := by exact ⟨j_2, _, hj_2, hxj_2, Or.inr ⟨j_17, hj_17, hxj_17, fun z => hd_26 z.symm, rfl⟩, hg_30, by rw [hz_34]; exact siI_0.symm, rfl⟩
      exact W.iret (v := (-1)) hx hb hr (fun t ht hW => ⟨⟨_, (up2 c 6 j_2 (j_17 + 1)), rfl, hrel, Wr_mk hRc hRr hRo hP hD ht⟩, hS.F ht⟩) hS.2.2 dX2_standIn_61
    · have hw_w_34 : w_34 < 20 := by have h9 := hs j_2; omega
      refine va_get (D := D) (ci := 1) (v := .ref (G (20 + w_34))) (C := RX0) (T := TX0) (N := 13) hx hb hts inX0 hown hK hP (7 + j_2) (Q_u hRc (by first | omega | decide | assumption)) rfl 6 (by decide) (hts (.fieldLink RX2 109 "BootStage$Unit" "substitute" "LBootStage$Unit;") (by decide +kernel)) (fun _ h9 => h9) (congrArg some (sbV_s G hz_34)) dX2_standIn_34 ?_
      refine lv_ifnonnull (tgt := 44) hx hb dX2_standIn_37 (by decide) ?_
      refine lv_aload_n hx hb dX2_standIn_44 rfl (lv_at hl 1 rfl) ?_
      refine va_get (D := D) (ci := 1) (v := .ref (G (20 + w_34))) (C := RX0) (T := TX0) (N := 13) hx hb hts inX0 hown hK hP (7 + j_2) (Q_u hRc (by first | omega | decide | assumption)) rfl 6 (by decide) (hts (.fieldLink RX2 109 "BootStage$Unit" "substitute" "LBootStage$Unit;") (by decide +kernel)) (fun _ h9 => h9) (congrArg some (sbV_s G hz_34)) dX2_standIn_45 ?_
      refine va_get (D := D) (ci := 1) (v := .int (nI w_34)) (C := RX0) (T := TX0) (N := 13) hx hb hts inX0 hown hK hP (7 + w_34) (Q_u hRc (by first | omega | decide | assumption)) rfl 0 (by decide) (hts (.fieldLink RX2 62 "BootStage$Unit" "number" "I") (by decide +kernel)) (fun _ h9 => h9) rfl dX2_standIn_48 ?_
      refine lv_istore (lv' := [(5, .int (nI w_34)), (4, .ref (G (20 + j_17))), (3, .ref (G (20 + j_2))), (0, .ref (G 0)), (1, .int x), (2, .int y)]) hx hb dX2_standIn_51 hl (by decide) rfl (fun ls hl => ?_)
      refine lv_aload_n hx hb dX2_standIn_53 rfl (lv_at hl 2 rfl) ?_
      refine lv_aload hx hb dX2_standIn_54 (lv_at hl 1 rfl) ?_
      refine x_put (D := D) (G := G) (ci := 1) (ty := .object "BootStage$Unit") (C := RX0) (T := TX0) (N := 13) (Z := fun wl => Rc G (up2 c 6 j_2 (j_17 + 1)) wl ∧ Rr G r wl ∧ Ro G o wl) hx hb hts inX0 tyX0 tyX0_ok nmX0 hown hK hP hD hS (7 + j_2) (Q_u hRc (by first | omega | decide | assumption)) rfl 6 (by decide) (hts (.fieldLink RX2 109 "BootStage$Unit" "substitute" "LBootStage$Unit;") (by decide +kernel)) (fun _ h9 => h9) rfl (by decide +kernel) (by first | rfl | decide) (by first | rfl | decide) (Nat.le_of_ble_eq_true rfl) dX2_standIn_56 ⟨(by have h9 := P_u6 (u := j_2) (j_17 + 1) (by first | omega | decide | assumption) hRc; rw [sbV_s G rfl] at h9; exact h9), Rr_fr hRr (by omega), Ro_fr hRo (by omega)⟩ (fun H locs wl hZ hP hD hS => ?_)
      obtain ⟨hRc, hRr, hRo⟩ := hZ
      refine lv_iload hx hb dX2_standIn_59 (lv_at hl 0 rfl) ?_
      refine vx_ret ?_
      refine W.widen (k := 4) (n := 24) (Nat.le_of_ble_eq_true rfl) (Nat.le_of_ble_eq_true rfl) ?_
      have hrel : (fun (v9 : Int32) (u9 : Nat → Nat → Nat) => ∃ a k, a < c 20 1 ∧ x = nI a ∧ (k = 0 ∧ y = -1 ∨ ∃ b, b < c 20 1 ∧ y = nI b ∧ b ≠ a ∧ k = b + 1) ∧ c 20 3 = 0 ∧ v9 = siI (c 6 a) ∧ u9 = up2 c 6 a k) (nI w_34) (up2 c 6 j_2 (j_17 + 1)) := by exact ⟨j_2, _, hj_2, hxj_2, Or.inr ⟨j_17, hj_17, hxj_17, fun z => hd_26 z.symm, rfl⟩, hg_30, by rw [hz_34]; exact (siI_s _).symm, rfl⟩
      exact W.iret (v := nI w_34) hx hb hr (fun t ht hW => ⟨⟨_, (up2 c 6 j_2 (j_17 + 1)), rfl, hrel, Wr_mk hRc hRr hRo hP hD ht⟩, hS.F ht⟩) hS.2.2 dX2_standIn_61
  · refine lv_null hx hb dX2_standIn_11 ?_
    refine lv_goto (tgt := 20) hx hb dX2_standIn_12 (by decide) ?_
    refine lv_astoreN (lv' := [(4, .null), (3, .ref (G (20 + j_2))), (0, .ref (G 0)), (1, .int x), (2, .int y)]) hx hb dX2_standIn_20 hl (by decide) rfl (fun ls hl => ?_)
    refine lv_aload_n hx hb dX2_standIn_22 rfl (lv_at hl 2 rfl) ?_
    refine lv_aload_n hx hb dX2_standIn_23 rfl (lv_at hl 1 rfl) ?_
    refine lv_aloadN hx hb dX2_standIn_24 (lv_at hl 0 rfl) ?_
    refine yx_callv (vx_runV (As := [.ref (G (20 + j_2)), .null]) (rest := []) ⟨hx, hb, hml, hown, hts⟩ (k_X2_checkDifferentN l hlt D G h0 c r o j_2) (cwV 2 hts gX2_standIn_X2_checkDifferent rfl rfl rfl (by decide +kernel) ⟨Nat.le_of_ble_eq_true rfl, Nat.le_of_ble_eq_true rfl⟩) ⟨fun a U g mk q => ⟨q.1, Pr_cg q.2⟩, va_recv (ci := 3) (q0 := 0) hK hP rfl (Q_o hRc), fun U hU hW => ⟨rfl, Pr_mk hE hRc hRr hRo hP hD hS hU hW⟩⟩ rfl rfl hl.1 rfl (lv_room (Nat.le_of_ble_eq_true rfl)) dX2_standIn_26 ⟨Nat.le_of_ble_eq_true rfl, Nat.le_of_ble_eq_true rfl⟩) hS htab hlocks (fun E h => by exact h.elim) (Nat.le_of_ble_eq_true rfl) (Nat.le_of_ble_eq_true rfl) (fun u9 H locs wl hp9 hRc hRr hRo hP hD hS => ?_)
    refine lv_aload_n hx hb dX2_standIn_29 rfl (lv_at hl 2 rfl) ?_
    refine yx_callv (vx_runV (As := []) (rest := []) ⟨hx, hb, hml, hown, hts⟩ (k_X2_checkNoStart l hlt D G h0 c r o (hB _ _ (by decide))) (cwV 0 hts gX2_standIn_X2_checkNoStart rfl rfl rfl (by decide +kernel) ⟨Nat.le_of_ble_eq_true rfl, Nat.le_of_ble_eq_true rfl⟩) ⟨fun a U g mk q => ⟨q.1, Pr_cg q.2⟩, va_recv (ci := 3) (q0 := 0) hK hP rfl (Q_o hRc), fun U hU hW => ⟨rfl, Pr_mk hE hRc hRr hRo hP hD hS hU hW⟩⟩ rfl rfl hl.1 rfl (lv_room (Nat.le_of_ble_eq_true rfl)) dX2_standIn_30 ⟨Nat.le_of_ble_eq_true rfl, Nat.le_of_ble_eq_true rfl⟩) hS htab hlocks (fun E h => by exact Or.inr (Or.inr ⟨h.1, ⟨j_2, hj_2, hxj_2⟩, Or.inl c_8, by rw [hxj_2, c_8]; exact fun z => nI_pos (show j_2 < 2 ^ 31 by omega) (by rw [z]; decide), h.2⟩)) (Nat.le_of_ble_eq_true rfl) (Nat.le_of_ble_eq_true rfl) (fun u9 H locs wl hp9 hRc hRr hRo hP hD hS => ?_)
    have hg_30 : c 20 3 = 0 := hp9
    refine lv_aload_n hx hb dX2_standIn_33 rfl (lv_at hl 1 rfl) ?_
    rcases (show c 6 j_2 = 0 ∨ ∃ w, c 6 j_2 = w + 1 from by cases h9 : c 6 j_2 with | zero => exact Or.inl rfl | succ w => exact Or.inr ⟨w, rfl⟩) with hz_34 | ⟨w_34, hz_34⟩
    · skip
      refine va_get (D := D) (ci := 1) (v := .null) (C := RX0) (T := TX0) (N := 13) hx hb hts inX0 hown hK hP (7 + j_2) (Q_u hRc (by first | omega | decide | assumption)) rfl 6 (by decide) (hts (.fieldLink RX2 109 "BootStage$Unit" "substitute" "LBootStage$Unit;") (by decide +kernel)) (fun _ h9 => h9) (congrArg some (sbV_0 G hz_34)) dX2_standIn_34 ?_
      refine lv_ifnonnullN hx hb dX2_standIn_37 ?_
      refine lv_iconst (v := (-1)) hx hb dX2_standIn_40 (by decide) ?_
      refine lv_goto (tgt := 51) hx hb dX2_standIn_41 (by decide) ?_
      refine lv_istore (lv' := [(5, .int (-1)), (4, .null), (3, .ref (G (20 + j_2))), (0, .ref (G 0)), (1, .int x), (2, .int y)]) hx hb dX2_standIn_51 hl (by decide) rfl (fun ls hl => ?_)
      refine lv_aload_n hx hb dX2_standIn_53 rfl (lv_at hl 2 rfl) ?_
      refine lv_aloadN hx hb dX2_standIn_54 (lv_at hl 1 rfl) ?_
      refine x_put (D := D) (G := G) (ci := 1) (ty := .object "BootStage$Unit") (C := RX0) (T := TX0) (N := 13) (Z := fun wl => Rc G (up2 c 6 j_2 0) wl ∧ Rr G r wl ∧ Ro G o wl) hx hb hts inX0 tyX0 tyX0_ok nmX0 hown hK hP hD hS (7 + j_2) (Q_u hRc (by first | omega | decide | assumption)) rfl 6 (by decide) (hts (.fieldLink RX2 109 "BootStage$Unit" "substitute" "LBootStage$Unit;") (by decide +kernel)) (fun _ h9 => h9) rfl (by decide +kernel) (by first | rfl | decide) (by first | rfl | decide) (Nat.le_of_ble_eq_true rfl) dX2_standIn_56 ⟨(by have h9 := P_u6 (u := j_2) 0 (by first | omega | decide | assumption) hRc; rw [sbV_0 G rfl] at h9; exact h9), Rr_fr hRr (by omega), Ro_fr hRo (by omega)⟩ (fun H locs wl hZ hP hD hS => ?_)
      obtain ⟨hRc, hRr, hRo⟩ := hZ
      refine lv_iload hx hb dX2_standIn_59 (lv_at hl 0 rfl) ?_
      refine vx_ret ?_
      refine W.widen (k := 4) (n := 24) (Nat.le_of_ble_eq_true rfl) (Nat.le_of_ble_eq_true rfl) ?_
      have hrel : (fun (v9 : Int32) (u9 : Nat → Nat → Nat) => ∃ a k, a < c 20 1 ∧ x = nI a ∧ (k = 0 ∧ y = -1 ∨ ∃ b, b < c 20 1 ∧ y = nI b ∧ b ≠ a ∧ k = b + 1) ∧ c 20 3 = 0 ∧ v9 = siI (c 6 a) ∧ u9 = up2 c 6 a k) ((-1)) (up2 c 6 j_2 0) := by exact ⟨j_2, _, hj_2, hxj_2, Or.inl ⟨rfl, c_8⟩, hg_30, by rw [hz_34]; exact siI_0.symm, rfl⟩
      exact W.iret (v := (-1)) hx hb hr (fun t ht hW => ⟨⟨_, (up2 c 6 j_2 0), rfl, hrel, Wr_mk hRc hRr hRo hP hD ht⟩, hS.F ht⟩) hS.2.2 dX2_standIn_61
    · have hw_w_34 : w_34 < 20 := by have h9 := hs j_2; omega
      refine va_get (D := D) (ci := 1) (v := .ref (G (20 + w_34))) (C := RX0) (T := TX0) (N := 13) hx hb hts inX0 hown hK hP (7 + j_2) (Q_u hRc (by first | omega | decide | assumption)) rfl 6 (by decide) (hts (.fieldLink RX2 109 "BootStage$Unit" "substitute" "LBootStage$Unit;") (by decide +kernel)) (fun _ h9 => h9) (congrArg some (sbV_s G hz_34)) dX2_standIn_34 ?_
      refine lv_ifnonnull (tgt := 44) hx hb dX2_standIn_37 (by decide) ?_
      refine lv_aload_n hx hb dX2_standIn_44 rfl (lv_at hl 1 rfl) ?_
      refine va_get (D := D) (ci := 1) (v := .ref (G (20 + w_34))) (C := RX0) (T := TX0) (N := 13) hx hb hts inX0 hown hK hP (7 + j_2) (Q_u hRc (by first | omega | decide | assumption)) rfl 6 (by decide) (hts (.fieldLink RX2 109 "BootStage$Unit" "substitute" "LBootStage$Unit;") (by decide +kernel)) (fun _ h9 => h9) (congrArg some (sbV_s G hz_34)) dX2_standIn_45 ?_
      refine va_get (D := D) (ci := 1) (v := .int (nI w_34)) (C := RX0) (T := TX0) (N := 13) hx hb hts inX0 hown hK hP (7 + w_34) (Q_u hRc (by first | omega | decide | assumption)) rfl 0 (by decide) (hts (.fieldLink RX2 62 "BootStage$Unit" "number" "I") (by decide +kernel)) (fun _ h9 => h9) rfl dX2_standIn_48 ?_
      refine lv_istore (lv' := [(5, .int (nI w_34)), (4, .null), (3, .ref (G (20 + j_2))), (0, .ref (G 0)), (1, .int x), (2, .int y)]) hx hb dX2_standIn_51 hl (by decide) rfl (fun ls hl => ?_)
      refine lv_aload_n hx hb dX2_standIn_53 rfl (lv_at hl 2 rfl) ?_
      refine lv_aloadN hx hb dX2_standIn_54 (lv_at hl 1 rfl) ?_
      refine x_put (D := D) (G := G) (ci := 1) (ty := .object "BootStage$Unit") (C := RX0) (T := TX0) (N := 13) (Z := fun wl => Rc G (up2 c 6 j_2 0) wl ∧ Rr G r wl ∧ Ro G o wl) hx hb hts inX0 tyX0 tyX0_ok nmX0 hown hK hP hD hS (7 + j_2) (Q_u hRc (by first | omega | decide | assumption)) rfl 6 (by decide) (hts (.fieldLink RX2 109 "BootStage$Unit" "substitute" "LBootStage$Unit;") (by decide +kernel)) (fun _ h9 => h9) rfl (by decide +kernel) (by first | rfl | decide) (by first | rfl | decide) (Nat.le_of_ble_eq_true rfl) dX2_standIn_56 ⟨(by have h9 := P_u6 (u := j_2) 0 (by first | omega | decide | assumption) hRc; rw [sbV_0 G rfl] at h9; exact h9), Rr_fr hRr (by omega), Ro_fr hRo (by omega)⟩ (fun H locs wl hZ hP hD hS => ?_)
      obtain ⟨hRc, hRr, hRo⟩ := hZ
      refine lv_iload hx hb dX2_standIn_59 (lv_at hl 0 rfl) ?_
      refine vx_ret ?_
      refine W.widen (k := 4) (n := 24) (Nat.le_of_ble_eq_true rfl) (Nat.le_of_ble_eq_true rfl) ?_
      have hrel : (fun (v9 : Int32) (u9 : Nat → Nat → Nat) => ∃ a k, a < c 20 1 ∧ x = nI a ∧ (k = 0 ∧ y = -1 ∨ ∃ b, b < c 20 1 ∧ y = nI b ∧ b ≠ a ∧ k = b + 1) ∧ c 20 3 = 0 ∧ v9 = siI (c 6 a) ∧ u9 = up2 c 6 a k) (nI w_34) (up2 c 6 j_2 0) := by exact ⟨j_2, _, hj_2, hxj_2, Or.inl ⟨rfl, c_8⟩, hg_30, by rw [hz_34]; exact (siI_s _).symm, rfl⟩
      exact W.iret (v := nI w_34) hx hb hr (fun t ht hW => ⟨⟨_, (up2 c 6 j_2 0), rfl, hrel, Wr_mk hRc hRr hRo hP hD ht⟩, hS.F ht⟩) hS.2.2 dX2_standIn_61
set_option maxHeartbeats 4000000 in
set_option maxRecDepth 100000 in
theorem k_X2_waitsFor (l : Launch) (hlt : l.stackTraces = false) (D : va_G) (G : Nat → Nat) (h0 : Nat) (c r : Nat → Nat → Nat) (o : Nat) (x : Int32) (hI : IC c) : vx_Met l yX2_waitsFor wsX2_waitsFor ({ frames := 7, cells := 1, slots := 6, locals := 103 } : Room) (va_Pc [.ref (G 0), .int x] (fun U => Pr D G h0 c r o U)) (va_Qi (fun (v9 : Int32) (u9 : Nat → Nat → Nat) => ∃ a, a < c 20 1 ∧ x = nI a ∧ v9 = siI (if c 9 a = 0 then fP (awC c a) (c 20 1) else 0) ∧ u9 = c) (fun (u9 : Nat → Nat → Nat) t => Wr D G h0 u9 r o t) (fun q => h0 ≤ q)) (xw D G h0 c r o (fun E => E = exO ∧ ¬ okU c x)) 1 6 (fun q => h0 ≤ q) := by
  refine vx_ofW (cc := cX2_waitsFor) (maxL := 4) (ret := (some .int)) (by decide) rfl ?_
  intro p e s m args below meth cd s₁ B hml htab hv
  obtain ⟨rfl, hE, wl, hRc, hRr, hRo, hP, hD⟩ := hv
  have hx := B.exec
  have hb := B.bytes
  have hr := B.returns
  have hts := atoms_spec (ws := wsX2_waitsFor) B.pre
  have hown : s.vm.findClass RX2 = some m.cls := findClass_of_methodNamed B.named
  have hlocks := B.notSynchronized
  have hK := hE.2.1
  have hS : va_S (fun q => h0 ≤ q) s.heap s.heap [] := va_S.rf
  have hl := lv_entry ([.ref (G 0), .int x]) (n := 4) (Nat.le_of_ble_eq_true rfl)
  rw [lg_entry_eq]
  generalize (lg_sl ([.ref (G 0), .int x]) ++ List.replicate (4 - (lg_sl ([.ref (G 0), .int x])).length) Slot.unset).toArray = ls at hl ⊢
  have hl : lv_has ls 4 [(0, .ref (G 0)), (1, .int x)] := hl
  have inX0 : ∀ w ∈ wsX00, w ∈ wsX2_waitsFor := by decide +kernel
  have inX2 : ∀ w ∈ wsX20, w ∈ wsX2_waitsFor := by decide +kernel
  have hB := IC_B hI
  have hn := IC_n hI
  have hs := IC_s hI
  refine lv_aload_n hx hb dX2_waitsFor_0 rfl (lv_at hl 0 rfl) ?_
  refine lv_iload_n hx hb dX2_waitsFor_1 rfl (lv_at hl 1 rfl) ?_
  refine yx_callr (vx_runV (As := [.int x]) (rest := []) ⟨hx, hb, hml, hown, hts⟩ (k_X2_unitAt l hlt D G h0 c r o x hn) (cwV 1 hts gX2_waitsFor_X2_unitAt rfl rfl rfl (by decide +kernel) ⟨Nat.le_of_ble_eq_true rfl, Nat.le_of_ble_eq_true rfl⟩) ⟨fun a U g mk q => ⟨q.1, Pr_cg q.2⟩, va_recv (ci := 3) (q0 := 0) hK hP rfl (Q_o hRc), fun U hU hW => ⟨rfl, Pr_mk hE hRc hRr hRo hP hD hS hU hW⟩⟩ rfl rfl hl.1 rfl (lv_room (Nat.le_of_ble_eq_true rfl)) dX2_waitsFor_2 ⟨Nat.le_of_ble_eq_true rfl, Nat.le_of_ble_eq_true rfl⟩) hS htab hlocks (fun E h => by exact h) (Nat.le_of_ble_eq_true rfl) (Nat.le_of_ble_eq_true rfl) (fun u9 H locs wl hp9 hRc hRr hRo hP hD hS => ?_)
  obtain ⟨hj_2, hxj_2⟩ : u9 < c 20 1 ∧ x = nI u9 := hp9
  obtain ⟨j_2, hju_2⟩ : ∃ z, z = u9 := ⟨_, rfl⟩
  rw [← hju_2] at hj_2 hxj_2 ⊢
  refine lv_astore_n (lv' := [(2, .ref (G (20 + j_2))), (0, .ref (G 0)), (1, .int x)]) hx hb dX2_waitsFor_5 rfl hl (by decide) rfl (fun ls hl => ?_)
  refine lv_aload_n hx hb dX2_waitsFor_6 rfl (lv_at hl 0 rfl) ?_
  refine va_get (D := D) (ci := 1) (v := .int (nI (c 9 j_2))) (C := RX0) (T := TX0) (N := 13) hx hb hts inX0 hown hK hP (7 + j_2) (Q_u hRc (by first | omega | decide | assumption)) rfl 9 (by decide) (hts (.fieldLink RX2 136 "BootStage$Unit" "state" "I") (by decide +kernel)) (fun _ h9 => h9) rfl dX2_waitsFor_7 ?_
  refine n_if_eq (tgt := 15) hx hb dX2_waitsFor_10 (by decide) (hB _ _ (by decide)) (fun c_10 => ?_) (fun c_10 => ?_)
  · refine lv_iconst (v := nI 0) hx hb dX2_waitsFor_15 (by decide) ?_
    refine lv_istore_n (lv' := [(3, .int (nI 0)), (2, .ref (G (20 + j_2))), (0, .ref (G 0)), (1, .int x)]) hx hb dX2_waitsFor_16 rfl hl (by decide) rfl (fun ls hl => ?_)
    have L17 : ∀ (d i : Nat), c 20 1 - i < d → i ≤ c 20 1 → (fP (awC c j_2) i = 0) → ∀ (H : Heap) (locs : List Loc) (wl : va_W) (ls : Array Slot), Rc G c wl → Rr G r wl → Ro G o wl → va_P D vwCl wl H → va_D (fun q => h0 ≤ q) wl → va_S (fun q => h0 ≤ q) s.heap H locs → lv_has ls 4 [(3, .int (nI i)), (0, .ref (G 0)), (2, .ref (G (20 + j_2)))] → W p l e (headSpec wsX2_waitsFor ({ frames := 7, cells := 1, slots := 6, locals := 103 } : Room)).room s m ([.ref (G 0), .int x] : List Value).toArray below meth cd H locs 1 6 (vx_MQ below (va_Qi (fun (v9 : Int32) (u9 : Nat → Nat → Nat) => ∃ a, a < c 20 1 ∧ x = nI a ∧ v9 = siI (if c 9 a = 0 then fP (awC c a) (c 20 1) else 0) ∧ u9 = c) (fun (u9 : Nat → Nat → Nat) t => Wr D G h0 u9 r o t) (fun q => h0 ≤ q)) (xw D G h0 c r o (fun E => E = exO ∧ ¬ okU c x)) ([.ref (G 0), .int x] : List Value).toArray s 1 6 (fun q => h0 ≤ q)) (F0 m 17 ls []) := by
      intro d17
      induction d17 with
      | zero => intro i hd; exact absurd hd (Nat.not_lt_zero _)
      | succ d17 ih17 =>
        intro i hd hi hf0 H locs wl ls hRc hRr hRo hP hD hS hl
        refine lv_iload_n hx hb dX2_waitsFor_17 rfl (lv_at hl 0 rfl) ?_
        refine lv_aload_n hx hb dX2_waitsFor_18 rfl (lv_at hl 1 rfl) ?_
        refine va_get (D := D) (ci := 3) (v := .int (nI (c 20 1))) (C := RX2) (T := TX2) (N := 7) hx hb hts inX2 hown hK hP 0 (Q_o hRc) rfl 1 (by decide) (hts (.fieldLink RX2 15 "BootStage" "count" "I") (by decide +kernel)) (fun _ h9 => h9) rfl dX2_waitsFor_19 ?_
        refine n_icmp_ge (tgt := 47) hx hb dX2_waitsFor_22 (by decide) (by omega) (hB _ _ (by decide)) (fun c_22 => ?_) (fun c_22 => ?_)
        · refine lv_iconst (v := (-1)) hx hb dX2_waitsFor_47 (by decide) ?_
          refine vx_ret ?_
          refine W.widen (k := 1) (n := 6) (Nat.le_of_ble_eq_true rfl) (Nat.le_of_ble_eq_true rfl) ?_
          have hrel : (fun (v9 : Int32) (u9 : Nat → Nat → Nat) => ∃ a, a < c 20 1 ∧ x = nI a ∧ v9 = siI (if c 9 a = 0 then fP (awC c a) (c 20 1) else 0) ∧ u9 = c) ((-1)) c := by exact ⟨j_2, hj_2, hxj_2, by rw [if_pos c_10, show c 20 1 = i by omega, hf0]; exact siI_0.symm, rfl⟩
          exact W.iret (v := (-1)) hx hb hr (fun t ht hW => ⟨⟨_, c, rfl, hrel, Wr_mk hRc hRr hRo hP hD ht⟩, hS.F ht⟩) hS.2.2 dX2_waitsFor_48
        · refine lv_aload_n hx hb dX2_waitsFor_25 rfl (lv_at hl 1 rfl) ?_
          refine lv_aload_n hx hb dX2_waitsFor_26 rfl (lv_at hl 1 rfl) ?_
          refine va_get (D := D) (ci := 3) (v := .ref (G 1)) (C := RX2) (T := TX2) (N := 7) hx hb hts inX2 hown hK hP 0 (Q_o hRc) rfl 0 (by decide) (hts (.fieldLink RX2 11 "BootStage" "rows" "[LBootStage$Unit;") (by decide +kernel)) (fun _ h9 => h9) rfl dX2_waitsFor_27 ?_
          refine lv_iload_n hx hb dX2_waitsFor_30 rfl (lv_at hl 0 rfl) ?_
          refine x_row hx hb hK hP hRc (by first | omega | decide | assumption) dX2_waitsFor_31 ?_
          refine lv_aload_n hx hb dX2_waitsFor_32 rfl (lv_at hl 2 rfl) ?_
          refine y_calli (va_runV (As := [.ref (G (20 + i)), .ref (G (20 + j_2))]) (rest := []) ⟨hx, hb, hml, hown, hts⟩ (k_X2_isAwaited l D G h0 c r o hI i j_2 (by first | omega | assumption) (by first | omega | assumption)) (cwV 2 hts gX2_waitsFor_X2_isAwaited rfl rfl rfl (by decide +kernel) ⟨Nat.le_of_ble_eq_true rfl, Nat.le_of_ble_eq_true rfl⟩) ⟨fun a U g mk q => ⟨q.1, Pr_cg q.2⟩, va_recv (ci := 3) (q0 := 0) hK hP rfl (Q_o hRc), fun U hU hW => ⟨rfl, Pr_mk hE hRc hRr hRo hP hD hS hU hW⟩⟩ rfl rfl hl.1 rfl (lv_room (Nat.le_of_ble_eq_true rfl)) dX2_waitsFor_33 ⟨Nat.le_of_ble_eq_true rfl, Nat.le_of_ble_eq_true rfl⟩) hS (fun v9 _ H locs wl hv9 hRc hRr hRo hP hD hS => ?_)
          refine n_top (y := .int (nI (bN (awC c j_2 i)))) (congrArg Value.int hv9) ?_
          clear hv9 v9
          refine n_ifb_eq (tgt := 41) hx hb dX2_waitsFor_36 (by decide) (fun c_36 => ?_) (fun c_36 => ?_)
          · refine lv_iinc (v := nI (i + 1)) (lv' := [(3, .int (nI (i + 1))), (0, .ref (G 0)), (2, .ref (G (20 + j_2)))]) hx hb dX2_waitsFor_41 hl (k := 0) rfl (nI_add i 1) (by decide) rfl (fun ls hl => ?_)
            refine lv_goto (tgt := 17) hx hb dX2_waitsFor_44 (by decide) ?_
            exact ih17 (i + 1) (by omega) (by omega)  (by exact fP_miss hf0 c_36) _ _ _ _ hRc hRr hRo hP hD hS (lv_sub hl [0, 1, 2] rfl)
          · refine lv_iload_n hx hb dX2_waitsFor_39 rfl (lv_at hl 0 rfl) ?_
            refine vx_ret ?_
            refine W.widen (k := 1) (n := 6) (Nat.le_of_ble_eq_true rfl) (Nat.le_of_ble_eq_true rfl) ?_
            have hrel : (fun (v9 : Int32) (u9 : Nat → Nat → Nat) => ∃ a, a < c 20 1 ∧ x = nI a ∧ v9 = siI (if c 9 a = 0 then fP (awC c a) (c 20 1) else 0) ∧ u9 = c) (nI i) c := by exact ⟨j_2, hj_2, hxj_2, by rw [if_pos c_10, fP_hit hf0 c_36 (by omega)]; exact (siI_s _).symm, rfl⟩
            exact W.iret (v := nI i) hx hb hr (fun t ht hW => ⟨⟨_, c, rfl, hrel, Wr_mk hRc hRr hRo hP hD ht⟩, hS.F ht⟩) hS.2.2 dX2_waitsFor_40
    exact L17 _ 0 (Nat.lt_succ_self _) (by omega)  (by rfl) _ _ _ _ hRc hRr hRo hP hD hS (lv_sub hl [0, 2, 1] rfl)
  · refine lv_iconst (v := (-1)) hx hb dX2_waitsFor_13 (by decide) ?_
    refine vx_ret ?_
    refine W.widen (k := 1) (n := 6) (Nat.le_of_ble_eq_true rfl) (Nat.le_of_ble_eq_true rfl) ?_
    have hrel : (fun (v9 : Int32) (u9 : Nat → Nat → Nat) => ∃ a, a < c 20 1 ∧ x = nI a ∧ v9 = siI (if c 9 a = 0 then fP (awC c a) (c 20 1) else 0) ∧ u9 = c) ((-1)) c := by exact ⟨j_2, hj_2, hxj_2, by rw [if_neg (by omega)]; exact siI_0.symm, rfl⟩
    exact W.iret (v := (-1)) hx hb hr (fun t ht hW => ⟨⟨_, c, rfl, hrel, Wr_mk hRc hRr hRo hP hD ht⟩, hS.F ht⟩) hS.2.2 dX2_waitsFor_14
set_option maxHeartbeats 4000000 in
set_option maxRecDepth 100000 in
theorem k_X2_units (l : Launch) (D : va_G) (G : Nat → Nat) (h0 : Nat) (c r : Nat → Nat → Nat) (o : Nat) : Met l yX2_units wsX2_units ({ frames := 0, cells := 0, slots := 0, locals := 0 } : Room) (va_Pc [.ref (G 0)] (fun U => Pr D G h0 c r o U)) (va_Qi (fun (v9 : Int32) (_ : Unit) => v9 = nI (c 20 1)) (fun _ t => Wr D G h0 c r o t) (fun q => h0 ≤ q)) 0 0 (fun q => h0 ≤ q) := by
  refine Met.ofW (cc := cX2_units) (maxL := 1) (ret := (some .int)) (by decide) rfl ?_
  intro p e s m args below meth cd s₁ B hml hv
  obtain ⟨rfl, hE, wl, hRc, hRr, hRo, hP, hD⟩ := hv
  have hx := B.exec
  have hb := B.bytes
  have hr := B.returns
  have hts := atoms_spec (ws := wsX2_units) B.pre
  have hown : s.vm.findClass RX2 = some m.cls := findClass_of_methodNamed B.named
  have hlocks := B.notSynchronized
  have hK := hE.2.1
  have hS : va_S (fun q => h0 ≤ q) s.heap s.heap [] := va_S.rf
  have hl := lv_entry ([.ref (G 0)]) (n := 1) (Nat.le_of_ble_eq_true rfl)
  rw [lg_entry_eq]
  generalize (lg_sl ([.ref (G 0)]) ++ List.replicate (1 - (lg_sl ([.ref (G 0)])).length) Slot.unset).toArray = ls at hl ⊢
  have hl : lv_has ls 1 [(0, .ref (G 0))] := hl
  have inX2 : ∀ w ∈ wsX20, w ∈ wsX2_units := by decide +kernel
  refine lv_aload_n hx hb dX2_units_0 rfl (lv_at hl 0 rfl) ?_
  refine va_get (D := D) (ci := 3) (v := .int (nI (c 20 1))) (C := RX2) (T := TX2) (N := 7) hx hb hts inX2 hown hK hP 0 (Q_o hRc) rfl 1 (by decide) (hts (.fieldLink RX2 15 "BootStage" "count" "I") (by decide +kernel)) (fun _ h9 => h9) rfl dX2_units_1 ?_
  exact W.iret (v := nI (c 20 1)) hx hb hr (fun t ht hW => ⟨⟨_, (), rfl, (show nI (c 20 1) = nI (c 20 1) from by first | rfl | (apply congrArg nI; omega) | exact congrArg nI (bN_t (by omega)).symm | exact congrArg nI (bN_f (by omega)).symm), Wr_mk hRc hRr hRo hP hD ht⟩, hS.F ht⟩) hS.2.2 dX2_units_4
set_option maxHeartbeats 4000000 in
set_option maxRecDepth 100000 in
theorem k_X2_goesOn (l : Launch) (D : va_G) (G : Nat → Nat) (h0 : Nat) (c r : Nat → Nat → Nat) (o : Nat) (hg : c 20 3 ≤ 1) : Met l yX2_goesOn wsX2_goesOn ({ frames := 0, cells := 0, slots := 0, locals := 0 } : Room) (va_Pc [.ref (G 0)] (fun U => Pr D G h0 c r o U)) (va_Qi (fun (v9 : Int32) (_ : Unit) => v9 = nI (c 20 3)) (fun _ t => Wr D G h0 c r o t) (fun q => h0 ≤ q)) 0 0 (fun q => h0 ≤ q) := by
  refine Met.ofW (cc := cX2_goesOn) (maxL := 1) (ret := (some .boolean)) (by decide) rfl ?_
  intro p e s m args below meth cd s₁ B hml hv
  obtain ⟨rfl, hE, wl, hRc, hRr, hRo, hP, hD⟩ := hv
  have hx := B.exec
  have hb := B.bytes
  have hr := B.returns
  have hts := atoms_spec (ws := wsX2_goesOn) B.pre
  have hown : s.vm.findClass RX2 = some m.cls := findClass_of_methodNamed B.named
  have hlocks := B.notSynchronized
  have hK := hE.2.1
  have hS : va_S (fun q => h0 ≤ q) s.heap s.heap [] := va_S.rf
  have hl := lv_entry ([.ref (G 0)]) (n := 1) (Nat.le_of_ble_eq_true rfl)
  rw [lg_entry_eq]
  generalize (lg_sl ([.ref (G 0)]) ++ List.replicate (1 - (lg_sl ([.ref (G 0)])).length) Slot.unset).toArray = ls at hl ⊢
  have hl : lv_has ls 1 [(0, .ref (G 0))] := hl
  have inX2 : ∀ w ∈ wsX20, w ∈ wsX2_goesOn := by decide +kernel
  refine lv_aload_n hx hb dX2_goesOn_0 rfl (lv_at hl 0 rfl) ?_
  refine va_get (D := D) (ci := 3) (v := .int (nI (c 20 3))) (C := RX2) (T := TX2) (N := 7) hx hb hts inX2 hown hK hP 0 (Q_o hRc) rfl 3 (by decide) (hts (.fieldLink RX2 26 "BootStage" "isGoingOn" "Z") (by decide +kernel)) (fun _ h9 => h9) rfl dX2_goesOn_1 ?_
  exact W.zret (v := nI (c 20 3)) (ty := .boolean) hx hb hr (nb_le (by first | exact bN_le _ | decide | omega | assumption)) (fun t ht hW => ⟨⟨_, (), rfl, (show nI (c 20 3) = nI (c 20 3) from by first | rfl | (apply congrArg nI; omega) | exact congrArg nI (bN_t (by omega)).symm | exact congrArg nI (bN_f (by omega)).symm), Wr_mk hRc hRr hRo hP hD ht⟩, hS.F ht⟩) hS.2.2 dX2_goesOn_4
set_option maxHeartbeats 4000000 in
set_option maxRecDepth 100000 in
theorem k_X2_bar (l : Launch) (D : va_G) (G : Nat → Nat) (h0 : Nat) (c r : Nat → Nat → Nat) (o : Nat) : Met l yX2_bar wsX2_bar ({ frames := 0, cells := 0, slots := 0, locals := 0 } : Room) (va_Pc [.ref (G 0)] (fun U => Pr D G h0 c r o U)) (va_Qi (fun (v9 : Int32) (_ : Unit) => v9 = nI (c 20 6)) (fun _ t => Wr D G h0 c r o t) (fun q => h0 ≤ q)) 0 0 (fun q => h0 ≤ q) := by
  refine Met.ofW (cc := cX2_bar) (maxL := 1) (ret := (some .int)) (by decide) rfl ?_
  intro p e s m args below meth cd s₁ B hml hv
  obtain ⟨rfl, hE, wl, hRc, hRr, hRo, hP, hD⟩ := hv
  have hx := B.exec
  have hb := B.bytes
  have hr := B.returns
  have hts := atoms_spec (ws := wsX2_bar) B.pre
  have hown : s.vm.findClass RX2 = some m.cls := findClass_of_methodNamed B.named
  have hlocks := B.notSynchronized
  have hK := hE.2.1
  have hS : va_S (fun q => h0 ≤ q) s.heap s.heap [] := va_S.rf
  have hl := lv_entry ([.ref (G 0)]) (n := 1) (Nat.le_of_ble_eq_true rfl)
  rw [lg_entry_eq]
  generalize (lg_sl ([.ref (G 0)]) ++ List.replicate (1 - (lg_sl ([.ref (G 0)])).length) Slot.unset).toArray = ls at hl ⊢
  have hl : lv_has ls 1 [(0, .ref (G 0))] := hl
  have inX2 : ∀ w ∈ wsX20, w ∈ wsX2_bar := by decide +kernel
  refine lv_aload_n hx hb dX2_bar_0 rfl (lv_at hl 0 rfl) ?_
  refine va_get (D := D) (ci := 3) (v := .int (nI (c 20 6))) (C := RX2) (T := TX2) (N := 7) hx hb hts inX2 hown hK hP 0 (Q_o hRc) rfl 6 (by decide) (hts (.fieldLink RX2 36 "BootStage" "reachedBar" "I") (by decide +kernel)) (fun _ h9 => h9) rfl dX2_bar_1 ?_
  exact W.iret (v := nI (c 20 6)) hx hb hr (fun t ht hW => ⟨⟨_, (), rfl, (show nI (c 20 6) = nI (c 20 6) from by first | rfl | (apply congrArg nI; omega) | exact congrArg nI (bN_t (by omega)).symm | exact congrArg nI (bN_f (by omega)).symm), Wr_mk hRc hRr hRo hP hD ht⟩, hS.F ht⟩) hS.2.2 dX2_bar_4
set_option maxHeartbeats 4000000 in
set_option maxRecDepth 100000 in
theorem k_X2_tick (l : Launch) (hlt : l.stackTraces = false) (D : va_G) (G : Nat → Nat) (h0 : Nat) (c r : Nat → Nat → Nat) (o : Nat) (x : Int32) (hI : IC c) : vx_Met l yX2_tick wsX2_tick ({ frames := 7, cells := 2, slots := 12, locals := 107 } : Room) (va_Pc [.ref (G 0), .int x] (fun U => Pr D G h0 c r o U)) (va_Qi (fun (v9 : Int32) (u9 : Nat → Nat → Nat) => ∃ t i, (1 ≤ t ∧ t ≤ 200) ∧ x = nI t ∧ c 20 3 ≠ 0 ∧ i ≤ t ∧ (∀ j, j < i → c_tkI c j 20 3 ≠ 0) ∧ (i = t ∨ c_tkI c i 20 3 = 0) ∧ v9 = nI i ∧ u9 = c_tkI c i) (fun (u9 : Nat → Nat → Nat) t => Wr D G h0 u9 r o t) (fun q => h0 ≤ q)) (xw D G h0 c r o (fun E => (E = exA ∧ ¬ inR x 1 200) ∨ (E = exS ∧ inR x 1 200 ∧ c 20 3 = 0))) 2 12 (fun q => h0 ≤ q) := by
  refine vx_ofW (cc := cX2_tick) (maxL := 3) (ret := (some .int)) (by decide) rfl ?_
  intro p e s m args below meth cd s₁ B hml htab hv
  obtain ⟨rfl, hE, wl, hRc, hRr, hRo, hP, hD⟩ := hv
  have hx := B.exec
  have hb := B.bytes
  have hr := B.returns
  have hts := atoms_spec (ws := wsX2_tick) B.pre
  have hown : s.vm.findClass RX2 = some m.cls := findClass_of_methodNamed B.named
  have hlocks := B.notSynchronized
  have hK := hE.2.1
  have hS : va_S (fun q => h0 ≤ q) s.heap s.heap [] := va_S.rf
  have hl := lv_entry ([.ref (G 0), .int x]) (n := 3) (Nat.le_of_ble_eq_true rfl)
  rw [lg_entry_eq]
  generalize (lg_sl ([.ref (G 0), .int x]) ++ List.replicate (3 - (lg_sl ([.ref (G 0), .int x])).length) Slot.unset).toArray = ls at hl ⊢
  have hl : lv_has ls 3 [(0, .ref (G 0)), (1, .int x)] := hl
  have inX2 : ∀ w ∈ wsX20, w ∈ wsX2_tick := by decide +kernel
  have hB := IC_B hI
  have hn := IC_n hI
  have hs := IC_s hI
  refine lv_aload_n hx hb dX2_tick_0 rfl (lv_at hl 0 rfl) ?_
  refine lv_iload_n hx hb dX2_tick_1 rfl (lv_at hl 1 rfl) ?_
  refine lv_iconst (v := nI 1) hx hb dX2_tick_2 (by decide) ?_
  refine lv_sipush (v := nI 200) hx hb dX2_tick_3 (by decide) ?_
  refine yx_callv (vx_runV (As := [.int x, .int (nI 1), .int (nI 200)]) (rest := []) ⟨hx, hb, hml, hown, hts⟩ (k_X2_checkRange l hlt D G h0 c r o x 1 200) (cwV 3 hts gX2_tick_X2_checkRange rfl rfl rfl (by decide +kernel) ⟨Nat.le_of_ble_eq_true rfl, Nat.le_of_ble_eq_true rfl⟩) ⟨fun a U g mk q => ⟨q.1, Pr_cg q.2⟩, va_recv (ci := 3) (q0 := 0) hK hP rfl (Q_o hRc), fun U hU hW => ⟨rfl, Pr_mk hE hRc hRr hRo hP hD hS hU hW⟩⟩ rfl rfl hl.1 rfl (lv_room (Nat.le_of_ble_eq_true rfl)) dX2_tick_6 ⟨Nat.le_of_ble_eq_true rfl, Nat.le_of_ble_eq_true rfl⟩) hS htab hlocks (fun E h => by exact Or.inl h) (Nat.le_of_ble_eq_true rfl) (Nat.le_of_ble_eq_true rfl) (fun u9 H locs wl hp9 hRc hRr hRo hP hD hS => ?_)
  have hr_6 : inR x 1 200 := hp9
  obtain ⟨t_6, ht_6, hxt_6⟩ := inR_nI hr_6 (by decide) (by decide)
  refine lv_aload_n hx hb dX2_tick_9 rfl (lv_at hl 0 rfl) ?_
  refine va_get (D := D) (ci := 3) (v := .int (nI (c 20 3))) (C := RX2) (T := TX2) (N := 7) hx hb hts inX2 hown hK hP 0 (Q_o hRc) rfl 3 (by decide) (hts (.fieldLink RX2 26 "BootStage" "isGoingOn" "Z") (by decide +kernel)) (fun _ h9 => h9) rfl dX2_tick_10 ?_
  refine n_if_ne (tgt := 26) hx hb dX2_tick_13 (by decide) (hB _ _ (by decide)) (fun c_13 => ?_) (fun c_13 => ?_)
  · refine lv_iconst (v := nI 0) hx hb dX2_tick_26 (by decide) ?_
    refine lv_istore_n (lv' := [(2, .int (nI 0)), (0, .ref (G 0)), (1, .int x)]) hx hb dX2_tick_27 rfl hl (by decide) rfl (fun ls hl => ?_)
    have L28 : ∀ (d i : Nat), t_6 - i < d → i ≤ t_6 → ∀ (c1 : Nat → Nat → Nat), (c1 = c_tkI c i) → (∀ j, j < i → c_tkI c j 20 3 ≠ 0) → ∀ (H : Heap) (locs : List Loc) (wl : va_W) (ls : Array Slot), Rc G c1 wl → Rr G r wl → Ro G o wl → va_P D vwCl wl H → va_D (fun q => h0 ≤ q) wl → va_S (fun q => h0 ≤ q) s.heap H locs → lv_has ls 3 [(2, .int (nI i)), (0, .ref (G 0)), (1, .int x)] → W p l e (headSpec wsX2_tick ({ frames := 7, cells := 2, slots := 12, locals := 107 } : Room)).room s m ([.ref (G 0), .int x] : List Value).toArray below meth cd H locs 1 6 (vx_MQ below (va_Qi (fun (v9 : Int32) (u9 : Nat → Nat → Nat) => ∃ t i, (1 ≤ t ∧ t ≤ 200) ∧ x = nI t ∧ c 20 3 ≠ 0 ∧ i ≤ t ∧ (∀ j, j < i → c_tkI c j 20 3 ≠ 0) ∧ (i = t ∨ c_tkI c i 20 3 = 0) ∧ v9 = nI i ∧ u9 = c_tkI c i) (fun (u9 : Nat → Nat → Nat) t => Wr D G h0 u9 r o t) (fun q => h0 ≤ q)) (xw D G h0 c r o (fun E => (E = exA ∧ ¬ inR x 1 200) ∨ (E = exS ∧ inR x 1 200 ∧ c 20 3 = 0))) ([.ref (G 0), .int x] : List Value).toArray s 2 12 (fun q => h0 ≤ q)) (F0 m 28 ls []) := by
      intro d28
      induction d28 with
      | zero => intro i hd; exact absurd hd (Nat.not_lt_zero _)
      | succ d28 ih28 =>
        intro i hd hi c1  hc1 hgo H locs wl ls hRc hRr hRo hP hD hS hl
        have hI1 : IC c1 := by rw [hc1]; exact IC_tkI hI i
        have hB1 := IC_B hI1
        refine lv_iload_n hx hb dX2_tick_28 rfl (lv_at hl 0 rfl) ?_
        refine lv_iload_n hx hb dX2_tick_29 rfl (lv_at hl 2 rfl) ?_
        refine n_top (y := .int (nI t_6)) (congrArg Value.int hxt_6) ?_
        refine n_icmp_ge (tgt := 50) hx hb dX2_tick_30 (by decide) (by omega) (by omega) (fun c_30 => ?_) (fun c_30 => ?_)
        · refine lv_iload_n hx hb dX2_tick_50 rfl (lv_at hl 0 rfl) ?_
          refine vx_ret ?_
          refine W.widen (k := 2) (n := 12) (Nat.le_of_ble_eq_true rfl) (Nat.le_of_ble_eq_true rfl) ?_
          have hrel : (fun (v9 : Int32) (u9 : Nat → Nat → Nat) => ∃ t i, (1 ≤ t ∧ t ≤ 200) ∧ x = nI t ∧ c 20 3 ≠ 0 ∧ i ≤ t ∧ (∀ j, j < i → c_tkI c j 20 3 ≠ 0) ∧ (i = t ∨ c_tkI c i 20 3 = 0) ∧ v9 = nI i ∧ u9 = c_tkI c i) (nI i) c1 := by exact ⟨t_6, i, ht_6, hxt_6, Nat.ne_of_gt c_13, hi, hgo, Or.inl (by omega), rfl, hc1⟩
          exact W.iret (v := nI i) hx hb hr (fun t ht hW => ⟨⟨_, c1, rfl, hrel, Wr_mk hRc hRr hRo hP hD ht⟩, hS.F ht⟩) hS.2.2 dX2_tick_51
        · refine lv_aload_n hx hb dX2_tick_33 rfl (lv_at hl 1 rfl) ?_
          refine va_get (D := D) (ci := 3) (v := .int (nI (c1 20 3))) (C := RX2) (T := TX2) (N := 7) hx hb hts inX2 hown hK hP 0 (Q_o hRc) rfl 3 (by decide) (hts (.fieldLink RX2 26 "BootStage" "isGoingOn" "Z") (by decide +kernel)) (fun _ h9 => h9) rfl dX2_tick_34 ?_
          refine n_if_eq (tgt := 50) hx hb dX2_tick_37 (by decide) (hB1 _ _ (by decide)) (fun c_37 => ?_) (fun c_37 => ?_)
          · refine lv_iload_n hx hb dX2_tick_50 rfl (lv_at hl 0 rfl) ?_
            refine vx_ret ?_
            refine W.widen (k := 2) (n := 12) (Nat.le_of_ble_eq_true rfl) (Nat.le_of_ble_eq_true rfl) ?_
            have hrel : (fun (v9 : Int32) (u9 : Nat → Nat → Nat) => ∃ t i, (1 ≤ t ∧ t ≤ 200) ∧ x = nI t ∧ c 20 3 ≠ 0 ∧ i ≤ t ∧ (∀ j, j < i → c_tkI c j 20 3 ≠ 0) ∧ (i = t ∨ c_tkI c i 20 3 = 0) ∧ v9 = nI i ∧ u9 = c_tkI c i) (nI i) c1 := by exact ⟨t_6, i, ht_6, hxt_6, Nat.ne_of_gt c_13, hi, hgo, Or.inr (by rw [← hc1]; exact c_37), rfl, hc1⟩
            exact W.iret (v := nI i) hx hb hr (fun t ht hW => ⟨⟨_, c1, rfl, hrel, Wr_mk hRc hRr hRo hP hD ht⟩, hS.F ht⟩) hS.2.2 dX2_tick_51
          · refine lv_aload_n hx hb dX2_tick_40 rfl (lv_at hl 1 rfl) ?_
            refine y_callv (va_runV (As := []) (rest := []) ⟨hx, hb, hml, hown, hts⟩ (k_X2_passOneTick l D G h0 c1 r o hI1) (cwV 0 hts gX2_tick_X2_passOneTick rfl rfl rfl (by decide +kernel) ⟨Nat.le_of_ble_eq_true rfl, Nat.le_of_ble_eq_true rfl⟩) ⟨fun a U g mk q => ⟨q.1, Pr_cg q.2⟩, va_recv (ci := 3) (q0 := 0) hK hP rfl (Q_o hRc), fun U hU hW => ⟨rfl, Pr_mk hE hRc hRr hRo hP hD hS hU hW⟩⟩ rfl rfl hl.1 rfl (lv_room (Nat.le_of_ble_eq_true rfl)) dX2_tick_41 ⟨Nat.le_of_ble_eq_true rfl, Nat.le_of_ble_eq_true rfl⟩) hS (fun _ H locs wl _ hRc hRr hRo hP hD hS => ?_)
            refine lv_iinc (v := nI (i + 1)) (lv' := [(2, .int (nI (i + 1))), (0, .ref (G 0)), (1, .int x)]) hx hb dX2_tick_44 hl (k := 0) rfl (nI_add i 1) (by decide) rfl (fun ls hl => ?_)
            refine lv_goto (tgt := 28) hx hb dX2_tick_47 (by decide) ?_
            exact ih28 (i + 1) (by omega) (by omega) (c_tick1 c1) (by show c_tick1 c1 = c_tick1 (c_tkI c i); rw [hc1]) (by intro j hj; rcases Nat.lt_or_ge j i with e | e; exact hgo j e; rw [show j = i by omega, ← hc1]; exact Nat.ne_of_gt c_37) _ _ _ _ hRc hRr hRo hP hD hS (lv_sub hl [0, 1, 2] rfl)
    exact L28 _ 0 (Nat.lt_succ_self _) (by omega) (c) (by rfl) (by intro j hj; exact absurd hj (Nat.not_lt_zero j)) _ _ _ _ hRc hRr hRo hP hD hS (lv_sub hl [0, 1, 2] rfl)
  · exact x_throw (cls := exS) (text := "no start goes on") (ik := 46) (is := 131) (ic := 50) (sa := G 73) hx hb hlt hown (by decide +kernel) (hts (.classLink RX2 46 exS) (by decide +kernel)) (hts (.initialized exS) (by decide +kernel)) hE.2.2.1.2.2.1.2.2.1 (fun w h => hts w (List.mem_cons_of_mem _ (List.mem_append_left _ (List.mem_append_right _ h)))) (by decide +kernel) (by decide +kernel) hE hE.2.2.1.2.2.2.1.2.2.2.2.2 hS (hl.1.trans hml.symm) dX2_tick_16 dX2_tick_19 dX2_tick_20 dX2_tick_22 dX2_tick_25 htab hlocks (Nat.le_of_ble_eq_true rfl) (Nat.le_of_ble_eq_true rfl) (Nat.le_of_ble_eq_true rfl) (Nat.le_of_ble_eq_true rfl) hRc hRr hRo hP hD (Or.inr ⟨rfl, hr_6, c_13⟩) (Nat.le_of_ble_eq_true rfl) (Nat.le_of_ble_eq_true rfl)
