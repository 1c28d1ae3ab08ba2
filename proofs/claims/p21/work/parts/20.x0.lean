set_option maxHeartbeats 4000000 in
set_option maxRecDepth 100000 in
theorem k_X0_bit (l : Launch) (D : va_G) (G : Nat → Nat) (h0 : Nat) (c r : Nat → Nat → Nat) (o : Nat) (u : Nat) (hu : u < 20) : Met l yX0_bit wsX0_bit ({ frames := 0, cells := 0, slots := 0, locals := 0 } : Room) (va_Pc [.ref (G (20 + u))] (fun U => Pr D G h0 c r o U)) (va_Qi (fun (v9 : Int32) (_ : Unit) => v9 = nI (2 ^ u)) (fun _ t => Wr D G h0 c r o t) (fun q => h0 ≤ q)) 0 0 (fun q => h0 ≤ q) := by
  refine Met.ofW (cc := cX0_bit) (maxL := 1) (ret := (some .int)) (by decide) rfl ?_
  intro p e s m args below meth cd s₁ B hml hv
  obtain ⟨rfl, hE, wl, hRc, hRr, hRo, hP, hD⟩ := hv
  have hx := B.exec
  have hb := B.bytes
  have hr := B.returns
  have hts := atoms_spec (ws := wsX0_bit) B.pre
  have hown : s.vm.findClass RX0 = some m.cls := findClass_of_methodNamed B.named
  have hlocks := B.notSynchronized
  have hK := hE.2.1
  have hS : va_S (fun q => h0 ≤ q) s.heap s.heap [] := va_S.rf
  have hl := lv_entry ([.ref (G (20 + u))]) (n := 1) (Nat.le_of_ble_eq_true rfl)
  rw [lg_entry_eq]
  generalize (lg_sl ([.ref (G (20 + u))]) ++ List.replicate (1 - (lg_sl ([.ref (G (20 + u))])).length) Slot.unset).toArray = ls at hl ⊢
  have hl : lv_has ls 1 [(0, .ref (G (20 + u)))] := hl
  have inX0 : ∀ w ∈ wsX00, w ∈ wsX0_bit := by decide +kernel
  refine lv_iconst (v := nI 1) hx hb dX0_bit_0 (by decide) ?_
  refine lv_aload_n hx hb dX0_bit_1 rfl (lv_at hl 0 rfl) ?_
  refine va_get (D := D) (ci := 1) (v := .int (nI u)) (C := RX0) (T := TX0) (N := 13) hx hb hts inX0 hown hK hP (7 + u) (Q_u hRc (by first | omega | decide | assumption)) rfl 0 (by decide) (hts (.fieldLink RX0 50 "BootStage$Unit" "number" "I") (by decide +kernel)) (fun _ h9 => h9) rfl dX0_bit_2 ?_
  refine n_bit hx hb dX0_bit_5 (by omega) ?_
  exact W.iret (v := nI (2 ^ u)) hx hb hr (fun t ht hW => ⟨⟨_, (), rfl, (show nI (2 ^ u) = nI (2 ^ u) from by first | rfl | (apply congrArg nI; omega) | exact congrArg nI (bN_t (by omega)).symm | exact congrArg nI (bN_f (by omega)).symm), Wr_mk hRc hRr hRo hP hD ht⟩, hS.F ht⟩) hS.2.2 dX0_bit_6
set_option maxHeartbeats 4000000 in
set_option maxRecDepth 100000 in
theorem k_X0_resetForStart (l : Launch) (D : va_G) (G : Nat → Nat) (h0 : Nat) (c r : Nat → Nat → Nat) (o : Nat) (u : Nat) (hu : u < 20) (hB : BC c) : Met l yX0_resetForStart wsX0_resetForStart ({ frames := 0, cells := 0, slots := 0, locals := 0 } : Room) (va_Pc [.ref (G (20 + u))] (fun U => Pr D G h0 c r o U)) (va_Qi (fun (v9 : Int32) (_ : Unit) => v9 = nI (if c 5 u = 0 then c 3 u else 0)) (fun _ t => Wr D G h0 (c_reset c u) r o t) (fun q => h0 ≤ q)) 0 0 (fun q => h0 ≤ q) := by
  refine Met.ofW (cc := cX0_resetForStart) (maxL := 1) (ret := (some .int)) (by decide) rfl ?_
  intro p e s m args below meth cd s₁ B hml hv
  obtain ⟨rfl, hE, wl, hRc, hRr, hRo, hP, hD⟩ := hv
  have hx := B.exec
  have hb := B.bytes
  have hr := B.returns
  have hts := atoms_spec (ws := wsX0_resetForStart) B.pre
  have hown : s.vm.findClass RX0 = some m.cls := findClass_of_methodNamed B.named
  have hlocks := B.notSynchronized
  have hK := hE.2.1
  have hS : va_S (fun q => h0 ≤ q) s.heap s.heap [] := va_S.rf
  have hl := lv_entry ([.ref (G (20 + u))]) (n := 1) (Nat.le_of_ble_eq_true rfl)
  rw [lg_entry_eq]
  generalize (lg_sl ([.ref (G (20 + u))]) ++ List.replicate (1 - (lg_sl ([.ref (G (20 + u))])).length) Slot.unset).toArray = ls at hl ⊢
  have hl : lv_has ls 1 [(0, .ref (G (20 + u)))] := hl
  have inX0 : ∀ w ∈ wsX00, w ∈ wsX0_resetForStart := by decide +kernel
  refine lv_aload_n hx hb dX0_resetForStart_0 rfl (lv_at hl 0 rfl) ?_
  refine lv_aload_n hx hb dX0_resetForStart_1 rfl (lv_at hl 0 rfl) ?_
  refine va_get (D := D) (ci := 1) (v := .int (nI (c 5 u))) (C := RX0) (T := TX0) (N := 13) hx hb hts inX0 hown hK hP (7 + u) (Q_u hRc (by first | omega | decide | assumption)) rfl 5 (by decide) (hts (.fieldLink RX0 24 "BootStage$Unit" "isHeld" "Z") (by decide +kernel)) (fun _ h9 => h9) rfl dX0_resetForStart_2 ?_
  refine n_if_eq (tgt := 12) hx hb dX0_resetForStart_5 (by decide) (hB _ _ (by decide)) (fun c_5 => ?_) (fun c_5 => ?_)
  · refine lv_iconst (v := nI 0) hx hb dX0_resetForStart_12 (by decide) ?_
    refine x_put (D := D) (G := G) (ci := 1) (ty := .int) (C := RX0) (T := TX0) (N := 13) (Z := fun wl => Rc G (up2 c 9 u 0) wl ∧ Rr G r wl ∧ Ro G o wl) hx hb hts inX0 tyX0 tyX0_ok nmX0 hown hK hP hD hS (7 + u) (Q_u hRc (by first | omega | decide | assumption)) rfl 9 (by decide) (hts (.fieldLink RX0 38 "BootStage$Unit" "state" "I") (by decide +kernel)) (fun _ h9 => h9) rfl (by decide +kernel) rfl rfl (Nat.le_of_ble_eq_true rfl) dX0_resetForStart_13 ⟨P_u9 (u := u) 0 (by first | omega | decide | assumption) hRc, Rr_fr hRr (by omega), Ro_fr hRo (by omega)⟩ (fun H locs wl hZ hP hD hS => ?_)
    obtain ⟨hRc, hRr, hRo⟩ := hZ
    refine lv_aload_n hx hb dX0_resetForStart_16 rfl (lv_at hl 0 rfl) ?_
    refine lv_iconst (v := nI 0) hx hb dX0_resetForStart_17 (by decide) ?_
    refine x_put (D := D) (G := G) (ci := 1) (ty := .int) (C := RX0) (T := TX0) (N := 13) (Z := fun wl => Rc G (up2 (up2 c 9 u 0) 11 u 0) wl ∧ Rr G r wl ∧ Ro G o wl) hx hb hts inX0 tyX0 tyX0_ok nmX0 hown hK hP hD hS (7 + u) (Q_u hRc (by first | omega | decide | assumption)) rfl 11 (by decide) (hts (.fieldLink RX0 44 "BootStage$Unit" "retriesUsed" "I") (by decide +kernel)) (fun _ h9 => h9) rfl (by decide +kernel) rfl rfl (Nat.le_of_ble_eq_true rfl) dX0_resetForStart_18 ⟨P_u11 (u := u) 0 (by first | omega | decide | assumption) hRc, Rr_fr hRr (by omega), Ro_fr hRo (by omega)⟩ (fun H locs wl hZ hP hD hS => ?_)
    obtain ⟨hRc, hRr, hRo⟩ := hZ
    refine lv_aload_n hx hb dX0_resetForStart_21 rfl (lv_at hl 0 rfl) ?_
    refine lv_aload_n hx hb dX0_resetForStart_22 rfl (lv_at hl 0 rfl) ?_
    refine va_get (D := D) (ci := 1) (v := .int (nI (c 3 u))) (C := RX0) (T := TX0) (N := 13) hx hb hts inX0 hown hK hP (7 + u) (Q_u hRc (by first | omega | decide | assumption)) rfl 3 (by decide) (hts (.fieldLink RX0 18 "BootStage$Unit" "learned" "I") (by decide +kernel)) (fun _ h9 => h9) (congrArg (fun z => some (Value.int (nI z))) (show (up2 (up2 c 9 u 0) 11 u 0) 3 u = c 3 u from by simp [up2])) dX0_resetForStart_23 ?_
    refine x_put (D := D) (G := G) (ci := 1) (ty := .int) (C := RX0) (T := TX0) (N := 13) (Z := fun wl => Rc G (up2 (up2 (up2 c 9 u 0) 11 u 0) 12 u (c 3 u)) wl ∧ Rr G r wl ∧ Ro G o wl) hx hb hts inX0 tyX0 tyX0_ok nmX0 hown hK hP hD hS (7 + u) (Q_u hRc (by first | omega | decide | assumption)) rfl 12 (by decide) (hts (.fieldLink RX0 47 "BootStage$Unit" "learnedAtBegin" "I") (by decide +kernel)) (fun _ h9 => h9) rfl (by decide +kernel) rfl rfl (Nat.le_of_ble_eq_true rfl) dX0_resetForStart_26 ⟨P_u12 (u := u) (c 3 u) (by first | omega | decide | assumption) hRc, Rr_fr hRr (by omega), Ro_fr hRo (by omega)⟩ (fun H locs wl hZ hP hD hS => ?_)
    obtain ⟨hRc, hRr, hRo⟩ := hZ
    refine lv_aload_n hx hb dX0_resetForStart_29 rfl (lv_at hl 0 rfl) ?_
    refine va_get (D := D) (ci := 1) (v := .int (nI (c 5 u))) (C := RX0) (T := TX0) (N := 13) hx hb hts inX0 hown hK hP (7 + u) (Q_u hRc (by first | omega | decide | assumption)) rfl 5 (by decide) (hts (.fieldLink RX0 24 "BootStage$Unit" "isHeld" "Z") (by decide +kernel)) (fun _ h9 => h9) (congrArg (fun z => some (Value.int (nI z))) (show (up2 (up2 (up2 c 9 u 0) 11 u 0) 12 u (c 3 u)) 5 u = c 5 u from by simp [up2])) dX0_resetForStart_30 ?_
    refine n_if_eq (tgt := 40) hx hb dX0_resetForStart_33 (by decide) (hB _ _ (by decide)) (fun c_33 => ?_) (fun c_33 => ?_)
    · refine lv_aload_n hx hb dX0_resetForStart_40 rfl (lv_at hl 0 rfl) ?_
      refine va_get (D := D) (ci := 1) (v := .int (nI (c 3 u))) (C := RX0) (T := TX0) (N := 13) hx hb hts inX0 hown hK hP (7 + u) (Q_u hRc (by first | omega | decide | assumption)) rfl 3 (by decide) (hts (.fieldLink RX0 18 "BootStage$Unit" "learned" "I") (by decide +kernel)) (fun _ h9 => h9) (congrArg (fun z => some (Value.int (nI z))) (show (up2 (up2 (up2 c 9 u 0) 11 u 0) 12 u (c 3 u)) 3 u = c 3 u from by simp [up2])) dX0_resetForStart_41 ?_
      exact W.iret (v := nI (c 3 u)) hx hb hr (fun t ht hW => ⟨⟨_, (), rfl, (show nI (c 3 u) = nI (if c 5 u = 0 then c 3 u else 0) from by first | rw [if_pos (by assumption)] | rw [if_neg (by omega)]), Wr_mk (show Rc G (c_reset c u) wl from by rw [show (c_reset c u) = up2 (up2 (up2 c 9 u 0) 11 u 0) 12 u (c 3 u) from by unfold c_reset; rw [if_pos (by assumption)]]; exact hRc) hRr hRo hP hD ht⟩, hS.F ht⟩) hS.2.2 dX0_resetForStart_44
    · exfalso; omega
  · refine lv_iconst (v := nI 4) hx hb dX0_resetForStart_8 (by decide) ?_
    refine lv_goto (tgt := 13) hx hb dX0_resetForStart_9 (by decide) ?_
    refine x_put (D := D) (G := G) (ci := 1) (ty := .int) (C := RX0) (T := TX0) (N := 13) (Z := fun wl => Rc G (up2 c 9 u 4) wl ∧ Rr G r wl ∧ Ro G o wl) hx hb hts inX0 tyX0 tyX0_ok nmX0 hown hK hP hD hS (7 + u) (Q_u hRc (by first | omega | decide | assumption)) rfl 9 (by decide) (hts (.fieldLink RX0 38 "BootStage$Unit" "state" "I") (by decide +kernel)) (fun _ h9 => h9) rfl (by decide +kernel) rfl rfl (Nat.le_of_ble_eq_true rfl) dX0_resetForStart_13 ⟨P_u9 (u := u) 4 (by first | omega | decide | assumption) hRc, Rr_fr hRr (by omega), Ro_fr hRo (by omega)⟩ (fun H locs wl hZ hP hD hS => ?_)
    obtain ⟨hRc, hRr, hRo⟩ := hZ
    refine lv_aload_n hx hb dX0_resetForStart_16 rfl (lv_at hl 0 rfl) ?_
    refine lv_iconst (v := nI 0) hx hb dX0_resetForStart_17 (by decide) ?_
    refine x_put (D := D) (G := G) (ci := 1) (ty := .int) (C := RX0) (T := TX0) (N := 13) (Z := fun wl => Rc G (up2 (up2 c 9 u 4) 11 u 0) wl ∧ Rr G r wl ∧ Ro G o wl) hx hb hts inX0 tyX0 tyX0_ok nmX0 hown hK hP hD hS (7 + u) (Q_u hRc (by first | omega | decide | assumption)) rfl 11 (by decide) (hts (.fieldLink RX0 44 "BootStage$Unit" "retriesUsed" "I") (by decide +kernel)) (fun _ h9 => h9) rfl (by decide +kernel) rfl rfl (Nat.le_of_ble_eq_true rfl) dX0_resetForStart_18 ⟨P_u11 (u := u) 0 (by first | omega | decide | assumption) hRc, Rr_fr hRr (by omega), Ro_fr hRo (by omega)⟩ (fun H locs wl hZ hP hD hS => ?_)
    obtain ⟨hRc, hRr, hRo⟩ := hZ
    refine lv_aload_n hx hb dX0_resetForStart_21 rfl (lv_at hl 0 rfl) ?_
    refine lv_aload_n hx hb dX0_resetForStart_22 rfl (lv_at hl 0 rfl) ?_
    refine va_get (D := D) (ci := 1) (v := .int (nI (c 3 u))) (C := RX0) (T := TX0) (N := 13) hx hb hts inX0 hown hK hP (7 + u) (Q_u hRc (by first | omega | decide | assumption)) rfl 3 (by decide) (hts (.fieldLink RX0 18 "BootStage$Unit" "learned" "I") (by decide +kernel)) (fun _ h9 => h9) (congrArg (fun z => some (Value.int (nI z))) (show (up2 (up2 c 9 u 4) 11 u 0) 3 u = c 3 u from by simp [up2])) dX0_resetForStart_23 ?_
    refine x_put (D := D) (G := G) (ci := 1) (ty := .int) (C := RX0) (T := TX0) (N := 13) (Z := fun wl => Rc G (up2 (up2 (up2 c 9 u 4) 11 u 0) 12 u (c 3 u)) wl ∧ Rr G r wl ∧ Ro G o wl) hx hb hts inX0 tyX0 tyX0_ok nmX0 hown hK hP hD hS (7 + u) (Q_u hRc (by first | omega | decide | assumption)) rfl 12 (by decide) (hts (.fieldLink RX0 47 "BootStage$Unit" "learnedAtBegin" "I") (by decide +kernel)) (fun _ h9 => h9) rfl (by decide +kernel) rfl rfl (Nat.le_of_ble_eq_true rfl) dX0_resetForStart_26 ⟨P_u12 (u := u) (c 3 u) (by first | omega | decide | assumption) hRc, Rr_fr hRr (by omega), Ro_fr hRo (by omega)⟩ (fun H locs wl hZ hP hD hS => ?_)
    obtain ⟨hRc, hRr, hRo⟩ := hZ
    refine lv_aload_n hx hb dX0_resetForStart_29 rfl (lv_at hl 0 rfl) ?_
    refine va_get (D := D) (ci := 1) (v := .int (nI (c 5 u))) (C := RX0) (T := TX0) (N := 13) hx hb hts inX0 hown hK hP (7 + u) (Q_u hRc (by first | omega | decide | assumption)) rfl 5 (by decide) (hts (.fieldLink RX0 24 "BootStage$Unit" "isHeld" "Z") (by decide +kernel)) (fun _ h9 => h9) (congrArg (fun z => some (Value.int (nI z))) (show (up2 (up2 (up2 c 9 u 4) 11 u 0) 12 u (c 3 u)) 5 u = c 5 u from by simp [up2])) dX0_resetForStart_30 ?_
    refine n_if_eq (tgt := 40) hx hb dX0_resetForStart_33 (by decide) (hB _ _ (by decide)) (fun c_33 => ?_) (fun c_33 => ?_)
    · exfalso; omega
    · refine lv_iconst (v := nI 0) hx hb dX0_resetForStart_36 (by decide) ?_
      refine lv_goto (tgt := 44) hx hb dX0_resetForStart_37 (by decide) ?_
      exact W.iret (v := nI 0) hx hb hr (fun t ht hW => ⟨⟨_, (), rfl, (show nI 0 = nI (if c 5 u = 0 then c 3 u else 0) from by first | rw [if_pos (by assumption)] | rw [if_neg (by omega)]), Wr_mk (show Rc G (c_reset c u) wl from by rw [show (c_reset c u) = up2 (up2 (up2 c 9 u 4) 11 u 0) 12 u (c 3 u) from by unfold c_reset; rw [if_neg (by omega)]]; exact hRc) hRr hRo hP hD ht⟩, hS.F ht⟩) hS.2.2 dX0_resetForStart_44
set_option maxHeartbeats 4000000 in
set_option maxRecDepth 100000 in
theorem k_X0_isGone (l : Launch) (D : va_G) (G : Nat → Nat) (h0 : Nat) (c r : Nat → Nat → Nat) (o : Nat) (u : Nat) (hu : u < 20) (hB : BC c) : Met l yX0_isGone wsX0_isGone ({ frames := 0, cells := 0, slots := 0, locals := 0 } : Room) (va_Pc [.ref (G (20 + u))] (fun U => Pr D G h0 c r o U)) (va_Qi (fun (v9 : Int32) (_ : Unit) => v9 = nI (bN (goneP (c 9) u))) (fun _ t => Wr D G h0 c r o t) (fun q => h0 ≤ q)) 0 0 (fun q => h0 ≤ q) := by
  refine Met.ofW (cc := cX0_isGone) (maxL := 1) (ret := (some .boolean)) (by decide) rfl ?_
  intro p e s m args below meth cd s₁ B hml hv
  obtain ⟨rfl, hE, wl, hRc, hRr, hRo, hP, hD⟩ := hv
  have hx := B.exec
  have hb := B.bytes
  have hr := B.returns
  have hts := atoms_spec (ws := wsX0_isGone) B.pre
  have hown : s.vm.findClass RX0 = some m.cls := findClass_of_methodNamed B.named
  have hlocks := B.notSynchronized
  have hK := hE.2.1
  have hS : va_S (fun q => h0 ≤ q) s.heap s.heap [] := va_S.rf
  have hl := lv_entry ([.ref (G (20 + u))]) (n := 1) (Nat.le_of_ble_eq_true rfl)
  rw [lg_entry_eq]
  generalize (lg_sl ([.ref (G (20 + u))]) ++ List.replicate (1 - (lg_sl ([.ref (G (20 + u))])).length) Slot.unset).toArray = ls at hl ⊢
  have hl : lv_has ls 1 [(0, .ref (G (20 + u)))] := hl
  have inX0 : ∀ w ∈ wsX00, w ∈ wsX0_isGone := by decide +kernel
  refine lv_aload_n hx hb dX0_isGone_0 rfl (lv_at hl 0 rfl) ?_
  refine va_get (D := D) (ci := 1) (v := .int (nI (c 9 u))) (C := RX0) (T := TX0) (N := 13) hx hb hts inX0 hown hK hP (7 + u) (Q_u hRc (by first | omega | decide | assumption)) rfl 9 (by decide) (hts (.fieldLink RX0 38 "BootStage$Unit" "state" "I") (by decide +kernel)) (fun _ h9 => h9) rfl dX0_isGone_1 ?_
  refine lv_iconst (v := nI 3) hx hb dX0_isGone_4 (by decide) ?_
  refine n_icmp_eq (tgt := 16) hx hb dX0_isGone_5 (by decide) (hB _ _ (by decide)) (by decide) (fun c_5 => ?_) (fun c_5 => ?_)
  · refine lv_iconst (v := nI 1) hx hb dX0_isGone_16 (by decide) ?_
    refine lv_goto (tgt := 21) hx hb dX0_isGone_17 (by decide) ?_
    exact W.zret (v := nI 1) (ty := .boolean) hx hb hr (nb_le (by first | exact bN_le _ | decide | omega | assumption)) (fun t ht hW => ⟨⟨_, (), rfl, (show nI 1 = nI (bN (goneP (c 9) u)) from by first | exact congrArg nI (bN_t (show c 9 u = 3 ∨ c 9 u = 4 by omega)).symm | exact congrArg nI (bN_f (show ¬ (c 9 u = 3 ∨ c 9 u = 4) by omega)).symm), Wr_mk hRc hRr hRo hP hD ht⟩, hS.F ht⟩) hS.2.2 dX0_isGone_21
  · refine lv_aload_n hx hb dX0_isGone_8 rfl (lv_at hl 0 rfl) ?_
    refine va_get (D := D) (ci := 1) (v := .int (nI (c 9 u))) (C := RX0) (T := TX0) (N := 13) hx hb hts inX0 hown hK hP (7 + u) (Q_u hRc (by first | omega | decide | assumption)) rfl 9 (by decide) (hts (.fieldLink RX0 38 "BootStage$Unit" "state" "I") (by decide +kernel)) (fun _ h9 => h9) rfl dX0_isGone_9 ?_
    refine lv_iconst (v := nI 4) hx hb dX0_isGone_12 (by decide) ?_
    refine n_icmp_ne (tgt := 20) hx hb dX0_isGone_13 (by decide) (hB _ _ (by decide)) (by decide) (fun c_13 => ?_) (fun c_13 => ?_)
    · refine lv_iconst (v := nI 0) hx hb dX0_isGone_20 (by decide) ?_
      exact W.zret (v := nI 0) (ty := .boolean) hx hb hr (nb_le (by first | exact bN_le _ | decide | omega | assumption)) (fun t ht hW => ⟨⟨_, (), rfl, (show nI 0 = nI (bN (goneP (c 9) u)) from by first | exact congrArg nI (bN_t (show c 9 u = 3 ∨ c 9 u = 4 by omega)).symm | exact congrArg nI (bN_f (show ¬ (c 9 u = 3 ∨ c 9 u = 4) by omega)).symm), Wr_mk hRc hRr hRo hP hD ht⟩, hS.F ht⟩) hS.2.2 dX0_isGone_21
    · refine lv_iconst (v := nI 1) hx hb dX0_isGone_16 (by decide) ?_
      refine lv_goto (tgt := 21) hx hb dX0_isGone_17 (by decide) ?_
      exact W.zret (v := nI 1) (ty := .boolean) hx hb hr (nb_le (by first | exact bN_le _ | decide | omega | assumption)) (fun t ht hW => ⟨⟨_, (), rfl, (show nI 1 = nI (bN (goneP (c 9) u)) from by first | exact congrArg nI (bN_t (show c 9 u = 3 ∨ c 9 u = 4 by omega)).symm | exact congrArg nI (bN_f (show ¬ (c 9 u = 3 ∨ c 9 u = 4) by omega)).symm), Wr_mk hRc hRr hRo hP hD ht⟩, hS.F ht⟩) hS.2.2 dX0_isGone_21
set_option maxHeartbeats 4000000 in
set_option maxRecDepth 100000 in
theorem k_X0_isNeedMet (l : Launch) (D : va_G) (G : Nat → Nat) (h0 : Nat) (c r : Nat → Nat → Nat) (o : Nat) (u : Nat) (hu : u < 20) (hB : BC c) (hs : ∀ u, c 6 u ≤ 20) : Met l yX0_isNeedMet wsX0_isNeedMet ({ frames := 1, cells := 0, slots := 0, locals := 20 } : Room) (va_Pc [.ref (G (20 + u))] (fun U => Pr D G h0 c r o U)) (va_Qi (fun (v9 : Int32) (_ : Unit) => v9 = nI (bN (metP (c 9) (c 6) u))) (fun _ t => Wr D G h0 c r o t) (fun q => h0 ≤ q)) 0 0 (fun q => h0 ≤ q) := by
  refine Met.ofW (cc := cX0_isNeedMet) (maxL := 1) (ret := (some .boolean)) (by decide) rfl ?_
  intro p e s m args below meth cd s₁ B hml hv
  obtain ⟨rfl, hE, wl, hRc, hRr, hRo, hP, hD⟩ := hv
  have hx := B.exec
  have hb := B.bytes
  have hr := B.returns
  have hts := atoms_spec (ws := wsX0_isNeedMet) B.pre
  have hown : s.vm.findClass RX0 = some m.cls := findClass_of_methodNamed B.named
  have hlocks := B.notSynchronized
  have hK := hE.2.1
  have hS : va_S (fun q => h0 ≤ q) s.heap s.heap [] := va_S.rf
  have hl := lv_entry ([.ref (G (20 + u))]) (n := 1) (Nat.le_of_ble_eq_true rfl)
  rw [lg_entry_eq]
  generalize (lg_sl ([.ref (G (20 + u))]) ++ List.replicate (1 - (lg_sl ([.ref (G (20 + u))])).length) Slot.unset).toArray = ls at hl ⊢
  have hl : lv_has ls 1 [(0, .ref (G (20 + u)))] := hl
  have inX0 : ∀ w ∈ wsX00, w ∈ wsX0_isNeedMet := by decide +kernel
  refine lv_aload_n hx hb dX0_isNeedMet_0 rfl (lv_at hl 0 rfl) ?_
  refine va_get (D := D) (ci := 1) (v := .int (nI (c 9 u))) (C := RX0) (T := TX0) (N := 13) hx hb hts inX0 hown hK hP (7 + u) (Q_u hRc (by first | omega | decide | assumption)) rfl 9 (by decide) (hts (.fieldLink RX0 38 "BootStage$Unit" "state" "I") (by decide +kernel)) (fun _ h9 => h9) rfl dX0_isNeedMet_1 ?_
  refine lv_iconst (v := nI 2) hx hb dX0_isNeedMet_4 (by decide) ?_
  refine n_icmp_eq (tgt := 33) hx hb dX0_isNeedMet_5 (by decide) (hB _ _ (by decide)) (by decide) (fun c_5 => ?_) (fun c_5 => ?_)
  · refine lv_iconst (v := nI 1) hx hb dX0_isNeedMet_33 (by decide) ?_
    refine lv_goto (tgt := 38) hx hb dX0_isNeedMet_34 (by decide) ?_
    exact W.zret (v := nI 1) (ty := .boolean) hx hb hr (nb_le (by first | exact bN_le _ | decide | omega | assumption)) (fun t ht hW => ⟨⟨_, (), rfl, (show nI 1 = nI (bN (metP (c 9) (c 6) u)) from by first | exact congrArg nI (bN_t (Or.inl (by assumption))).symm | exact congrArg nI (bN_f (fun z => z.elim (fun z => absurd z (by assumption)) (fun z => absurd z.1 (by assumption)))).symm), Wr_mk hRc hRr hRo hP hD ht⟩, hS.F ht⟩) hS.2.2 dX0_isNeedMet_38
  · refine lv_aload_n hx hb dX0_isNeedMet_8 rfl (lv_at hl 0 rfl) ?_
    refine y_calli (va_runV (As := []) (rest := []) ⟨hx, hb, hml, hown, hts⟩ (k_X0_isGone l D G h0 c r o u (by first | omega | assumption) hB) (cwV 0 hts gX0_isNeedMet_X0_isGone rfl rfl rfl (by decide +kernel) ⟨Nat.le_of_ble_eq_true rfl, Nat.le_of_ble_eq_true rfl⟩) ⟨fun a U g mk q => ⟨q.1, Pr_cg q.2⟩, va_recv (ci := 1) (q0 := 7 + u) hK hP rfl (Q_u hRc (by first | omega | decide | assumption)), fun U hU hW => ⟨rfl, Pr_mk hE hRc hRr hRo hP hD hS hU hW⟩⟩ rfl rfl hl.1 rfl (lv_room (Nat.le_of_ble_eq_true rfl)) dX0_isNeedMet_9 ⟨Nat.le_of_ble_eq_true rfl, Nat.le_of_ble_eq_true rfl⟩) hS (fun v9 _ H locs wl hv9 hRc hRr hRo hP hD hS => ?_)
    refine n_top (y := .int (nI (bN (goneP (c 9) u)))) (congrArg Value.int hv9) ?_
    clear hv9 v9
    refine n_ifb_eq (tgt := 37) hx hb dX0_isNeedMet_12 (by decide) (fun c_12 => ?_) (fun c_12 => ?_)
    · refine lv_iconst (v := nI 0) hx hb dX0_isNeedMet_37 (by decide) ?_
      exact W.zret (v := nI 0) (ty := .boolean) hx hb hr (nb_le (by first | exact bN_le _ | decide | omega | assumption)) (fun t ht hW => ⟨⟨_, (), rfl, (show nI 0 = nI (bN (metP (c 9) (c 6) u)) from by first | exact congrArg nI (bN_t (Or.inl (by assumption))).symm | exact congrArg nI (bN_f (fun z => z.elim (fun z => absurd z (by assumption)) (fun z => absurd z.1 (by assumption)))).symm), Wr_mk hRc hRr hRo hP hD ht⟩, hS.F ht⟩) hS.2.2 dX0_isNeedMet_38
    · refine lv_aload_n hx hb dX0_isNeedMet_15 rfl (lv_at hl 0 rfl) ?_
      rcases (show c 6 u = 0 ∨ ∃ w, c 6 u = w + 1 from by cases h9 : c 6 u with | zero => exact Or.inl rfl | succ w => exact Or.inr ⟨w, rfl⟩) with hz_16 | ⟨w_16, hz_16⟩
      · skip
        refine va_get (D := D) (ci := 1) (v := .null) (C := RX0) (T := TX0) (N := 13) hx hb hts inX0 hown hK hP (7 + u) (Q_u hRc (by first | omega | decide | assumption)) rfl 6 (by decide) (hts (.fieldLink RX0 28 "BootStage$Unit" "substitute" "LBootStage$Unit;") (by decide +kernel)) (fun _ h9 => h9) (congrArg some (sbV_0 G hz_16)) dX0_isNeedMet_16 ?_
        refine lv_ifnullN (tgt := 37) hx hb dX0_isNeedMet_19 (by decide) ?_
        refine lv_iconst (v := nI 0) hx hb dX0_isNeedMet_37 (by decide) ?_
        exact W.zret (v := nI 0) (ty := .boolean) hx hb hr (nb_le (by first | exact bN_le _ | decide | omega | assumption)) (fun t ht hW => ⟨⟨_, (), rfl, (show nI 0 = nI (bN (metP (c 9) (c 6) u)) from by first | exact congrArg nI (bN_t (Or.inl (by assumption))).symm | exact congrArg nI (bN_f (fun z => z.elim (fun z => absurd z (by assumption)) (fun z => z.2.1 hz_16))).symm), Wr_mk hRc hRr hRo hP hD ht⟩, hS.F ht⟩) hS.2.2 dX0_isNeedMet_38
      · have hw_w_16 : w_16 < 20 := by have h9 := hs u; omega
        refine va_get (D := D) (ci := 1) (v := .ref (G (20 + w_16))) (C := RX0) (T := TX0) (N := 13) hx hb hts inX0 hown hK hP (7 + u) (Q_u hRc (by first | omega | decide | assumption)) rfl 6 (by decide) (hts (.fieldLink RX0 28 "BootStage$Unit" "substitute" "LBootStage$Unit;") (by decide +kernel)) (fun _ h9 => h9) (congrArg some (sbV_s G hz_16)) dX0_isNeedMet_16 ?_
        refine lv_ifnull hx hb dX0_isNeedMet_19 ?_
        refine lv_aload_n hx hb dX0_isNeedMet_22 rfl (lv_at hl 0 rfl) ?_
        refine va_get (D := D) (ci := 1) (v := .ref (G (20 + w_16))) (C := RX0) (T := TX0) (N := 13) hx hb hts inX0 hown hK hP (7 + u) (Q_u hRc (by first | omega | decide | assumption)) rfl 6 (by decide) (hts (.fieldLink RX0 28 "BootStage$Unit" "substitute" "LBootStage$Unit;") (by decide +kernel)) (fun _ h9 => h9) (congrArg some (sbV_s G hz_16)) dX0_isNeedMet_23 ?_
        refine va_get (D := D) (ci := 1) (v := .int (nI (c 9 w_16))) (C := RX0) (T := TX0) (N := 13) hx hb hts inX0 hown hK hP (7 + w_16) (Q_u hRc (by first | omega | decide | assumption)) rfl 9 (by decide) (hts (.fieldLink RX0 38 "BootStage$Unit" "state" "I") (by decide +kernel)) (fun _ h9 => h9) rfl dX0_isNeedMet_26 ?_
        refine lv_iconst (v := nI 2) hx hb dX0_isNeedMet_29 (by decide) ?_
        refine n_icmp_ne (tgt := 37) hx hb dX0_isNeedMet_30 (by decide) (hB _ _ (by decide)) (by decide) (fun c_30 => ?_) (fun c_30 => ?_)
        · refine lv_iconst (v := nI 0) hx hb dX0_isNeedMet_37 (by decide) ?_
          exact W.zret (v := nI 0) (ty := .boolean) hx hb hr (nb_le (by first | exact bN_le _ | decide | omega | assumption)) (fun t ht hW => ⟨⟨_, (), rfl, (show nI 0 = nI (bN (metP (c 9) (c 6) u)) from by first | exact congrArg nI (bN_t (Or.inl (by assumption))).symm | exact congrArg nI (bN_t (Or.inr ⟨by assumption, by omega, by rw [hz_16, Nat.add_sub_cancel]; assumption⟩)).symm | exact congrArg nI (bN_f (fun z => z.elim (fun z => absurd z (by assumption)) (fun z => absurd z.2.2 (by rw [hz_16, Nat.add_sub_cancel]; assumption)))).symm), Wr_mk hRc hRr hRo hP hD ht⟩, hS.F ht⟩) hS.2.2 dX0_isNeedMet_38
        · refine lv_iconst (v := nI 1) hx hb dX0_isNeedMet_33 (by decide) ?_
          refine lv_goto (tgt := 38) hx hb dX0_isNeedMet_34 (by decide) ?_
          exact W.zret (v := nI 1) (ty := .boolean) hx hb hr (nb_le (by first | exact bN_le _ | decide | omega | assumption)) (fun t ht hW => ⟨⟨_, (), rfl, (show nI 1 = nI (bN (metP (c 9) (c 6) u)) from by first | exact congrArg nI (bN_t (Or.inl (by assumption))).symm | exact congrArg nI (bN_t (Or.inr ⟨by assumption, by omega, by rw [hz_16, Nat.add_sub_cancel]; assumption⟩)).symm | exact congrArg nI (bN_f (fun z => z.elim (fun z => absurd z (by assumption)) (fun z => absurd z.2.2 (by rw [hz_16, Nat.add_sub_cancel]; assumption)))).symm), Wr_mk hRc hRr hRo hP hD ht⟩, hS.F ht⟩) hS.2.2 dX0_isNeedMet_38
set_option maxHeartbeats 4000000 in
set_option maxRecDepth 100000 in
theorem k_X0_isNeedLost (l : Launch) (D : va_G) (G : Nat → Nat) (h0 : Nat) (c r : Nat → Nat → Nat) (o : Nat) (u : Nat) (hu : u < 20) (hB : BC c) (hs : ∀ u, c 6 u ≤ 20) : Met l yX0_isNeedLost wsX0_isNeedLost ({ frames := 1, cells := 0, slots := 0, locals := 20 } : Room) (va_Pc [.ref (G (20 + u))] (fun U => Pr D G h0 c r o U)) (va_Qi (fun (v9 : Int32) (_ : Unit) => v9 = nI (bN (lostP (c 9) (c 6) u))) (fun _ t => Wr D G h0 c r o t) (fun q => h0 ≤ q)) 0 0 (fun q => h0 ≤ q) := by
  refine Met.ofW (cc := cX0_isNeedLost) (maxL := 1) (ret := (some .boolean)) (by decide) rfl ?_
  intro p e s m args below meth cd s₁ B hml hv
  obtain ⟨rfl, hE, wl, hRc, hRr, hRo, hP, hD⟩ := hv
  have hx := B.exec
  have hb := B.bytes
  have hr := B.returns
  have hts := atoms_spec (ws := wsX0_isNeedLost) B.pre
  have hown : s.vm.findClass RX0 = some m.cls := findClass_of_methodNamed B.named
  have hlocks := B.notSynchronized
  have hK := hE.2.1
  have hS : va_S (fun q => h0 ≤ q) s.heap s.heap [] := va_S.rf
  have hl := lv_entry ([.ref (G (20 + u))]) (n := 1) (Nat.le_of_ble_eq_true rfl)
  rw [lg_entry_eq]
  generalize (lg_sl ([.ref (G (20 + u))]) ++ List.replicate (1 - (lg_sl ([.ref (G (20 + u))])).length) Slot.unset).toArray = ls at hl ⊢
  have hl : lv_has ls 1 [(0, .ref (G (20 + u)))] := hl
  have inX0 : ∀ w ∈ wsX00, w ∈ wsX0_isNeedLost := by decide +kernel
  refine lv_aload_n hx hb dX0_isNeedLost_0 rfl (lv_at hl 0 rfl) ?_
  refine y_calli (va_runV (As := []) (rest := []) ⟨hx, hb, hml, hown, hts⟩ (k_X0_isGone l D G h0 c r o u (by first | omega | assumption) hB) (cwV 0 hts gX0_isNeedLost_X0_isGone rfl rfl rfl (by decide +kernel) ⟨Nat.le_of_ble_eq_true rfl, Nat.le_of_ble_eq_true rfl⟩) ⟨fun a U g mk q => ⟨q.1, Pr_cg q.2⟩, va_recv (ci := 1) (q0 := 7 + u) hK hP rfl (Q_u hRc (by first | omega | decide | assumption)), fun U hU hW => ⟨rfl, Pr_mk hE hRc hRr hRo hP hD hS hU hW⟩⟩ rfl rfl hl.1 rfl (lv_room (Nat.le_of_ble_eq_true rfl)) dX0_isNeedLost_1 ⟨Nat.le_of_ble_eq_true rfl, Nat.le_of_ble_eq_true rfl⟩) hS (fun v9 _ H locs wl hv9 hRc hRr hRo hP hD hS => ?_)
  refine n_top (y := .int (nI (bN (goneP (c 9) u)))) (congrArg Value.int hv9) ?_
  clear hv9 v9
  refine n_ifb_eq (tgt := 28) hx hb dX0_isNeedLost_4 (by decide) (fun c_4 => ?_) (fun c_4 => ?_)
  · refine lv_iconst (v := nI 0) hx hb dX0_isNeedLost_28 (by decide) ?_
    exact W.zret (v := nI 0) (ty := .boolean) hx hb hr (nb_le (by first | exact bN_le _ | decide | omega | assumption)) (fun t ht hW => ⟨⟨_, (), rfl, (show nI 0 = nI (bN (lostP (c 9) (c 6) u)) from by first | exact congrArg nI (bN_t ⟨by assumption, Or.inl (by assumption)⟩).symm | exact congrArg nI (bN_t ⟨by assumption, Or.inr (by rw [hu, Nat.add_sub_cancel]; assumption)⟩).symm | exact congrArg nI (bN_f (fun z => absurd z.1 (by assumption))).symm | exact congrArg nI (bN_f (fun z => z.2.elim (fun z => absurd z (by omega)) (fun z => absurd z (by rw [hu]; assumption)))).symm), Wr_mk hRc hRr hRo hP hD ht⟩, hS.F ht⟩) hS.2.2 dX0_isNeedLost_29
  · refine lv_aload_n hx hb dX0_isNeedLost_7 rfl (lv_at hl 0 rfl) ?_
    rcases (show c 6 u = 0 ∨ ∃ w, c 6 u = w + 1 from by cases h9 : c 6 u with | zero => exact Or.inl rfl | succ w => exact Or.inr ⟨w, rfl⟩) with hz_8 | ⟨w_8, hz_8⟩
    · skip
      refine va_get (D := D) (ci := 1) (v := .null) (C := RX0) (T := TX0) (N := 13) hx hb hts inX0 hown hK hP (7 + u) (Q_u hRc (by first | omega | decide | assumption)) rfl 6 (by decide) (hts (.fieldLink RX0 28 "BootStage$Unit" "substitute" "LBootStage$Unit;") (by decide +kernel)) (fun _ h9 => h9) (congrArg some (sbV_0 G hz_8)) dX0_isNeedLost_8 ?_
      refine lv_ifnullN (tgt := 24) hx hb dX0_isNeedLost_11 (by decide) ?_
      refine lv_iconst (v := nI 1) hx hb dX0_isNeedLost_24 (by decide) ?_
      refine lv_goto (tgt := 29) hx hb dX0_isNeedLost_25 (by decide) ?_
      exact W.zret (v := nI 1) (ty := .boolean) hx hb hr (nb_le (by first | exact bN_le _ | decide | omega | assumption)) (fun t ht hW => ⟨⟨_, (), rfl, (show nI 1 = nI (bN (lostP (c 9) (c 6) u)) from by first | exact congrArg nI (bN_t ⟨by assumption, Or.inl (by assumption)⟩).symm | exact congrArg nI (bN_t ⟨by assumption, Or.inr (by rw [hz_8, Nat.add_sub_cancel]; assumption)⟩).symm | exact congrArg nI (bN_f (fun z => absurd z.1 (by assumption))).symm | exact congrArg nI (bN_f (fun z => z.2.elim (fun z => absurd z (by omega)) (fun z => absurd z (by rw [hz_8]; assumption)))).symm), Wr_mk hRc hRr hRo hP hD ht⟩, hS.F ht⟩) hS.2.2 dX0_isNeedLost_29
    · have hw_w_8 : w_8 < 20 := by have h9 := hs u; omega
      refine va_get (D := D) (ci := 1) (v := .ref (G (20 + w_8))) (C := RX0) (T := TX0) (N := 13) hx hb hts inX0 hown hK hP (7 + u) (Q_u hRc (by first | omega | decide | assumption)) rfl 6 (by decide) (hts (.fieldLink RX0 28 "BootStage$Unit" "substitute" "LBootStage$Unit;") (by decide +kernel)) (fun _ h9 => h9) (congrArg some (sbV_s G hz_8)) dX0_isNeedLost_8 ?_
      refine lv_ifnull hx hb dX0_isNeedLost_11 ?_
      refine lv_aload_n hx hb dX0_isNeedLost_14 rfl (lv_at hl 0 rfl) ?_
      refine va_get (D := D) (ci := 1) (v := .ref (G (20 + w_8))) (C := RX0) (T := TX0) (N := 13) hx hb hts inX0 hown hK hP (7 + u) (Q_u hRc (by first | omega | decide | assumption)) rfl 6 (by decide) (hts (.fieldLink RX0 28 "BootStage$Unit" "substitute" "LBootStage$Unit;") (by decide +kernel)) (fun _ h9 => h9) (congrArg some (sbV_s G hz_8)) dX0_isNeedLost_15 ?_
      refine y_calli (va_runV (As := []) (rest := []) ⟨hx, hb, hml, hown, hts⟩ (k_X0_isGone l D G h0 c r o w_8 (by first | omega | assumption) hB) (cwV 0 hts gX0_isNeedLost_X0_isGone rfl rfl rfl (by decide +kernel) ⟨Nat.le_of_ble_eq_true rfl, Nat.le_of_ble_eq_true rfl⟩) ⟨fun a U g mk q => ⟨q.1, Pr_cg q.2⟩, va_recv (ci := 1) (q0 := 7 + w_8) hK hP rfl (Q_u hRc (by first | omega | decide | assumption)), fun U hU hW => ⟨rfl, Pr_mk hE hRc hRr hRo hP hD hS hU hW⟩⟩ rfl rfl hl.1 rfl (lv_room (Nat.le_of_ble_eq_true rfl)) dX0_isNeedLost_18 ⟨Nat.le_of_ble_eq_true rfl, Nat.le_of_ble_eq_true rfl⟩) hS (fun v9 _ H locs wl hv9 hRc hRr hRo hP hD hS => ?_)
      refine n_top (y := .int (nI (bN (goneP (c 9) w_8)))) (congrArg Value.int hv9) ?_
      clear hv9 v9
      refine n_ifb_eq (tgt := 28) hx hb dX0_isNeedLost_21 (by decide) (fun c_21 => ?_) (fun c_21 => ?_)
      · refine lv_iconst (v := nI 0) hx hb dX0_isNeedLost_28 (by decide) ?_
        exact W.zret (v := nI 0) (ty := .boolean) hx hb hr (nb_le (by first | exact bN_le _ | decide | omega | assumption)) (fun t ht hW => ⟨⟨_, (), rfl, (show nI 0 = nI (bN (lostP (c 9) (c 6) u)) from by first | exact congrArg nI (bN_t ⟨by assumption, Or.inl (by assumption)⟩).symm | exact congrArg nI (bN_t ⟨by assumption, Or.inr (by rw [hz_8, Nat.add_sub_cancel]; assumption)⟩).symm | exact congrArg nI (bN_f (fun z => absurd z.1 (by assumption))).symm | exact congrArg nI (bN_f (fun z => z.2.elim (fun z => absurd z (by omega)) (fun z => absurd z (by rw [hz_8]; assumption)))).symm), Wr_mk hRc hRr hRo hP hD ht⟩, hS.F ht⟩) hS.2.2 dX0_isNeedLost_29
      · refine lv_iconst (v := nI 1) hx hb dX0_isNeedLost_24 (by decide) ?_
        refine lv_goto (tgt := 29) hx hb dX0_isNeedLost_25 (by decide) ?_
        exact W.zret (v := nI 1) (ty := .boolean) hx hb hr (nb_le (by first | exact bN_le _ | decide | omega | assumption)) (fun t ht hW => ⟨⟨_, (), rfl, (show nI 1 = nI (bN (lostP (c 9) (c 6) u)) from by first | exact congrArg nI (bN_t ⟨by assumption, Or.inl (by assumption)⟩).symm | exact congrArg nI (bN_t ⟨by assumption, Or.inr (by rw [hz_8, Nat.add_sub_cancel]; assumption)⟩).symm | exact congrArg nI (bN_f (fun z => absurd z.1 (by assumption))).symm | exact congrArg nI (bN_f (fun z => z.2.elim (fun z => absurd z (by omega)) (fun z => absurd z (by rw [hz_8]; assumption)))).symm), Wr_mk hRc hRr hRo hP hD ht⟩, hS.F ht⟩) hS.2.2 dX0_isNeedLost_29
set_option maxHeartbeats 4000000 in
set_option maxRecDepth 100000 in
theorem k_X0_isWishDone (l : Launch) (D : va_G) (G : Nat → Nat) (h0 : Nat) (c r : Nat → Nat → Nat) (o : Nat) (u : Nat) (hu : u < 20) (hB : BC c) : Met l yX0_isWishDone wsX0_isWishDone ({ frames := 1, cells := 0, slots := 0, locals := 20 } : Room) (va_Pc [.ref (G (20 + u))] (fun U => Pr D G h0 c r o U)) (va_Qi (fun (v9 : Int32) (_ : Unit) => v9 = nI (bN (doneP (c 9) u))) (fun _ t => Wr D G h0 c r o t) (fun q => h0 ≤ q)) 0 0 (fun q => h0 ≤ q) := by
  refine Met.ofW (cc := cX0_isWishDone) (maxL := 1) (ret := (some .boolean)) (by decide) rfl ?_
  intro p e s m args below meth cd s₁ B hml hv
  obtain ⟨rfl, hE, wl, hRc, hRr, hRo, hP, hD⟩ := hv
  have hx := B.exec
  have hb := B.bytes
  have hr := B.returns
  have hts := atoms_spec (ws := wsX0_isWishDone) B.pre
  have hown : s.vm.findClass RX0 = some m.cls := findClass_of_methodNamed B.named
  have hlocks := B.notSynchronized
  have hK := hE.2.1
  have hS : va_S (fun q => h0 ≤ q) s.heap s.heap [] := va_S.rf
  have hl := lv_entry ([.ref (G (20 + u))]) (n := 1) (Nat.le_of_ble_eq_true rfl)
  rw [lg_entry_eq]
  generalize (lg_sl ([.ref (G (20 + u))]) ++ List.replicate (1 - (lg_sl ([.ref (G (20 + u))])).length) Slot.unset).toArray = ls at hl ⊢
  have hl : lv_has ls 1 [(0, .ref (G (20 + u)))] := hl
  have inX0 : ∀ w ∈ wsX00, w ∈ wsX0_isWishDone := by decide +kernel
  refine lv_aload_n hx hb dX0_isWishDone_0 rfl (lv_at hl 0 rfl) ?_
  refine va_get (D := D) (ci := 1) (v := .int (nI (c 9 u))) (C := RX0) (T := TX0) (N := 13) hx hb hts inX0 hown hK hP (7 + u) (Q_u hRc (by first | omega | decide | assumption)) rfl 9 (by decide) (hts (.fieldLink RX0 38 "BootStage$Unit" "state" "I") (by decide +kernel)) (fun _ h9 => h9) rfl dX0_isWishDone_1 ?_
  refine lv_iconst (v := nI 2) hx hb dX0_isWishDone_4 (by decide) ?_
  refine n_icmp_eq (tgt := 15) hx hb dX0_isWishDone_5 (by decide) (hB _ _ (by decide)) (by decide) (fun c_5 => ?_) (fun c_5 => ?_)
  · refine lv_iconst (v := nI 1) hx hb dX0_isWishDone_15 (by decide) ?_
    refine lv_goto (tgt := 20) hx hb dX0_isWishDone_16 (by decide) ?_
    exact W.zret (v := nI 1) (ty := .boolean) hx hb hr (nb_le (by first | exact bN_le _ | decide | omega | assumption)) (fun t ht hW => ⟨⟨_, (), rfl, (show nI 1 = nI (bN (doneP (c 9) u)) from by first | exact congrArg nI (bN_t (Or.inl (by assumption))).symm | exact congrArg nI (bN_t (Or.inr (by assumption))).symm | exact congrArg nI (bN_f (fun z => z.elim (fun z => absurd z (by assumption)) (fun z => absurd z (by assumption)))).symm), Wr_mk hRc hRr hRo hP hD ht⟩, hS.F ht⟩) hS.2.2 dX0_isWishDone_20
  · refine lv_aload_n hx hb dX0_isWishDone_8 rfl (lv_at hl 0 rfl) ?_
    refine y_calli (va_runV (As := []) (rest := []) ⟨hx, hb, hml, hown, hts⟩ (k_X0_isGone l D G h0 c r o u (by first | omega | assumption) hB) (cwV 0 hts gX0_isWishDone_X0_isGone rfl rfl rfl (by decide +kernel) ⟨Nat.le_of_ble_eq_true rfl, Nat.le_of_ble_eq_true rfl⟩) ⟨fun a U g mk q => ⟨q.1, Pr_cg q.2⟩, va_recv (ci := 1) (q0 := 7 + u) hK hP rfl (Q_u hRc (by first | omega | decide | assumption)), fun U hU hW => ⟨rfl, Pr_mk hE hRc hRr hRo hP hD hS hU hW⟩⟩ rfl rfl hl.1 rfl (lv_room (Nat.le_of_ble_eq_true rfl)) dX0_isWishDone_9 ⟨Nat.le_of_ble_eq_true rfl, Nat.le_of_ble_eq_true rfl⟩) hS (fun v9 _ H locs wl hv9 hRc hRr hRo hP hD hS => ?_)
    refine n_top (y := .int (nI (bN (goneP (c 9) u)))) (congrArg Value.int hv9) ?_
    clear hv9 v9
    refine n_ifb_eq (tgt := 19) hx hb dX0_isWishDone_12 (by decide) (fun c_12 => ?_) (fun c_12 => ?_)
    · refine lv_iconst (v := nI 0) hx hb dX0_isWishDone_19 (by decide) ?_
      exact W.zret (v := nI 0) (ty := .boolean) hx hb hr (nb_le (by first | exact bN_le _ | decide | omega | assumption)) (fun t ht hW => ⟨⟨_, (), rfl, (show nI 0 = nI (bN (doneP (c 9) u)) from by first | exact congrArg nI (bN_t (Or.inl (by assumption))).symm | exact congrArg nI (bN_t (Or.inr (by assumption))).symm | exact congrArg nI (bN_f (fun z => z.elim (fun z => absurd z (by assumption)) (fun z => absurd z (by assumption)))).symm), Wr_mk hRc hRr hRo hP hD ht⟩, hS.F ht⟩) hS.2.2 dX0_isWishDone_20
    · refine lv_iconst (v := nI 1) hx hb dX0_isWishDone_15 (by decide) ?_
      refine lv_goto (tgt := 20) hx hb dX0_isWishDone_16 (by decide) ?_
      exact W.zret (v := nI 1) (ty := .boolean) hx hb hr (nb_le (by first | exact bN_le _ | decide | omega | assumption)) (fun t ht hW => ⟨⟨_, (), rfl, (show nI 1 = nI (bN (doneP (c 9) u)) from by first | exact congrArg nI (bN_t (Or.inl (by assumption))).symm | exact congrArg nI (bN_t (Or.inr (by assumption))).symm | exact congrArg nI (bN_f (fun z => z.elim (fun z => absurd z (by assumption)) (fun z => absurd z (by assumption)))).symm), Wr_mk hRc hRr hRo hP hD ht⟩, hS.F ht⟩) hS.2.2 dX0_isWishDone_20
set_option maxHeartbeats 4000000 in
set_option maxRecDepth 100000 in
theorem k_X0_comeToEnd (l : Launch) (D : va_G) (G : Nat → Nat) (h0 : Nat) (c r : Nat → Nat → Nat) (o : Nat) (u : Nat) (hu : u < 20) (hB : BC c) (hb : c 3 u + c 1 u < 2 ^ 31) : Met l yX0_comeToEnd wsX0_comeToEnd ({ frames := 1, cells := 0, slots := 0, locals := 21 } : Room) (va_Pc [.ref (G (20 + u))] (fun U => Pr D G h0 c r o U)) (va_Qv (fun (_ : Unit) => True) (fun _ t => Wr D G h0 (c_come c u) r o t) (fun q => h0 ≤ q)) 0 0 (fun q => h0 ≤ q) := by
  refine Met.ofW (cc := cX0_comeToEnd) (maxL := 1) (ret := none) (by decide) rfl ?_
  intro p e s m args below meth cd s₁ B hml hv
  obtain ⟨rfl, hE, wl, hRc, hRr, hRo, hP, hD⟩ := hv
  have hx := B.exec
  have hb := B.bytes
  have hr := B.returns
  have hts := atoms_spec (ws := wsX0_comeToEnd) B.pre
  have hown : s.vm.findClass RX0 = some m.cls := findClass_of_methodNamed B.named
  have hlocks := B.notSynchronized
  have hK := hE.2.1
  have hS : va_S (fun q => h0 ≤ q) s.heap s.heap [] := va_S.rf
  have hl := lv_entry ([.ref (G (20 + u))]) (n := 1) (Nat.le_of_ble_eq_true rfl)
  rw [lg_entry_eq]
  generalize (lg_sl ([.ref (G (20 + u))]) ++ List.replicate (1 - (lg_sl ([.ref (G (20 + u))])).length) Slot.unset).toArray = ls at hl ⊢
  have hl : lv_has ls 1 [(0, .ref (G (20 + u)))] := hl
  have inX0 : ∀ w ∈ wsX00, w ∈ wsX0_comeToEnd := by decide +kernel
  refine lv_aload_n hx hb dX0_comeToEnd_0 rfl (lv_at hl 0 rfl) ?_
  refine va_get (D := D) (ci := 1) (v := .int (nI (c 4 u))) (C := RX0) (T := TX0) (N := 13) hx hb hts inX0 hown hK hP (7 + u) (Q_u hRc (by first | omega | decide | assumption)) rfl 4 (by decide) (hts (.fieldLink RX0 21 "BootStage$Unit" "faults" "I") (by decide +kernel)) (fun _ h9 => h9) rfl dX0_comeToEnd_1 ?_
  refine n_if_ne (tgt := 32) hx hb dX0_comeToEnd_4 (by decide) (hB _ _ (by decide)) (fun c_4 => ?_) (fun c_4 => ?_)
  · refine lv_aload_n hx hb dX0_comeToEnd_32 rfl (lv_at hl 0 rfl) ?_
    refine lv_dup hx hb dX0_comeToEnd_33 rfl ?_
    refine va_get (D := D) (ci := 1) (v := .int (nI (c 4 u))) (C := RX0) (T := TX0) (N := 13) hx hb hts inX0 hown hK hP (7 + u) (Q_u hRc (by first | omega | decide | assumption)) rfl 4 (by decide) (hts (.fieldLink RX0 21 "BootStage$Unit" "faults" "I") (by decide +kernel)) (fun _ h9 => h9) rfl dX0_comeToEnd_34 ?_
    refine lv_iconst (v := nI 1) hx hb dX0_comeToEnd_37 (by decide) ?_
    refine n_isub hx hb dX0_comeToEnd_38 (by omega) ?_
    refine x_put (D := D) (G := G) (ci := 1) (ty := .int) (C := RX0) (T := TX0) (N := 13) (Z := fun wl => Rc G (up2 c 4 u ((c 4 u) - 1)) wl ∧ Rr G r wl ∧ Ro G o wl) hx hb hts inX0 tyX0 tyX0_ok nmX0 hown hK hP hD hS (7 + u) (Q_u hRc (by first | omega | decide | assumption)) rfl 4 (by decide) (hts (.fieldLink RX0 21 "BootStage$Unit" "faults" "I") (by decide +kernel)) (fun _ h9 => h9) rfl (by decide +kernel) rfl rfl (Nat.le_of_ble_eq_true rfl) dX0_comeToEnd_39 ⟨P_u4 (u := u) ((c 4 u) - 1) (by first | omega | decide | assumption) hRc, Rr_fr hRr (by omega), Ro_fr hRo (by omega)⟩ (fun H locs wl hZ hP hD hS => ?_)
    obtain ⟨hRc, hRr, hRo⟩ := hZ
    refine lv_aload_n hx hb dX0_comeToEnd_42 rfl (lv_at hl 0 rfl) ?_
    refine va_get (D := D) (ci := 1) (v := .int (nI (c 11 u))) (C := RX0) (T := TX0) (N := 13) hx hb hts inX0 hown hK hP (7 + u) (Q_u hRc (by first | omega | decide | assumption)) rfl 11 (by decide) (hts (.fieldLink RX0 44 "BootStage$Unit" "retriesUsed" "I") (by decide +kernel)) (fun _ h9 => h9) (congrArg (fun z => some (Value.int (nI z))) (show (up2 c 4 u ((c 4 u) - 1)) 11 u = c 11 u from by simp [up2])) dX0_comeToEnd_43 ?_
    refine lv_aload_n hx hb dX0_comeToEnd_46 rfl (lv_at hl 0 rfl) ?_
    refine va_get (D := D) (ci := 1) (v := .int (nI (c 2 u))) (C := RX0) (T := TX0) (N := 13) hx hb hts inX0 hown hK hP (7 + u) (Q_u hRc (by first | omega | decide | assumption)) rfl 2 (by decide) (hts (.fieldLink RX0 15 "BootStage$Unit" "retries" "I") (by decide +kernel)) (fun _ h9 => h9) (congrArg (fun z => some (Value.int (nI z))) (show (up2 c 4 u ((c 4 u) - 1)) 2 u = c 2 u from by simp [up2])) dX0_comeToEnd_47 ?_
    refine n_icmp_ge (tgt := 71) hx hb dX0_comeToEnd_50 (by decide) (hB _ _ (by decide)) (hB _ _ (by decide)) (fun c_50 => ?_) (fun c_50 => ?_)
    · refine lv_aload_n hx hb dX0_comeToEnd_71 rfl (lv_at hl 0 rfl) ?_
      refine lv_iconst (v := nI 3) hx hb dX0_comeToEnd_72 (by decide) ?_
      refine x_put (D := D) (G := G) (ci := 1) (ty := .int) (C := RX0) (T := TX0) (N := 13) (Z := fun wl => Rc G (up2 (up2 c 4 u ((c 4 u) - 1)) 9 u 3) wl ∧ Rr G r wl ∧ Ro G o wl) hx hb hts inX0 tyX0 tyX0_ok nmX0 hown hK hP hD hS (7 + u) (Q_u hRc (by first | omega | decide | assumption)) rfl 9 (by decide) (hts (.fieldLink RX0 38 "BootStage$Unit" "state" "I") (by decide +kernel)) (fun _ h9 => h9) rfl (by decide +kernel) rfl rfl (Nat.le_of_ble_eq_true rfl) dX0_comeToEnd_73 ⟨P_u9 (u := u) 3 (by first | omega | decide | assumption) hRc, Rr_fr hRr (by omega), Ro_fr hRo (by omega)⟩ (fun H locs wl hZ hP hD hS => ?_)
      obtain ⟨hRc, hRr, hRo⟩ := hZ
      exact W.vret hx hb hr (fun t ht hW => ⟨⟨(), rfl, trivial, Wr_mk (show Rc G (c_come c u) wl from by rw [show (c_come c u) = up2 (up2 c 4 u ((c 4 u) - 1)) 9 u 3 from by unfold c_come; rw [if_neg (by omega), if_neg (by omega)]]; exact hRc) hRr hRo hP hD ht⟩, hS.F ht⟩) hS.2.2 dX0_comeToEnd_76
    · refine lv_aload_n hx hb dX0_comeToEnd_53 rfl (lv_at hl 0 rfl) ?_
      refine lv_dup hx hb dX0_comeToEnd_54 rfl ?_
      refine va_get (D := D) (ci := 1) (v := .int (nI (c 11 u))) (C := RX0) (T := TX0) (N := 13) hx hb hts inX0 hown hK hP (7 + u) (Q_u hRc (by first | omega | decide | assumption)) rfl 11 (by decide) (hts (.fieldLink RX0 44 "BootStage$Unit" "retriesUsed" "I") (by decide +kernel)) (fun _ h9 => h9) (congrArg (fun z => some (Value.int (nI z))) (show (up2 c 4 u ((c 4 u) - 1)) 11 u = c 11 u from by simp [up2])) dX0_comeToEnd_55 ?_
      refine lv_iconst (v := nI 1) hx hb dX0_comeToEnd_58 (by decide) ?_
      refine n_iadd hx hb dX0_comeToEnd_59 ?_
      refine x_put (D := D) (G := G) (ci := 1) (ty := .int) (C := RX0) (T := TX0) (N := 13) (Z := fun wl => Rc G (up2 (up2 c 4 u ((c 4 u) - 1)) 11 u ((c 11 u) + 1)) wl ∧ Rr G r wl ∧ Ro G o wl) hx hb hts inX0 tyX0 tyX0_ok nmX0 hown hK hP hD hS (7 + u) (Q_u hRc (by first | omega | decide | assumption)) rfl 11 (by decide) (hts (.fieldLink RX0 44 "BootStage$Unit" "retriesUsed" "I") (by decide +kernel)) (fun _ h9 => h9) rfl (by decide +kernel) rfl rfl (Nat.le_of_ble_eq_true rfl) dX0_comeToEnd_60 ⟨P_u11 (u := u) ((c 11 u) + 1) (by first | omega | decide | assumption) hRc, Rr_fr hRr (by omega), Ro_fr hRo (by omega)⟩ (fun H locs wl hZ hP hD hS => ?_)
      obtain ⟨hRc, hRr, hRo⟩ := hZ
      refine lv_aload_n hx hb dX0_comeToEnd_63 rfl (lv_at hl 0 rfl) ?_
      refine lv_iconst (v := nI 0) hx hb dX0_comeToEnd_64 (by decide) ?_
      refine x_put (D := D) (G := G) (ci := 1) (ty := .int) (C := RX0) (T := TX0) (N := 13) (Z := fun wl => Rc G (up2 (up2 (up2 c 4 u ((c 4 u) - 1)) 11 u ((c 11 u) + 1)) 9 u 0) wl ∧ Rr G r wl ∧ Ro G o wl) hx hb hts inX0 tyX0 tyX0_ok nmX0 hown hK hP hD hS (7 + u) (Q_u hRc (by first | omega | decide | assumption)) rfl 9 (by decide) (hts (.fieldLink RX0 38 "BootStage$Unit" "state" "I") (by decide +kernel)) (fun _ h9 => h9) rfl (by decide +kernel) rfl rfl (Nat.le_of_ble_eq_true rfl) dX0_comeToEnd_65 ⟨P_u9 (u := u) 0 (by first | omega | decide | assumption) hRc, Rr_fr hRr (by omega), Ro_fr hRo (by omega)⟩ (fun H locs wl hZ hP hD hS => ?_)
      obtain ⟨hRc, hRr, hRo⟩ := hZ
      refine lv_goto (tgt := 76) hx hb dX0_comeToEnd_68 (by decide) ?_
      exact W.vret hx hb hr (fun t ht hW => ⟨⟨(), rfl, trivial, Wr_mk (show Rc G (c_come c u) wl from by rw [show (c_come c u) = up2 (up2 (up2 c 4 u ((c 4 u) - 1)) 11 u ((c 11 u) + 1)) 9 u 0 from by unfold c_come; rw [if_neg (by omega), if_pos (by assumption)]]; exact hRc) hRr hRo hP hD ht⟩, hS.F ht⟩) hS.2.2 dX0_comeToEnd_76
  · refine lv_aload_n hx hb dX0_comeToEnd_7 rfl (lv_at hl 0 rfl) ?_
    refine lv_iconst (v := nI 2) hx hb dX0_comeToEnd_8 (by decide) ?_
    refine x_put (D := D) (G := G) (ci := 1) (ty := .int) (C := RX0) (T := TX0) (N := 13) (Z := fun wl => Rc G (up2 c 9 u 2) wl ∧ Rr G r wl ∧ Ro G o wl) hx hb hts inX0 tyX0 tyX0_ok nmX0 hown hK hP hD hS (7 + u) (Q_u hRc (by first | omega | decide | assumption)) rfl 9 (by decide) (hts (.fieldLink RX0 38 "BootStage$Unit" "state" "I") (by decide +kernel)) (fun _ h9 => h9) rfl (by decide +kernel) rfl rfl (Nat.le_of_ble_eq_true rfl) dX0_comeToEnd_9 ⟨P_u9 (u := u) 2 (by first | omega | decide | assumption) hRc, Rr_fr hRr (by omega), Ro_fr hRo (by omega)⟩ (fun H locs wl hZ hP hD hS => ?_)
    obtain ⟨hRc, hRr, hRo⟩ := hZ
    refine lv_aload_n hx hb dX0_comeToEnd_12 rfl (lv_at hl 0 rfl) ?_
    refine lv_iconst (v := nI 1) hx hb dX0_comeToEnd_13 (by decide) ?_
    refine lv_aload_n hx hb dX0_comeToEnd_14 rfl (lv_at hl 0 rfl) ?_
    refine va_get (D := D) (ci := 1) (v := .int (nI (c 3 u))) (C := RX0) (T := TX0) (N := 13) hx hb hts inX0 hown hK hP (7 + u) (Q_u hRc (by first | omega | decide | assumption)) rfl 3 (by decide) (hts (.fieldLink RX0 18 "BootStage$Unit" "learned" "I") (by decide +kernel)) (fun _ h9 => h9) (congrArg (fun z => some (Value.int (nI z))) (show (up2 c 9 u 2) 3 u = c 3 u from by simp [up2])) dX0_comeToEnd_15 ?_
    refine lv_aload_n hx hb dX0_comeToEnd_18 rfl (lv_at hl 0 rfl) ?_
    refine va_get (D := D) (ci := 1) (v := .int (nI (c 1 u))) (C := RX0) (T := TX0) (N := 13) hx hb hts inX0 hown hK hP (7 + u) (Q_u hRc (by first | omega | decide | assumption)) rfl 1 (by decide) (hts (.fieldLink RX0 9 "BootStage$Unit" "time" "I") (by decide +kernel)) (fun _ h9 => h9) (congrArg (fun z => some (Value.int (nI z))) (show (up2 c 9 u 2) 1 u = c 1 u from by simp [up2])) dX0_comeToEnd_19 ?_
    refine n_iadd hx hb dX0_comeToEnd_22 ?_
    refine lv_iconst (v := nI 2) hx hb dX0_comeToEnd_23 (by decide) ?_
    refine n_idiv hx hb dX0_comeToEnd_24 (by omega) (by first | omega | decide | assumption) (by decide) ?_
    refine va_mmax hx hb (hml.trans hl.1.symm) hown (hts (.methodLink RX0 57 Lib.Math.max.name) (by decide +kernel)) (hts (.static Lib.Math.max.name) (by decide +kernel)) (hts (.initialized "java/lang/Math") (by decide +kernel)) (hts (.code Lib.Math.max.name Lib.Math.max.code 2 (some .int)) (by decide +kernel)) (Nat.le_of_ble_eq_true rfl) (Nat.le_of_ble_eq_true rfl) (Nat.le_of_ble_eq_true rfl) (Nat.le_of_ble_eq_true rfl) dX0_comeToEnd_25 ?_
    refine n_top (y := .int (nI (max 1 (((c 3 u) + (c 1 u)) / 2)))) (congrArg Value.int (nI_max (by decide) (by omega))) ?_
    refine x_put (D := D) (G := G) (ci := 1) (ty := .int) (C := RX0) (T := TX0) (N := 13) (Z := fun wl => Rc G (up2 (up2 c 9 u 2) 3 u (max 1 (((c 3 u) + (c 1 u)) / 2))) wl ∧ Rr G r wl ∧ Ro G o wl) hx hb hts inX0 tyX0 tyX0_ok nmX0 hown hK hP hD hS (7 + u) (Q_u hRc (by first | omega | decide | assumption)) rfl 3 (by decide) (hts (.fieldLink RX0 18 "BootStage$Unit" "learned" "I") (by decide +kernel)) (fun _ h9 => h9) rfl (by decide +kernel) rfl rfl (Nat.le_of_ble_eq_true rfl) dX0_comeToEnd_28 ⟨P_u3 (u := u) (max 1 (((c 3 u) + (c 1 u)) / 2)) (by first | omega | decide | assumption) hRc, Rr_fr hRr (by omega), Ro_fr hRo (by omega)⟩ (fun H locs wl hZ hP hD hS => ?_)
    obtain ⟨hRc, hRr, hRo⟩ := hZ
    exact W.vret hx hb hr (fun t ht hW => ⟨⟨(), rfl, trivial, Wr_mk (show Rc G (c_come c u) wl from by rw [show (c_come c u) = up2 (up2 c 9 u 2) 3 u (max 1 (((c 3 u) + (c 1 u)) / 2)) from by unfold c_come; rw [if_pos (by assumption)]]; exact hRc) hRr hRo hP hD ht⟩, hS.F ht⟩) hS.2.2 dX0_comeToEnd_31
set_option maxHeartbeats 4000000 in
set_option maxRecDepth 100000 in
theorem k_X0_timeDone (l : Launch) (D : va_G) (G : Nat → Nat) (h0 : Nat) (c r : Nat → Nat → Nat) (o : Nat) (u : Nat) (hu : u < 20) (hB : BC c) : Met l yX0_timeDone wsX0_timeDone ({ frames := 1, cells := 0, slots := 0, locals := 21 } : Room) (va_Pc [.ref (G (20 + u))] (fun U => Pr D G h0 c r o U)) (va_Qi (fun (v9 : Int32) (_ : Unit) => v9 = nI (c_part c u)) (fun _ t => Wr D G h0 c r o t) (fun q => h0 ≤ q)) 0 0 (fun q => h0 ≤ q) := by
  refine Met.ofW (cc := cX0_timeDone) (maxL := 1) (ret := (some .int)) (by decide) rfl ?_
  intro p e s m args below meth cd s₁ B hml hv
  obtain ⟨rfl, hE, wl, hRc, hRr, hRo, hP, hD⟩ := hv
  have hx := B.exec
  have hb := B.bytes
  have hr := B.returns
  have hts := atoms_spec (ws := wsX0_timeDone) B.pre
  have hown : s.vm.findClass RX0 = some m.cls := findClass_of_methodNamed B.named
  have hlocks := B.notSynchronized
  have hK := hE.2.1
  have hS : va_S (fun q => h0 ≤ q) s.heap s.heap [] := va_S.rf
  have hl := lv_entry ([.ref (G (20 + u))]) (n := 1) (Nat.le_of_ble_eq_true rfl)
  rw [lg_entry_eq]
  generalize (lg_sl ([.ref (G (20 + u))]) ++ List.replicate (1 - (lg_sl ([.ref (G (20 + u))])).length) Slot.unset).toArray = ls at hl ⊢
  have hl : lv_has ls 1 [(0, .ref (G (20 + u)))] := hl
  have inX0 : ∀ w ∈ wsX00, w ∈ wsX0_timeDone := by decide +kernel
  refine lv_aload_n hx hb dX0_timeDone_0 rfl (lv_at hl 0 rfl) ?_
  refine va_get (D := D) (ci := 1) (v := .int (nI (c 9 u))) (C := RX0) (T := TX0) (N := 13) hx hb hts inX0 hown hK hP (7 + u) (Q_u hRc (by first | omega | decide | assumption)) rfl 9 (by decide) (hts (.fieldLink RX0 38 "BootStage$Unit" "state" "I") (by decide +kernel)) (fun _ h9 => h9) rfl dX0_timeDone_1 ?_
  refine lv_iconst (v := nI 2) hx hb dX0_timeDone_4 (by decide) ?_
  refine n_icmp_eq (tgt := 16) hx hb dX0_timeDone_5 (by decide) (hB _ _ (by decide)) (by decide) (fun c_5 => ?_) (fun c_5 => ?_)
  · refine lv_aload_n hx hb dX0_timeDone_16 rfl (lv_at hl 0 rfl) ?_
    refine va_get (D := D) (ci := 1) (v := .int (nI (c 12 u))) (C := RX0) (T := TX0) (N := 13) hx hb hts inX0 hown hK hP (7 + u) (Q_u hRc (by first | omega | decide | assumption)) rfl 12 (by decide) (hts (.fieldLink RX0 47 "BootStage$Unit" "learnedAtBegin" "I") (by decide +kernel)) (fun _ h9 => h9) rfl dX0_timeDone_17 ?_
    exact W.iret (v := nI (c 12 u)) hx hb hr (fun t ht hW => ⟨⟨_, (), rfl, (show nI (c 12 u) = nI (c_part c u) from by unfold c_part; first | rw [if_pos (by omega)] | rw [if_neg (by omega), if_pos (by omega)] | rw [if_neg (by omega), if_neg (by omega)]), Wr_mk hRc hRr hRo hP hD ht⟩, hS.F ht⟩) hS.2.2 dX0_timeDone_20
  · refine lv_aload_n hx hb dX0_timeDone_8 rfl (lv_at hl 0 rfl) ?_
    refine va_get (D := D) (ci := 1) (v := .int (nI (c 9 u))) (C := RX0) (T := TX0) (N := 13) hx hb hts inX0 hown hK hP (7 + u) (Q_u hRc (by first | omega | decide | assumption)) rfl 9 (by decide) (hts (.fieldLink RX0 38 "BootStage$Unit" "state" "I") (by decide +kernel)) (fun _ h9 => h9) rfl dX0_timeDone_9 ?_
    refine lv_iconst (v := nI 3) hx hb dX0_timeDone_12 (by decide) ?_
    refine n_icmp_ne (tgt := 21) hx hb dX0_timeDone_13 (by decide) (hB _ _ (by decide)) (by decide) (fun c_13 => ?_) (fun c_13 => ?_)
    · refine lv_aload_n hx hb dX0_timeDone_21 rfl (lv_at hl 0 rfl) ?_
      refine va_get (D := D) (ci := 1) (v := .int (nI (c 9 u))) (C := RX0) (T := TX0) (N := 13) hx hb hts inX0 hown hK hP (7 + u) (Q_u hRc (by first | omega | decide | assumption)) rfl 9 (by decide) (hts (.fieldLink RX0 38 "BootStage$Unit" "state" "I") (by decide +kernel)) (fun _ h9 => h9) rfl dX0_timeDone_22 ?_
      refine lv_iconst (v := nI 1) hx hb dX0_timeDone_25 (by decide) ?_
      refine n_icmp_ne (tgt := 43) hx hb dX0_timeDone_26 (by decide) (hB _ _ (by decide)) (by decide) (fun c_26 => ?_) (fun c_26 => ?_)
      · refine lv_iconst (v := nI 0) hx hb dX0_timeDone_43 (by decide) ?_
        exact W.iret (v := nI 0) hx hb hr (fun t ht hW => ⟨⟨_, (), rfl, (show nI 0 = nI (c_part c u) from by unfold c_part; first | rw [if_pos (by omega)] | rw [if_neg (by omega), if_pos (by omega)] | rw [if_neg (by omega), if_neg (by omega)]), Wr_mk hRc hRr hRo hP hD ht⟩, hS.F ht⟩) hS.2.2 dX0_timeDone_44
      · refine lv_aload_n hx hb dX0_timeDone_29 rfl (lv_at hl 0 rfl) ?_
        refine va_get (D := D) (ci := 1) (v := .int (nI (c 10 u))) (C := RX0) (T := TX0) (N := 13) hx hb hts inX0 hown hK hP (7 + u) (Q_u hRc (by first | omega | decide | assumption)) rfl 10 (by decide) (hts (.fieldLink RX0 41 "BootStage$Unit" "ticksStarting" "I") (by decide +kernel)) (fun _ h9 => h9) rfl dX0_timeDone_30 ?_
        refine lv_aload_n hx hb dX0_timeDone_33 rfl (lv_at hl 0 rfl) ?_
        refine va_get (D := D) (ci := 1) (v := .int (nI (c 12 u))) (C := RX0) (T := TX0) (N := 13) hx hb hts inX0 hown hK hP (7 + u) (Q_u hRc (by first | omega | decide | assumption)) rfl 12 (by decide) (hts (.fieldLink RX0 47 "BootStage$Unit" "learnedAtBegin" "I") (by decide +kernel)) (fun _ h9 => h9) rfl dX0_timeDone_34 ?_
        refine va_mmin hx hb (hml.trans hl.1.symm) hown (hts (.methodLink RX0 63 Lib.Math.min.name) (by decide +kernel)) (hts (.static Lib.Math.min.name) (by decide +kernel)) (hts (.initialized "java/lang/Math") (by decide +kernel)) (hts (.code Lib.Math.min.name Lib.Math.min.code 2 (some .int)) (by decide +kernel)) (Nat.le_of_ble_eq_true rfl) (Nat.le_of_ble_eq_true rfl) (Nat.le_of_ble_eq_true rfl) (Nat.le_of_ble_eq_true rfl) dX0_timeDone_37 ?_
        refine n_top (y := .int (nI (min (c 10 u) (c 12 u)))) (congrArg Value.int (nI_min (hB _ _ (by decide)) (hB _ _ (by decide)))) ?_
        refine lv_goto (tgt := 44) hx hb dX0_timeDone_40 (by decide) ?_
        exact W.iret (v := nI (min (c 10 u) (c 12 u))) hx hb hr (fun t ht hW => ⟨⟨_, (), rfl, (show nI (min (c 10 u) (c 12 u)) = nI (c_part c u) from by unfold c_part; first | rw [if_pos (by omega)] | rw [if_neg (by omega), if_pos (by omega)] | rw [if_neg (by omega), if_neg (by omega)]), Wr_mk hRc hRr hRo hP hD ht⟩, hS.F ht⟩) hS.2.2 dX0_timeDone_44
    · refine lv_aload_n hx hb dX0_timeDone_16 rfl (lv_at hl 0 rfl) ?_
      refine va_get (D := D) (ci := 1) (v := .int (nI (c 12 u))) (C := RX0) (T := TX0) (N := 13) hx hb hts inX0 hown hK hP (7 + u) (Q_u hRc (by first | omega | decide | assumption)) rfl 12 (by decide) (hts (.fieldLink RX0 47 "BootStage$Unit" "learnedAtBegin" "I") (by decide +kernel)) (fun _ h9 => h9) rfl dX0_timeDone_17 ?_
      exact W.iret (v := nI (c 12 u)) hx hb hr (fun t ht hW => ⟨⟨_, (), rfl, (show nI (c 12 u) = nI (c_part c u) from by unfold c_part; first | rw [if_pos (by omega)] | rw [if_neg (by omega), if_pos (by omega)] | rw [if_neg (by omega), if_neg (by omega)]), Wr_mk hRc hRr hRo hP hD ht⟩, hS.F ht⟩) hS.2.2 dX0_timeDone_20
