def okR (r : Nat → Nat → Nat) (x : Int32) : Prop := ∃ j, j < r 30 0 ∧ x = nI j
theorem okR_iff {r : Nat → Nat → Nat} {x : Int32} (hn : r 30 0 ≤ 20) : (¬ x < nI 0 ∧ x ≤ siI (r 30 0)) ↔ okR r x := by
  unfold okR
  constructor
  · intro h
    rcases Nat.eq_zero_or_pos (r 30 0) with e | e
    · rw [e, siI_0] at h
      exfalso
      have h1 := h.1
      have h2 := h.2
      rw [Int32.lt_iff_toInt_lt] at h1
      rw [Int32.le_iff_toInt_le] at h2
      have e1 : (nI 0).toInt = 0 := by decide
      have e2 : (-1 : Int32).toInt = -1 := by decide
      omega
    · obtain ⟨k, hk⟩ : ∃ k, r 30 0 = k + 1 := ⟨r 30 0 - 1, by omega⟩
      rw [hk, siI_s] at h
      obtain ⟨t, ht, e2⟩ := inR_nI (lo := 0) (hi := k) h (by decide) (by omega)
      exact ⟨t, by omega, e2⟩
  · intro ⟨j, hj, e⟩
    obtain ⟨k, hk⟩ : ∃ k, r 30 0 = k + 1 := ⟨r 30 0 - 1, by omega⟩
    rw [hk, siI_s, e]
    exact inR_of (Nat.zero_le _) (by omega) (by omega)
set_option maxHeartbeats 4000000 in
set_option maxRecDepth 100000 in
theorem k_X3_isIn (l : Launch) (D : va_G) (G : Nat → Nat) (h0 : Nat) (c r : Nat → Nat → Nat) (o : Nat) (v a b : Int32) : Met l yX3_isIn wsX3_isIn ({ frames := 0, cells := 0, slots := 0, locals := 0 } : Room) (va_Pc [.int v, .int a, .int b] (fun U => Pr D G h0 c r o U)) (va_Qi (fun (v9 : Int32) (_ : Unit) => v9 = nI (bN (¬ v < a ∧ v ≤ b))) (fun _ t => Wr D G h0 c r o t) (fun q => h0 ≤ q)) 0 0 (fun q => h0 ≤ q) := by
  refine Met.ofW (cc := cX3_isIn) (maxL := 3) (ret := (some .boolean)) (by decide) rfl ?_
  intro p e s m args below meth cd s₁ B hml hv
  obtain ⟨rfl, hE, wl, hRc, hRr, hRo, hP, hD⟩ := hv
  have hx := B.exec
  have hb := B.bytes
  have hr := B.returns
  have hts := atoms_spec (ws := wsX3_isIn) B.pre
  have hown : s.vm.findClass RX3 = some m.cls := findClass_of_methodNamed B.named
  have hlocks := B.notSynchronized
  have hK := hE.2.1
  have hS : va_S (fun q => h0 ≤ q) s.heap s.heap [] := va_S.rf
  have hl := lv_entry ([.int v, .int a, .int b]) (n := 3) (Nat.le_of_ble_eq_true rfl)
  rw [lg_entry_eq]
  generalize (lg_sl ([.int v, .int a, .int b]) ++ List.replicate (3 - (lg_sl ([.int v, .int a, .int b])).length) Slot.unset).toArray = ls at hl ⊢
  have hl : lv_has ls 3 [(0, .int v), (1, .int a), (2, .int b)] := hl
  refine lv_iload_n hx hb dX3_isIn_0 rfl (lv_at hl 0 rfl) ?_
  refine lv_iload_n hx hb dX3_isIn_1 rfl (lv_at hl 1 rfl) ?_
  refine lv_icmp_lt (tgt := 14) hx hb dX3_isIn_2 (by decide) (fun c_2 => ?_) (fun c_2 => ?_)
  · refine lv_iconst (v := nI 0) hx hb dX3_isIn_14 (by decide) ?_
    exact W.zret (v := nI 0) (ty := .boolean) hx hb hr (nb_le (by first | exact bN_le _ | decide | omega | assumption)) (fun t ht hW => ⟨⟨_, (), rfl, (show nI 0 = nI (bN (¬ v < a ∧ v ≤ b)) from by exact congrArg nI (bN_f (fun z => z.1 c_2)).symm), Wr_mk hRc hRr hRo hP hD ht⟩, hS.F ht⟩) hS.2.2 dX3_isIn_15
  · refine lv_iload_n hx hb dX3_isIn_5 rfl (lv_at hl 0 rfl) ?_
    refine lv_iload_n hx hb dX3_isIn_6 rfl (lv_at hl 2 rfl) ?_
    refine lv_icmp_gt (tgt := 14) hx hb dX3_isIn_7 (by decide) (fun c_7 => ?_) (fun c_7 => ?_)
    · refine lv_iconst (v := nI 0) hx hb dX3_isIn_14 (by decide) ?_
      exact W.zret (v := nI 0) (ty := .boolean) hx hb hr (nb_le (by first | exact bN_le _ | decide | omega | assumption)) (fun t ht hW => ⟨⟨_, (), rfl, (show nI 0 = nI (bN (¬ v < a ∧ v ≤ b)) from by exact congrArg nI (bN_f (fun z => Int32.not_lt.mpr z.2 c_7)).symm), Wr_mk hRc hRr hRo hP hD ht⟩, hS.F ht⟩) hS.2.2 dX3_isIn_15
    · refine lv_iconst (v := nI 1) hx hb dX3_isIn_10 (by decide) ?_
      refine lv_goto (tgt := 15) hx hb dX3_isIn_11 (by decide) ?_
      exact W.zret (v := nI 1) (ty := .boolean) hx hb hr (nb_le (by first | exact bN_le _ | decide | omega | assumption)) (fun t ht hW => ⟨⟨_, (), rfl, (show nI 1 = nI (bN (¬ v < a ∧ v ≤ b)) from by exact congrArg nI (bN_t ⟨c_2, Int32.not_lt.mp c_7⟩).symm), Wr_mk hRc hRr hRo hP hD ht⟩, hS.F ht⟩) hS.2.2 dX3_isIn_15
set_option maxHeartbeats 4000000 in
set_option maxRecDepth 100000 in
theorem k_X3_goes (l : Launch) (D : va_G) (G : Nat → Nat) (h0 : Nat) (c r : Nat → Nat → Nat) (o : Nat) (w : Nat) (hw : w < 2 ^ 31) : Met l yX3_goes wsX3_goes ({ frames := 0, cells := 0, slots := 0, locals := 0 } : Room) (va_Pc [.ref (G 3), .int (nI w)] (fun U => Pr D G h0 c r o U)) (va_Qi (fun (v9 : Int32) (_ : Unit) => v9 = nI (bN (w = 0))) (fun _ t => Wr D G h0 c (up2 r 30 22 w) o t) (fun q => h0 ≤ q)) 0 0 (fun q => h0 ≤ q) := by
  refine Met.ofW (cc := cX3_goes) (maxL := 2) (ret := (some .boolean)) (by decide) rfl ?_
  intro p e s m args below meth cd s₁ B hml hv
  obtain ⟨rfl, hE, wl, hRc, hRr, hRo, hP, hD⟩ := hv
  have hx := B.exec
  have hb := B.bytes
  have hr := B.returns
  have hts := atoms_spec (ws := wsX3_goes) B.pre
  have hown : s.vm.findClass RX3 = some m.cls := findClass_of_methodNamed B.named
  have hlocks := B.notSynchronized
  have hK := hE.2.1
  have hS : va_S (fun q => h0 ≤ q) s.heap s.heap [] := va_S.rf
  have hl := lv_entry ([.ref (G 3), .int (nI w)]) (n := 2) (Nat.le_of_ble_eq_true rfl)
  rw [lg_entry_eq]
  generalize (lg_sl ([.ref (G 3), .int (nI w)]) ++ List.replicate (2 - (lg_sl ([.ref (G 3), .int (nI w)])).length) Slot.unset).toArray = ls at hl ⊢
  have hl : lv_has ls 2 [(0, .ref (G 3)), (1, .int (nI w))] := hl
  have inX3 : ∀ w ∈ wsX30, w ∈ wsX3_goes := by decide +kernel
  refine lv_aload_n hx hb dX3_goes_0 rfl (lv_at hl 0 rfl) ?_
  refine lv_iload_n hx hb dX3_goes_1 rfl (lv_at hl 1 rfl) ?_
  refine x_put (D := D) (G := G) (ci := 4) (ty := .int) (C := RX3) (T := TX3) (N := 23) (Z := fun wl => Rc G c wl ∧ Rr G (up2 r 30 22 w) wl ∧ Ro G o wl) hx hb hts inX3 tyX3 tyX3_ok nmX3 hown hK hP hD hS 3 (Q_m hRr) rfl 22 (by decide) (hts (.fieldLink RX3 56 "BootStageModel" "thrown" "I") (by decide +kernel)) (fun _ h9 => h9) rfl (by decide +kernel) rfl rfl (Nat.le_of_ble_eq_true rfl) dX3_goes_2 ⟨Rc_fr hRc (by decide) (by decide), P_m22 w hRr, Ro_fr hRo (by decide)⟩ (fun H locs wl hZ hP hD hS => ?_)
  obtain ⟨hRc, hRr, hRo⟩ := hZ
  refine lv_iload_n hx hb dX3_goes_5 rfl (lv_at hl 1 rfl) ?_
  refine n_if_ne (tgt := 13) hx hb dX3_goes_6 (by decide) hw (fun c_6 => ?_) (fun c_6 => ?_)
  · refine lv_iconst (v := nI 0) hx hb dX3_goes_13 (by decide) ?_
    exact W.zret (v := nI 0) (ty := .boolean) hx hb hr (nb_le (by first | exact bN_le _ | decide | omega | assumption)) (fun t ht hW => ⟨⟨_, (), rfl, (show nI 0 = nI (bN (w = 0)) from by first | rfl | (apply congrArg nI; omega) | exact congrArg nI (bN_t (by omega)).symm | exact congrArg nI (bN_f (by omega)).symm), Wr_mk hRc hRr hRo hP hD ht⟩, hS.F ht⟩) hS.2.2 dX3_goes_14
  · refine lv_iconst (v := nI 1) hx hb dX3_goes_9 (by decide) ?_
    refine lv_goto (tgt := 14) hx hb dX3_goes_10 (by decide) ?_
    exact W.zret (v := nI 1) (ty := .boolean) hx hb hr (nb_le (by first | exact bN_le _ | decide | omega | assumption)) (fun t ht hW => ⟨⟨_, (), rfl, (show nI 1 = nI (bN (w = 0)) from by first | rfl | (apply congrArg nI; omega) | exact congrArg nI (bN_t (by omega)).symm | exact congrArg nI (bN_f (by omega)).symm), Wr_mk hRc hRr hRo hP hD ht⟩, hS.F ht⟩) hS.2.2 dX3_goes_14
set_option maxHeartbeats 4000000 in
set_option maxRecDepth 100000 in
theorem k_X3_isUnit (l : Launch) (D : va_G) (G : Nat → Nat) (h0 : Nat) (c r : Nat → Nat → Nat) (o : Nat) (x : Int32) (hn : r 30 0 ≤ 20) : Met l yX3_isUnit wsX3_isUnit ({ frames := 1, cells := 0, slots := 0, locals := 22 } : Room) (va_Pc [.ref (G 3), .int x] (fun U => Pr D G h0 c r o U)) (va_Qi (fun (v9 : Int32) (_ : Unit) => v9 = nI (bN (okR r x))) (fun _ t => Wr D G h0 c r o t) (fun q => h0 ≤ q)) 0 0 (fun q => h0 ≤ q) := by
  refine Met.ofW (cc := cX3_isUnit) (maxL := 2) (ret := (some .boolean)) (by decide) rfl ?_
  intro p e s m args below meth cd s₁ B hml hv
  obtain ⟨rfl, hE, wl, hRc, hRr, hRo, hP, hD⟩ := hv
  have hx := B.exec
  have hb := B.bytes
  have hr := B.returns
  have hts := atoms_spec (ws := wsX3_isUnit) B.pre
  have hown : s.vm.findClass RX3 = some m.cls := findClass_of_methodNamed B.named
  have hlocks := B.notSynchronized
  have hK := hE.2.1
  have hS : va_S (fun q => h0 ≤ q) s.heap s.heap [] := va_S.rf
  have hl := lv_entry ([.ref (G 3), .int x]) (n := 2) (Nat.le_of_ble_eq_true rfl)
  rw [lg_entry_eq]
  generalize (lg_sl ([.ref (G 3), .int x]) ++ List.replicate (2 - (lg_sl ([.ref (G 3), .int x])).length) Slot.unset).toArray = ls at hl ⊢
  have hl : lv_has ls 2 [(0, .ref (G 3)), (1, .int x)] := hl
  have inX3 : ∀ w ∈ wsX30, w ∈ wsX3_isUnit := by decide +kernel
  refine lv_iload_n hx hb dX3_isUnit_0 rfl (lv_at hl 1 rfl) ?_
  refine lv_iconst (v := nI 0) hx hb dX3_isUnit_1 (by decide) ?_
  refine lv_aload_n hx hb dX3_isUnit_2 rfl (lv_at hl 0 rfl) ?_
  refine va_get (D := D) (ci := 4) (v := .int (nI (r 30 0))) (C := RX3) (T := TX3) (N := 23) hx hb hts inX3 hown hK hP 3 (Q_m hRr) rfl 0 (by decide) (hts (.fieldLink RX3 60 "BootStageModel" "units" "I") (by decide +kernel)) (fun _ h9 => h9) rfl dX3_isUnit_3 ?_
  refine lv_iconst (v := nI 1) hx hb dX3_isUnit_6 (by decide) ?_
  refine lv_isub hx hb dX3_isUnit_7 ?_; refine n_top (y := .int (siI (r 30 0))) (congrArg Value.int (congrArg (nI (r 30 0) - ·) (show nI 1 = (1 : Int32) by decide))) ?_
  refine y_calli (va_runS (As := [.int x, .int (nI 0), .int (siI (r 30 0))]) (rest := []) ⟨hx, hb, hml, hown, hts⟩ (k_X3_isIn l D G h0 c r o x (nI 0) (siI (r 30 0))) (va_cwS 3 hts gX3_isUnit_X3_isIn rfl rfl rfl (by decide +kernel) ⟨Nat.le_of_ble_eq_true rfl, Nat.le_of_ble_eq_true rfl⟩) ⟨fun a U g mk q => ⟨q.1, Pr_cg q.2⟩, fun U hU hW => ⟨rfl, Pr_mk hE hRc hRr hRo hP hD hS hU hW⟩⟩ rfl rfl hl.1 rfl (lv_room (Nat.le_of_ble_eq_true rfl)) dX3_isUnit_8 ⟨Nat.le_of_ble_eq_true rfl, Nat.le_of_ble_eq_true rfl⟩) hS (fun v9 _ H locs wl hv9 hRc hRr hRo hP hD hS => ?_)
  refine n_top (y := .int (nI (bN (¬ x < nI 0 ∧ x ≤ siI (r 30 0))))) (congrArg Value.int hv9) ?_
  clear hv9 v9
  exact W.zret (v := nI (bN (¬ x < nI 0 ∧ x ≤ siI (r 30 0)))) (ty := .boolean) hx hb hr (nb_le (by first | exact bN_le _ | decide | omega | assumption)) (fun t ht hW => ⟨⟨_, (), rfl, (show nI (bN (¬ x < nI 0 ∧ x ≤ siI (r 30 0))) = nI (bN (okR r x)) from by exact congrArg nI (bN_c (okR_iff hn))), Wr_mk hRc hRr hRo hP hD ht⟩, hS.F ht⟩) hS.2.2 dX3_isUnit_11
set_option maxHeartbeats 4000000 in
set_option maxRecDepth 100000 in
theorem k_X3_edge (l : Launch) (D : va_G) (G : Nat → Nat) (h0 : Nat) (c r : Nat → Nat → Nat) (o : Nat) (u v : Nat) : Met l yX3_edge wsX3_edge ({ frames := 0, cells := 0, slots := 0, locals := 0 } : Room) (va_Pc [.int (nI u), .int (nI v)] (fun U => Pr D G h0 c r o U)) (va_Qi (fun (v9 : Int32) (_ : Unit) => v9 = nI (20 * u + v)) (fun _ t => Wr D G h0 c r o t) (fun q => h0 ≤ q)) 0 0 (fun q => h0 ≤ q) := by
  refine Met.ofW (cc := cX3_edge) (maxL := 2) (ret := (some .int)) (by decide) rfl ?_
  intro p e s m args below meth cd s₁ B hml hv
  obtain ⟨rfl, hE, wl, hRc, hRr, hRo, hP, hD⟩ := hv
  have hx := B.exec
  have hb := B.bytes
  have hr := B.returns
  have hts := atoms_spec (ws := wsX3_edge) B.pre
  have hown : s.vm.findClass RX3 = some m.cls := findClass_of_methodNamed B.named
  have hlocks := B.notSynchronized
  have hK := hE.2.1
  have hS : va_S (fun q => h0 ≤ q) s.heap s.heap [] := va_S.rf
  have hl := lv_entry ([.int (nI u), .int (nI v)]) (n := 2) (Nat.le_of_ble_eq_true rfl)
  rw [lg_entry_eq]
  generalize (lg_sl ([.int (nI u), .int (nI v)]) ++ List.replicate (2 - (lg_sl ([.int (nI u), .int (nI v)])).length) Slot.unset).toArray = ls at hl ⊢
  have hl : lv_has ls 2 [(0, .int (nI u)), (1, .int (nI v))] := hl
  refine lv_bipush (v := nI 20) hx hb dX3_edge_0 (by decide) ?_
  refine lv_iload_n hx hb dX3_edge_2 rfl (lv_at hl 0 rfl) ?_
  refine n_imul hx hb dX3_edge_3 ?_
  refine lv_iload_n hx hb dX3_edge_4 rfl (lv_at hl 1 rfl) ?_
  refine n_iadd hx hb dX3_edge_5 ?_
  exact W.iret (v := nI ((20 * u) + v)) hx hb hr (fun t ht hW => ⟨⟨_, (), rfl, (show nI ((20 * u) + v) = nI (20 * u + v) from by first | rfl | (apply congrArg nI; omega) | exact congrArg nI (bN_t (by omega)).symm | exact congrArg nI (bN_f (by omega)).symm), Wr_mk hRc hRr hRo hP hD ht⟩, hS.F ht⟩) hS.2.2 dX3_edge_6
set_option maxHeartbeats 4000000 in
set_option maxRecDepth 100000 in
theorem k_X3_asks (l : Launch) (D : va_G) (G : Nat → Nat) (h0 : Nat) (c r : Nat → Nat → Nat) (o : Nat) (x : Int32) (hn : r 30 0 ≤ 20) : Met l yX3_asks wsX3_asks ({ frames := 2, cells := 0, slots := 0, locals := 43 } : Room) (va_Pc [.ref (G 3), .int x] (fun U => Pr D G h0 c r o U)) (va_Qi (fun (v9 : Int32) (_ : Unit) => v9 = nI (bN (okR r x))) (fun _ t => Wr D G h0 c (up2 r 30 22 (1 - bN (okR r x))) o t) (fun q => h0 ≤ q)) 0 0 (fun q => h0 ≤ q) := by
  refine Met.ofW (cc := cX3_asks) (maxL := 2) (ret := (some .boolean)) (by decide) rfl ?_
  intro p e s m args below meth cd s₁ B hml hv
  obtain ⟨rfl, hE, wl, hRc, hRr, hRo, hP, hD⟩ := hv
  have hx := B.exec
  have hb := B.bytes
  have hr := B.returns
  have hts := atoms_spec (ws := wsX3_asks) B.pre
  have hown : s.vm.findClass RX3 = some m.cls := findClass_of_methodNamed B.named
  have hlocks := B.notSynchronized
  have hK := hE.2.1
  have hS : va_S (fun q => h0 ≤ q) s.heap s.heap [] := va_S.rf
  have hl := lv_entry ([.ref (G 3), .int x]) (n := 2) (Nat.le_of_ble_eq_true rfl)
  rw [lg_entry_eq]
  generalize (lg_sl ([.ref (G 3), .int x]) ++ List.replicate (2 - (lg_sl ([.ref (G 3), .int x])).length) Slot.unset).toArray = ls at hl ⊢
  have hl : lv_has ls 2 [(0, .ref (G 3)), (1, .int x)] := hl
  refine lv_aload_n hx hb dX3_asks_0 rfl (lv_at hl 0 rfl) ?_
  refine lv_aload_n hx hb dX3_asks_1 rfl (lv_at hl 0 rfl) ?_
  refine lv_iload_n hx hb dX3_asks_2 rfl (lv_at hl 1 rfl) ?_
  refine y_calli (va_runV (As := [.int x]) (rest := [.ref (G 3)]) ⟨hx, hb, hml, hown, hts⟩ (k_X3_isUnit l D G h0 c r o x (by first | exact hn | assumption)) (cwV 1 hts gX3_asks_X3_isUnit rfl rfl rfl (by decide +kernel) ⟨Nat.le_of_ble_eq_true rfl, Nat.le_of_ble_eq_true rfl⟩) ⟨fun a U g mk q => ⟨q.1, Pr_cg q.2⟩, va_recv (ci := 4) (q0 := 3) hK hP rfl (Q_m hRr), fun U hU hW => ⟨rfl, Pr_mk hE hRc hRr hRo hP hD hS hU hW⟩⟩ rfl rfl hl.1 rfl (lv_room (Nat.le_of_ble_eq_true rfl)) dX3_asks_3 ⟨Nat.le_of_ble_eq_true rfl, Nat.le_of_ble_eq_true rfl⟩) hS (fun v9 _ H locs wl hv9 hRc hRr hRo hP hD hS => ?_)
  refine n_top (y := .int (nI (bN (okR r x)))) (congrArg Value.int hv9) ?_
  clear hv9 v9
  refine n_ifb_eq (tgt := 13) hx hb dX3_asks_6 (by decide) (fun c_6 => ?_) (fun c_6 => ?_)
  · refine lv_iconst (v := nI 1) hx hb dX3_asks_13 (by decide) ?_
    refine y_calli (va_runV (As := [.int (nI 1)]) (rest := []) ⟨hx, hb, hml, hown, hts⟩ (k_X3_goes l D G h0 c r o 1 (by decide)) (cwV 1 hts gX3_asks_X3_goes rfl rfl rfl (by decide +kernel) ⟨Nat.le_of_ble_eq_true rfl, Nat.le_of_ble_eq_true rfl⟩) ⟨fun a U g mk q => ⟨q.1, Pr_cg q.2⟩, va_recv (ci := 4) (q0 := 3) hK hP rfl (Q_m hRr), fun U hU hW => ⟨rfl, Pr_mk hE hRc hRr hRo hP hD hS hU hW⟩⟩ rfl rfl hl.1 rfl (lv_room (Nat.le_of_ble_eq_true rfl)) dX3_asks_14 ⟨Nat.le_of_ble_eq_true rfl, Nat.le_of_ble_eq_true rfl⟩) hS (fun v9 _ H locs wl hv9 hRc hRr hRo hP hD hS => ?_)
    refine n_top (y := .int (nI 0)) (congrArg Value.int (hv9.trans (congrArg nI (bN_f (by decide))))) ?_
    clear hv9 v9
    exact W.zret (v := nI 0) (ty := .boolean) hx hb hr (nb_le (by first | exact bN_le _ | decide | omega | assumption)) (fun t ht hW => ⟨⟨_, (), rfl, (show nI 0 = nI (bN (okR r x)) from by exact congrArg nI (bN_f c_6).symm), Wr_mk hRc (show Rr G (up2 r 30 22 (1 - bN (okR r x))) wl from by rw [show (up2 r 30 22 (1 - bN (okR r x))) = up2 r 30 22 1 from by rw [bN_f c_6]]; exact hRr) hRo hP hD ht⟩, hS.F ht⟩) hS.2.2 dX3_asks_17
  · obtain ⟨j_x, hj_x, hx_x⟩ := c_6
    refine lv_iconst (v := nI 0) hx hb dX3_asks_9 (by decide) ?_
    refine lv_goto (tgt := 14) hx hb dX3_asks_10 (by decide) ?_
    refine y_calli (va_runV (As := [.int (nI 0)]) (rest := []) ⟨hx, hb, hml, hown, hts⟩ (k_X3_goes l D G h0 c r o 0 (by decide)) (cwV 1 hts gX3_asks_X3_goes rfl rfl rfl (by decide +kernel) ⟨Nat.le_of_ble_eq_true rfl, Nat.le_of_ble_eq_true rfl⟩) ⟨fun a U g mk q => ⟨q.1, Pr_cg q.2⟩, va_recv (ci := 4) (q0 := 3) hK hP rfl (Q_m hRr), fun U hU hW => ⟨rfl, Pr_mk hE hRc hRr hRo hP hD hS hU hW⟩⟩ rfl rfl hl.1 rfl (lv_room (Nat.le_of_ble_eq_true rfl)) dX3_asks_14 ⟨Nat.le_of_ble_eq_true rfl, Nat.le_of_ble_eq_true rfl⟩) hS (fun v9 _ H locs wl hv9 hRc hRr hRo hP hD hS => ?_)
    refine n_top (y := .int (nI 1)) (congrArg Value.int (hv9.trans (congrArg nI (bN_t rfl)))) ?_
    clear hv9 v9
    exact W.zret (v := nI 1) (ty := .boolean) hx hb hr (nb_le (by first | exact bN_le _ | decide | omega | assumption)) (fun t ht hW => ⟨⟨_, (), rfl, (show nI 1 = nI (bN (okR r x)) from by exact congrArg nI (bN_t (show okR r x from ⟨_, hj_x, hx_x⟩)).symm), Wr_mk hRc (show Rr G (up2 r 30 22 (1 - bN (okR r x))) wl from by rw [show (up2 r 30 22 (1 - bN (okR r x))) = up2 r 30 22 0 from by rw [bN_t (show okR r x from ⟨_, hj_x, hx_x⟩)]]; exact hRr) hRo hP hD ht⟩, hS.F ht⟩) hS.2.2 dX3_asks_17
set_option maxHeartbeats 4000000 in
set_option maxRecDepth 100000 in
theorem k_X3_isOff (l : Launch) (D : va_G) (G : Nat → Nat) (h0 : Nat) (c r : Nat → Nat → Nat) (o : Nat) (hI : IR r) (u : Nat) (hu : u < 20) : Met l yX3_isOff wsX3_isOff ({ frames := 0, cells := 0, slots := 0, locals := 0 } : Room) (va_Pc [.ref (G 3), .int (nI u)] (fun U => Pr D G h0 c r o U)) (va_Qi (fun (v9 : Int32) (_ : Unit) => v9 = nI (bN (goneP (r 17) u))) (fun _ t => Wr D G h0 c r o t) (fun q => h0 ≤ q)) 0 0 (fun q => h0 ≤ q) := by
  refine Met.ofW (cc := cX3_isOff) (maxL := 2) (ret := (some .boolean)) (by decide) rfl ?_
  intro p e s m args below meth cd s₁ B hml hv
  obtain ⟨rfl, hE, wl, hRc, hRr, hRo, hP, hD⟩ := hv
  have hx := B.exec
  have hb := B.bytes
  have hr := B.returns
  have hts := atoms_spec (ws := wsX3_isOff) B.pre
  have hown : s.vm.findClass RX3 = some m.cls := findClass_of_methodNamed B.named
  have hlocks := B.notSynchronized
  have hK := hE.2.1
  have hS : va_S (fun q => h0 ≤ q) s.heap s.heap [] := va_S.rf
  have hl := lv_entry ([.ref (G 3), .int (nI u)]) (n := 2) (Nat.le_of_ble_eq_true rfl)
  rw [lg_entry_eq]
  generalize (lg_sl ([.ref (G 3), .int (nI u)]) ++ List.replicate (2 - (lg_sl ([.ref (G 3), .int (nI u)])).length) Slot.unset).toArray = ls at hl ⊢
  have hl : lv_has ls 2 [(0, .ref (G 3)), (1, .int (nI u))] := hl
  have inX3 : ∀ w ∈ wsX30, w ∈ wsX3_isOff := by decide +kernel
  have hBr := IR_B hI
  have hn := IR_n hI
  have hs := IR_s hI
  refine lv_aload_n hx hb dX3_isOff_0 rfl (lv_at hl 0 rfl) ?_
  refine va_get (D := D) (ci := 4) (v := .ref (G 15)) (C := RX3) (T := TX3) (N := 23) hx hb hts inX3 hown hK hP 3 (Q_m hRr) rfl 17 (by decide) (hts (.fieldLink RX3 41 "BootStageModel" "states" "[I") (by decide +kernel)) (fun _ h9 => h9) rfl dX3_isOff_1 ?_
  refine lv_iload_n hx hb dX3_isOff_4 rfl (lv_at hl 1 rfl) ?_
  refine x_iald hx hb hK hP 15 (Q_a17 hRr) (by first | omega | decide | assumption) (by decide) dX3_isOff_5 (v := nI (r 17 u)) rfl ?_
  refine lv_iconst (v := nI 3) hx hb dX3_isOff_6 (by decide) ?_
  refine n_icmp_eq (tgt := 20) hx hb dX3_isOff_7 (by decide) (hBr _ _ (by decide)) (by decide) (fun c_7 => ?_) (fun c_7 => ?_)
  · refine lv_iconst (v := nI 1) hx hb dX3_isOff_20 (by decide) ?_
    refine lv_goto (tgt := 25) hx hb dX3_isOff_21 (by decide) ?_
    exact W.zret (v := nI 1) (ty := .boolean) hx hb hr (nb_le (by first | exact bN_le _ | decide | omega | assumption)) (fun t ht hW => ⟨⟨_, (), rfl, (show nI 1 = nI (bN (goneP (r 17) u)) from by exact congrArg nI (bN_t (by unfold goneP; omega)).symm), Wr_mk hRc hRr hRo hP hD ht⟩, hS.F ht⟩) hS.2.2 dX3_isOff_25
  · refine lv_aload_n hx hb dX3_isOff_10 rfl (lv_at hl 0 rfl) ?_
    refine va_get (D := D) (ci := 4) (v := .ref (G 15)) (C := RX3) (T := TX3) (N := 23) hx hb hts inX3 hown hK hP 3 (Q_m hRr) rfl 17 (by decide) (hts (.fieldLink RX3 41 "BootStageModel" "states" "[I") (by decide +kernel)) (fun _ h9 => h9) rfl dX3_isOff_11 ?_
    refine lv_iload_n hx hb dX3_isOff_14 rfl (lv_at hl 1 rfl) ?_
    refine x_iald hx hb hK hP 15 (Q_a17 hRr) (by first | omega | decide | assumption) (by decide) dX3_isOff_15 (v := nI (r 17 u)) rfl ?_
    refine lv_iconst (v := nI 4) hx hb dX3_isOff_16 (by decide) ?_
    refine n_icmp_ne (tgt := 24) hx hb dX3_isOff_17 (by decide) (hBr _ _ (by decide)) (by decide) (fun c_17 => ?_) (fun c_17 => ?_)
    · refine lv_iconst (v := nI 0) hx hb dX3_isOff_24 (by decide) ?_
      exact W.zret (v := nI 0) (ty := .boolean) hx hb hr (nb_le (by first | exact bN_le _ | decide | omega | assumption)) (fun t ht hW => ⟨⟨_, (), rfl, (show nI 0 = nI (bN (goneP (r 17) u)) from by exact congrArg nI (bN_f (by unfold goneP; omega)).symm), Wr_mk hRc hRr hRo hP hD ht⟩, hS.F ht⟩) hS.2.2 dX3_isOff_25
    · refine lv_iconst (v := nI 1) hx hb dX3_isOff_20 (by decide) ?_
      refine lv_goto (tgt := 25) hx hb dX3_isOff_21 (by decide) ?_
      exact W.zret (v := nI 1) (ty := .boolean) hx hb hr (nb_le (by first | exact bN_le _ | decide | omega | assumption)) (fun t ht hW => ⟨⟨_, (), rfl, (show nI 1 = nI (bN (goneP (r 17) u)) from by exact congrArg nI (bN_t (by unfold goneP; omega)).symm), Wr_mk hRc hRr hRo hP hD ht⟩, hS.F ht⟩) hS.2.2 dX3_isOff_25
set_option maxHeartbeats 4000000 in
set_option maxRecDepth 100000 in
theorem k_X3_isMet (l : Launch) (D : va_G) (G : Nat → Nat) (h0 : Nat) (c r : Nat → Nat → Nat) (o : Nat) (hI : IR r) (u : Nat) (hu : u < 20) : Met l yX3_isMet wsX3_isMet ({ frames := 1, cells := 0, slots := 0, locals := 21 } : Room) (va_Pc [.ref (G 3), .int (nI u)] (fun U => Pr D G h0 c r o U)) (va_Qi (fun (v9 : Int32) (_ : Unit) => v9 = nI (bN (metP (r 17) (r 5) u))) (fun _ t => Wr D G h0 c r o t) (fun q => h0 ≤ q)) 0 0 (fun q => h0 ≤ q) := by
  refine Met.ofW (cc := cX3_isMet) (maxL := 3) (ret := (some .boolean)) (by decide) rfl ?_
  intro p e s m args below meth cd s₁ B hml hv
  obtain ⟨rfl, hE, wl, hRc, hRr, hRo, hP, hD⟩ := hv
  have hx := B.exec
  have hb := B.bytes
  have hr := B.returns
  have hts := atoms_spec (ws := wsX3_isMet) B.pre
  have hown : s.vm.findClass RX3 = some m.cls := findClass_of_methodNamed B.named
  have hlocks := B.notSynchronized
  have hK := hE.2.1
  have hS : va_S (fun q => h0 ≤ q) s.heap s.heap [] := va_S.rf
  have hl := lv_entry ([.ref (G 3), .int (nI u)]) (n := 3) (Nat.le_of_ble_eq_true rfl)
  rw [lg_entry_eq]
  generalize (lg_sl ([.ref (G 3), .int (nI u)]) ++ List.replicate (3 - (lg_sl ([.ref (G 3), .int (nI u)])).length) Slot.unset).toArray = ls at hl ⊢
  have hl : lv_has ls 3 [(0, .ref (G 3)), (1, .int (nI u))] := hl
  have inX3 : ∀ w ∈ wsX30, w ∈ wsX3_isMet := by decide +kernel
  have hBr := IR_B hI
  have hn := IR_n hI
  have hs := IR_s hI
  refine lv_aload_n hx hb dX3_isMet_0 rfl (lv_at hl 0 rfl) ?_
  refine va_get (D := D) (ci := 4) (v := .ref (G 9)) (C := RX3) (T := TX3) (N := 23) hx hb hts inX3 hown hK hP 3 (Q_m hRr) rfl 5 (by decide) (hts (.fieldLink RX3 22 "BootStageModel" "standIns" "[I") (by decide +kernel)) (fun _ h9 => h9) rfl dX3_isMet_1 ?_
  refine lv_iload_n hx hb dX3_isMet_4 rfl (lv_at hl 1 rfl) ?_
  refine x_iald hx hb hK hP 9 (Q_a5 hRr) (by first | omega | decide | assumption) (by decide) dX3_isMet_5 (v := siI (r 5 u)) rfl ?_
  rcases (show r 5 u = 0 ∨ ∃ w, r 5 u = w + 1 from by cases h9 : r 5 u with | zero => exact Or.inl rfl | succ w => exact Or.inr ⟨w, rfl⟩) with hz_5 | ⟨w_5, hz_5⟩
  · refine n_top (y := .int (-1)) (congrArg Value.int (by rw [hz_5]; exact siI_0)) ?_
    refine lv_istore_n (lv' := [(2, .int (-1)), (0, .ref (G 3)), (1, .int (nI u))]) hx hb dX3_isMet_6 rfl hl (by decide) rfl (fun ls hl => ?_)
    refine lv_aload_n hx hb dX3_isMet_7 rfl (lv_at hl 1 rfl) ?_
    refine va_get (D := D) (ci := 4) (v := .ref (G 15)) (C := RX3) (T := TX3) (N := 23) hx hb hts inX3 hown hK hP 3 (Q_m hRr) rfl 17 (by decide) (hts (.fieldLink RX3 41 "BootStageModel" "states" "[I") (by decide +kernel)) (fun _ h9 => h9) rfl dX3_isMet_8 ?_
    refine lv_iload_n hx hb dX3_isMet_11 rfl (lv_at hl 2 rfl) ?_
    refine x_iald hx hb hK hP 15 (Q_a17 hRr) (by first | omega | decide | assumption) (by decide) dX3_isMet_12 (v := nI (r 17 u)) rfl ?_
    refine lv_iconst (v := nI 2) hx hb dX3_isMet_13 (by decide) ?_
    refine n_icmp_eq (tgt := 40) hx hb dX3_isMet_14 (by decide) (hBr _ _ (by decide)) (by decide) (fun c_14 => ?_) (fun c_14 => ?_)
    · refine lv_iconst (v := nI 1) hx hb dX3_isMet_40 (by decide) ?_
      refine lv_goto (tgt := 45) hx hb dX3_isMet_41 (by decide) ?_
      exact W.zret (v := nI 1) (ty := .boolean) hx hb hr (nb_le (by first | exact bN_le _ | decide | omega | assumption)) (fun t ht hW => ⟨⟨_, (), rfl, (show nI 1 = nI (bN (metP (r 17) (r 5) u)) from by exact congrArg nI (bN_t (Or.inl c_14)).symm), Wr_mk hRc hRr hRo hP hD ht⟩, hS.F ht⟩) hS.2.2 dX3_isMet_45
    · refine lv_aload_n hx hb dX3_isMet_17 rfl (lv_at hl 1 rfl) ?_
      refine lv_iload_n hx hb dX3_isMet_18 rfl (lv_at hl 2 rfl) ?_
      refine y_calli (va_runV (As := [.int (nI u)]) (rest := []) ⟨hx, hb, hml, hown, hts⟩ (k_X3_isOff l D G h0 c r o hI u (by first | omega | assumption)) (cwV 1 hts gX3_isMet_X3_isOff rfl rfl rfl (by decide +kernel) ⟨Nat.le_of_ble_eq_true rfl, Nat.le_of_ble_eq_true rfl⟩) ⟨fun a U g mk q => ⟨q.1, Pr_cg q.2⟩, va_recv (ci := 4) (q0 := 3) hK hP rfl (Q_m hRr), fun U hU hW => ⟨rfl, Pr_mk hE hRc hRr hRo hP hD hS hU hW⟩⟩ rfl rfl hl.1 rfl (lv_room (Nat.le_of_ble_eq_true rfl)) dX3_isMet_19 ⟨Nat.le_of_ble_eq_true rfl, Nat.le_of_ble_eq_true rfl⟩) hS (fun v9 _ H locs wl hv9 hRc hRr hRo hP hD hS => ?_)
      refine n_top (y := .int (nI (bN (goneP (r 17) u)))) (congrArg Value.int hv9) ?_
      clear hv9 v9
      refine n_ifb_eq (tgt := 44) hx hb dX3_isMet_22 (by decide) (fun c_22 => ?_) (fun c_22 => ?_)
      · refine lv_iconst (v := nI 0) hx hb dX3_isMet_44 (by decide) ?_
        exact W.zret (v := nI 0) (ty := .boolean) hx hb hr (nb_le (by first | exact bN_le _ | decide | omega | assumption)) (fun t ht hW => ⟨⟨_, (), rfl, (show nI 0 = nI (bN (metP (r 17) (r 5) u)) from by exact congrArg nI (bN_f (fun q => q.elim (fun q => c_14 q) (fun q => c_22 q.1))).symm), Wr_mk hRc hRr hRo hP hD ht⟩, hS.F ht⟩) hS.2.2 dX3_isMet_45
      · refine lv_iload_n hx hb dX3_isMet_25 rfl (lv_at hl 0 rfl) ?_
        refine lv_iconst (v := (-1)) hx hb dX3_isMet_26 (by decide) ?_
        refine lv_icmp_eq (tgt := 44) hx hb dX3_isMet_27 (by decide) (fun c_27 => ?_) (fun c_27 => absurd c_27 (by decide))
        refine lv_iconst (v := nI 0) hx hb dX3_isMet_44 (by decide) ?_
        exact W.zret (v := nI 0) (ty := .boolean) hx hb hr (nb_le (by first | exact bN_le _ | decide | omega | assumption)) (fun t ht hW => ⟨⟨_, (), rfl, (show nI 0 = nI (bN (metP (r 17) (r 5) u)) from by exact congrArg nI (bN_f (fun q => q.elim (fun q => c_14 q) (fun q => q.2.1 hz_5))).symm), Wr_mk hRc hRr hRo hP hD ht⟩, hS.F ht⟩) hS.2.2 dX3_isMet_45
  · have h_w_5 : w_5 < 20 := by have h9 := hs u; omega
    refine n_top (y := .int (nI w_5)) (congrArg Value.int (by rw [hz_5]; exact siI_s _)) ?_
    refine lv_istore_n (lv' := [(2, .int (nI w_5)), (0, .ref (G 3)), (1, .int (nI u))]) hx hb dX3_isMet_6 rfl hl (by decide) rfl (fun ls hl => ?_)
    refine lv_aload_n hx hb dX3_isMet_7 rfl (lv_at hl 1 rfl) ?_
    refine va_get (D := D) (ci := 4) (v := .ref (G 15)) (C := RX3) (T := TX3) (N := 23) hx hb hts inX3 hown hK hP 3 (Q_m hRr) rfl 17 (by decide) (hts (.fieldLink RX3 41 "BootStageModel" "states" "[I") (by decide +kernel)) (fun _ h9 => h9) rfl dX3_isMet_8 ?_
    refine lv_iload_n hx hb dX3_isMet_11 rfl (lv_at hl 2 rfl) ?_
    refine x_iald hx hb hK hP 15 (Q_a17 hRr) (by first | omega | decide | assumption) (by decide) dX3_isMet_12 (v := nI (r 17 u)) rfl ?_
    refine lv_iconst (v := nI 2) hx hb dX3_isMet_13 (by decide) ?_
    refine n_icmp_eq (tgt := 40) hx hb dX3_isMet_14 (by decide) (hBr _ _ (by decide)) (by decide) (fun c_14 => ?_) (fun c_14 => ?_)
    · refine lv_iconst (v := nI 1) hx hb dX3_isMet_40 (by decide) ?_
      refine lv_goto (tgt := 45) hx hb dX3_isMet_41 (by decide) ?_
      exact W.zret (v := nI 1) (ty := .boolean) hx hb hr (nb_le (by first | exact bN_le _ | decide | omega | assumption)) (fun t ht hW => ⟨⟨_, (), rfl, (show nI 1 = nI (bN (metP (r 17) (r 5) u)) from by exact congrArg nI (bN_t (Or.inl c_14)).symm), Wr_mk hRc hRr hRo hP hD ht⟩, hS.F ht⟩) hS.2.2 dX3_isMet_45
    · refine lv_aload_n hx hb dX3_isMet_17 rfl (lv_at hl 1 rfl) ?_
      refine lv_iload_n hx hb dX3_isMet_18 rfl (lv_at hl 2 rfl) ?_
      refine y_calli (va_runV (As := [.int (nI u)]) (rest := []) ⟨hx, hb, hml, hown, hts⟩ (k_X3_isOff l D G h0 c r o hI u (by first | omega | assumption)) (cwV 1 hts gX3_isMet_X3_isOff rfl rfl rfl (by decide +kernel) ⟨Nat.le_of_ble_eq_true rfl, Nat.le_of_ble_eq_true rfl⟩) ⟨fun a U g mk q => ⟨q.1, Pr_cg q.2⟩, va_recv (ci := 4) (q0 := 3) hK hP rfl (Q_m hRr), fun U hU hW => ⟨rfl, Pr_mk hE hRc hRr hRo hP hD hS hU hW⟩⟩ rfl rfl hl.1 rfl (lv_room (Nat.le_of_ble_eq_true rfl)) dX3_isMet_19 ⟨Nat.le_of_ble_eq_true rfl, Nat.le_of_ble_eq_true rfl⟩) hS (fun v9 _ H locs wl hv9 hRc hRr hRo hP hD hS => ?_)
      refine n_top (y := .int (nI (bN (goneP (r 17) u)))) (congrArg Value.int hv9) ?_
      clear hv9 v9
      refine n_ifb_eq (tgt := 44) hx hb dX3_isMet_22 (by decide) (fun c_22 => ?_) (fun c_22 => ?_)
      · refine lv_iconst (v := nI 0) hx hb dX3_isMet_44 (by decide) ?_
        exact W.zret (v := nI 0) (ty := .boolean) hx hb hr (nb_le (by first | exact bN_le _ | decide | omega | assumption)) (fun t ht hW => ⟨⟨_, (), rfl, (show nI 0 = nI (bN (metP (r 17) (r 5) u)) from by exact congrArg nI (bN_f (fun q => q.elim (fun q => c_14 q) (fun q => c_22 q.1))).symm), Wr_mk hRc hRr hRo hP hD ht⟩, hS.F ht⟩) hS.2.2 dX3_isMet_45
      · refine lv_iload_n hx hb dX3_isMet_25 rfl (lv_at hl 0 rfl) ?_
        refine lv_iconst (v := (-1)) hx hb dX3_isMet_26 (by decide) ?_
        refine lv_icmp_eq (tgt := 44) hx hb dX3_isMet_27 (by decide) (fun c_27 => absurd c_27 (fun z => nI_pos (show w_5 < 2 ^ 31 from (by omega)) (by rw [z]; decide))) (fun c_27 => ?_)
        refine lv_aload_n hx hb dX3_isMet_30 rfl (lv_at hl 1 rfl) ?_
        refine va_get (D := D) (ci := 4) (v := .ref (G 15)) (C := RX3) (T := TX3) (N := 23) hx hb hts inX3 hown hK hP 3 (Q_m hRr) rfl 17 (by decide) (hts (.fieldLink RX3 41 "BootStageModel" "states" "[I") (by decide +kernel)) (fun _ h9 => h9) rfl dX3_isMet_31 ?_
        refine lv_iload_n hx hb dX3_isMet_34 rfl (lv_at hl 0 rfl) ?_
        refine x_iald hx hb hK hP 15 (Q_a17 hRr) (by first | omega | decide | assumption) (by decide) dX3_isMet_35 (v := nI (r 17 w_5)) rfl ?_
        refine lv_iconst (v := nI 2) hx hb dX3_isMet_36 (by decide) ?_
        refine n_icmp_ne (tgt := 44) hx hb dX3_isMet_37 (by decide) (hBr _ _ (by decide)) (by decide) (fun c_37 => ?_) (fun c_37 => ?_)
        · refine lv_iconst (v := nI 0) hx hb dX3_isMet_44 (by decide) ?_
          exact W.zret (v := nI 0) (ty := .boolean) hx hb hr (nb_le (by first | exact bN_le _ | decide | omega | assumption)) (fun t ht hW => ⟨⟨_, (), rfl, (show nI 0 = nI (bN (metP (r 17) (r 5) u)) from by exact congrArg nI (bN_f (fun q => q.elim (fun q => c_14 q) (fun q => c_37 (by have q2 := q.2.2; rwa [hz_5, Nat.add_sub_cancel] at q2)))).symm), Wr_mk hRc hRr hRo hP hD ht⟩, hS.F ht⟩) hS.2.2 dX3_isMet_45
        · refine lv_iconst (v := nI 1) hx hb dX3_isMet_40 (by decide) ?_
          refine lv_goto (tgt := 45) hx hb dX3_isMet_41 (by decide) ?_
          exact W.zret (v := nI 1) (ty := .boolean) hx hb hr (nb_le (by first | exact bN_le _ | decide | omega | assumption)) (fun t ht hW => ⟨⟨_, (), rfl, (show nI 1 = nI (bN (metP (r 17) (r 5) u)) from by exact congrArg nI (bN_t (Or.inr ⟨c_22, by omega, by rw [hz_5, Nat.add_sub_cancel]; assumption⟩)).symm), Wr_mk hRc hRr hRo hP hD ht⟩, hS.F ht⟩) hS.2.2 dX3_isMet_45
set_option maxHeartbeats 4000000 in
set_option maxRecDepth 100000 in
theorem k_X3_isLost (l : Launch) (D : va_G) (G : Nat → Nat) (h0 : Nat) (c r : Nat → Nat → Nat) (o : Nat) (hI : IR r) (u : Nat) (hu : u < 20) : Met l yX3_isLost wsX3_isLost ({ frames := 1, cells := 0, slots := 0, locals := 21 } : Room) (va_Pc [.ref (G 3), .int (nI u)] (fun U => Pr D G h0 c r o U)) (va_Qi (fun (v9 : Int32) (_ : Unit) => v9 = nI (bN (lostP (r 17) (r 5) u))) (fun _ t => Wr D G h0 c r o t) (fun q => h0 ≤ q)) 0 0 (fun q => h0 ≤ q) := by
  refine Met.ofW (cc := cX3_isLost) (maxL := 3) (ret := (some .boolean)) (by decide) rfl ?_
  intro p e s m args below meth cd s₁ B hml hv
  obtain ⟨rfl, hE, wl, hRc, hRr, hRo, hP, hD⟩ := hv
  have hx := B.exec
  have hb := B.bytes
  have hr := B.returns
  have hts := atoms_spec (ws := wsX3_isLost) B.pre
  have hown : s.vm.findClass RX3 = some m.cls := findClass_of_methodNamed B.named
  have hlocks := B.notSynchronized
  have hK := hE.2.1
  have hS : va_S (fun q => h0 ≤ q) s.heap s.heap [] := va_S.rf
  have hl := lv_entry ([.ref (G 3), .int (nI u)]) (n := 3) (Nat.le_of_ble_eq_true rfl)
  rw [lg_entry_eq]
  generalize (lg_sl ([.ref (G 3), .int (nI u)]) ++ List.replicate (3 - (lg_sl ([.ref (G 3), .int (nI u)])).length) Slot.unset).toArray = ls at hl ⊢
  have hl : lv_has ls 3 [(0, .ref (G 3)), (1, .int (nI u))] := hl
  have inX3 : ∀ w ∈ wsX30, w ∈ wsX3_isLost := by decide +kernel
  have hBr := IR_B hI
  have hn := IR_n hI
  have hs := IR_s hI
  refine lv_aload_n hx hb dX3_isLost_0 rfl (lv_at hl 0 rfl) ?_
  refine va_get (D := D) (ci := 4) (v := .ref (G 9)) (C := RX3) (T := TX3) (N := 23) hx hb hts inX3 hown hK hP 3 (Q_m hRr) rfl 5 (by decide) (hts (.fieldLink RX3 22 "BootStageModel" "standIns" "[I") (by decide +kernel)) (fun _ h9 => h9) rfl dX3_isLost_1 ?_
  refine lv_iload_n hx hb dX3_isLost_4 rfl (lv_at hl 1 rfl) ?_
  refine x_iald hx hb hK hP 9 (Q_a5 hRr) (by first | omega | decide | assumption) (by decide) dX3_isLost_5 (v := siI (r 5 u)) rfl ?_
  rcases (show r 5 u = 0 ∨ ∃ w, r 5 u = w + 1 from by cases h9 : r 5 u with | zero => exact Or.inl rfl | succ w => exact Or.inr ⟨w, rfl⟩) with hz_5 | ⟨w_5, hz_5⟩
  · refine n_top (y := .int (-1)) (congrArg Value.int (by rw [hz_5]; exact siI_0)) ?_
    refine lv_istore_n (lv' := [(2, .int (-1)), (0, .ref (G 3)), (1, .int (nI u))]) hx hb dX3_isLost_6 rfl hl (by decide) rfl (fun ls hl => ?_)
    refine lv_aload_n hx hb dX3_isLost_7 rfl (lv_at hl 1 rfl) ?_
    refine lv_iload_n hx hb dX3_isLost_8 rfl (lv_at hl 2 rfl) ?_
    refine y_calli (va_runV (As := [.int (nI u)]) (rest := []) ⟨hx, hb, hml, hown, hts⟩ (k_X3_isOff l D G h0 c r o hI u (by first | omega | assumption)) (cwV 1 hts gX3_isLost_X3_isOff rfl rfl rfl (by decide +kernel) ⟨Nat.le_of_ble_eq_true rfl, Nat.le_of_ble_eq_true rfl⟩) ⟨fun a U g mk q => ⟨q.1, Pr_cg q.2⟩, va_recv (ci := 4) (q0 := 3) hK hP rfl (Q_m hRr), fun U hU hW => ⟨rfl, Pr_mk hE hRc hRr hRo hP hD hS hU hW⟩⟩ rfl rfl hl.1 rfl (lv_room (Nat.le_of_ble_eq_true rfl)) dX3_isLost_9 ⟨Nat.le_of_ble_eq_true rfl, Nat.le_of_ble_eq_true rfl⟩) hS (fun v9 _ H locs wl hv9 hRc hRr hRo hP hD hS => ?_)
    refine n_top (y := .int (nI (bN (goneP (r 17) u)))) (congrArg Value.int hv9) ?_
    clear hv9 v9
    refine n_ifb_eq (tgt := 32) hx hb dX3_isLost_12 (by decide) (fun c_12 => ?_) (fun c_12 => ?_)
    · refine lv_iconst (v := nI 0) hx hb dX3_isLost_32 (by decide) ?_
      exact W.zret (v := nI 0) (ty := .boolean) hx hb hr (nb_le (by first | exact bN_le _ | decide | omega | assumption)) (fun t ht hW => ⟨⟨_, (), rfl, (show nI 0 = nI (bN (lostP (r 17) (r 5) u)) from by exact congrArg nI (bN_f (fun q => c_12 q.1)).symm), Wr_mk hRc hRr hRo hP hD ht⟩, hS.F ht⟩) hS.2.2 dX3_isLost_33
    · refine lv_iload_n hx hb dX3_isLost_15 rfl (lv_at hl 0 rfl) ?_
      refine lv_iconst (v := (-1)) hx hb dX3_isLost_16 (by decide) ?_
      refine lv_icmp_eq (tgt := 28) hx hb dX3_isLost_17 (by decide) (fun c_17 => ?_) (fun c_17 => absurd c_17 (by decide))
      refine lv_iconst (v := nI 1) hx hb dX3_isLost_28 (by decide) ?_
      refine lv_goto (tgt := 33) hx hb dX3_isLost_29 (by decide) ?_
      exact W.zret (v := nI 1) (ty := .boolean) hx hb hr (nb_le (by first | exact bN_le _ | decide | omega | assumption)) (fun t ht hW => ⟨⟨_, (), rfl, (show nI 1 = nI (bN (lostP (r 17) (r 5) u)) from by exact congrArg nI (bN_t ⟨c_12, Or.inl hz_5⟩).symm), Wr_mk hRc hRr hRo hP hD ht⟩, hS.F ht⟩) hS.2.2 dX3_isLost_33
  · have h_w_5 : w_5 < 20 := by have h9 := hs u; omega
    refine n_top (y := .int (nI w_5)) (congrArg Value.int (by rw [hz_5]; exact siI_s _)) ?_
    refine lv_istore_n (lv' := [(2, .int (nI w_5)), (0, .ref (G 3)), (1, .int (nI u))]) hx hb dX3_isLost_6 rfl hl (by decide) rfl (fun ls hl => ?_)
    refine lv_aload_n hx hb dX3_isLost_7 rfl (lv_at hl 1 rfl) ?_
    refine lv_iload_n hx hb dX3_isLost_8 rfl (lv_at hl 2 rfl) ?_
    refine y_calli (va_runV (As := [.int (nI u)]) (rest := []) ⟨hx, hb, hml, hown, hts⟩ (k_X3_isOff l D G h0 c r o hI u (by first | omega | assumption)) (cwV 1 hts gX3_isLost_X3_isOff rfl rfl rfl (by decide +kernel) ⟨Nat.le_of_ble_eq_true rfl, Nat.le_of_ble_eq_true rfl⟩) ⟨fun a U g mk q => ⟨q.1, Pr_cg q.2⟩, va_recv (ci := 4) (q0 := 3) hK hP rfl (Q_m hRr), fun U hU hW => ⟨rfl, Pr_mk hE hRc hRr hRo hP hD hS hU hW⟩⟩ rfl rfl hl.1 rfl (lv_room (Nat.le_of_ble_eq_true rfl)) dX3_isLost_9 ⟨Nat.le_of_ble_eq_true rfl, Nat.le_of_ble_eq_true rfl⟩) hS (fun v9 _ H locs wl hv9 hRc hRr hRo hP hD hS => ?_)
    refine n_top (y := .int (nI (bN (goneP (r 17) u)))) (congrArg Value.int hv9) ?_
    clear hv9 v9
    refine n_ifb_eq (tgt := 32) hx hb dX3_isLost_12 (by decide) (fun c_12 => ?_) (fun c_12 => ?_)
    · refine lv_iconst (v := nI 0) hx hb dX3_isLost_32 (by decide) ?_
      exact W.zret (v := nI 0) (ty := .boolean) hx hb hr (nb_le (by first | exact bN_le _ | decide | omega | assumption)) (fun t ht hW => ⟨⟨_, (), rfl, (show nI 0 = nI (bN (lostP (r 17) (r 5) u)) from by exact congrArg nI (bN_f (fun q => c_12 q.1)).symm), Wr_mk hRc hRr hRo hP hD ht⟩, hS.F ht⟩) hS.2.2 dX3_isLost_33
    · refine lv_iload_n hx hb dX3_isLost_15 rfl (lv_at hl 0 rfl) ?_
      refine lv_iconst (v := (-1)) hx hb dX3_isLost_16 (by decide) ?_
      refine lv_icmp_eq (tgt := 28) hx hb dX3_isLost_17 (by decide) (fun c_17 => absurd c_17 (fun z => nI_pos (show w_5 < 2 ^ 31 from (by omega)) (by rw [z]; decide))) (fun c_17 => ?_)
      refine lv_aload_n hx hb dX3_isLost_20 rfl (lv_at hl 1 rfl) ?_
      refine lv_iload_n hx hb dX3_isLost_21 rfl (lv_at hl 0 rfl) ?_
      refine y_calli (va_runV (As := [.int (nI w_5)]) (rest := []) ⟨hx, hb, hml, hown, hts⟩ (k_X3_isOff l D G h0 c r o hI w_5 (by first | omega | assumption)) (cwV 1 hts gX3_isLost_X3_isOff rfl rfl rfl (by decide +kernel) ⟨Nat.le_of_ble_eq_true rfl, Nat.le_of_ble_eq_true rfl⟩) ⟨fun a U g mk q => ⟨q.1, Pr_cg q.2⟩, va_recv (ci := 4) (q0 := 3) hK hP rfl (Q_m hRr), fun U hU hW => ⟨rfl, Pr_mk hE hRc hRr hRo hP hD hS hU hW⟩⟩ rfl rfl hl.1 rfl (lv_room (Nat.le_of_ble_eq_true rfl)) dX3_isLost_22 ⟨Nat.le_of_ble_eq_true rfl, Nat.le_of_ble_eq_true rfl⟩) hS (fun v9 _ H locs wl hv9 hRc hRr hRo hP hD hS => ?_)
      refine n_top (y := .int (nI (bN (goneP (r 17) w_5)))) (congrArg Value.int hv9) ?_
      clear hv9 v9
      refine n_ifb_eq (tgt := 32) hx hb dX3_isLost_25 (by decide) (fun c_25 => ?_) (fun c_25 => ?_)
      · refine lv_iconst (v := nI 0) hx hb dX3_isLost_32 (by decide) ?_
        exact W.zret (v := nI 0) (ty := .boolean) hx hb hr (nb_le (by first | exact bN_le _ | decide | omega | assumption)) (fun t ht hW => ⟨⟨_, (), rfl, (show nI 0 = nI (bN (lostP (r 17) (r 5) u)) from by exact congrArg nI (bN_f (fun q => q.2.elim (fun q => by omega) (fun q => c_25 (by rwa [hz_5, Nat.add_sub_cancel] at q)))).symm), Wr_mk hRc hRr hRo hP hD ht⟩, hS.F ht⟩) hS.2.2 dX3_isLost_33
      · refine lv_iconst (v := nI 1) hx hb dX3_isLost_28 (by decide) ?_
        refine lv_goto (tgt := 33) hx hb dX3_isLost_29 (by decide) ?_
        exact W.zret (v := nI 1) (ty := .boolean) hx hb hr (nb_le (by first | exact bN_le _ | decide | omega | assumption)) (fun t ht hW => ⟨⟨_, (), rfl, (show nI 1 = nI (bN (lostP (r 17) (r 5) u)) from by exact congrArg nI (bN_t ⟨c_12, Or.inr (by rw [hz_5, Nat.add_sub_cancel]; exact c_25)⟩).symm), Wr_mk hRc hRr hRo hP hD ht⟩, hS.F ht⟩) hS.2.2 dX3_isLost_33
set_option maxHeartbeats 4000000 in
set_option maxRecDepth 100000 in
theorem k_X3_waits (l : Launch) (D : va_G) (G : Nat → Nat) (h0 : Nat) (c r : Nat → Nat → Nat) (o : Nat) (hI : IR r) (u v : Nat) (hu : u < 20) (hv : v < 20) : Met l yX3_waits wsX3_waits ({ frames := 2, cells := 0, slots := 0, locals := 43 } : Room) (va_Pc [.ref (G 3), .int (nI u), .int (nI v)] (fun U => Pr D G h0 c r o U)) (va_Qi (fun (v9 : Int32) (_ : Unit) => v9 = nI (bN (awR r u v))) (fun _ t => Wr D G h0 c r o t) (fun q => h0 ≤ q)) 0 0 (fun q => h0 ≤ q) := by
  refine Met.ofW (cc := cX3_waits) (maxL := 5) (ret := (some .boolean)) (by decide) rfl ?_
  intro p e s m args below meth cd s₁ B hml hv
  obtain ⟨rfl, hE, wl, hRc, hRr, hRo, hP, hD⟩ := hv
  have hx := B.exec
  have hb := B.bytes
  have hr := B.returns
  have hts := atoms_spec (ws := wsX3_waits) B.pre
  have hown : s.vm.findClass RX3 = some m.cls := findClass_of_methodNamed B.named
  have hlocks := B.notSynchronized
  have hK := hE.2.1
  have hS : va_S (fun q => h0 ≤ q) s.heap s.heap [] := va_S.rf
  have hl := lv_entry ([.ref (G 3), .int (nI u), .int (nI v)]) (n := 5) (Nat.le_of_ble_eq_true rfl)
  rw [lg_entry_eq]
  generalize (lg_sl ([.ref (G 3), .int (nI u), .int (nI v)]) ++ List.replicate (5 - (lg_sl ([.ref (G 3), .int (nI u), .int (nI v)])).length) Slot.unset).toArray = ls at hl ⊢
  have hl : lv_has ls 5 [(0, .ref (G 3)), (1, .int (nI u)), (2, .int (nI v))] := hl
  have inX3 : ∀ w ∈ wsX30, w ∈ wsX3_waits := by decide +kernel
  have hBr := IR_B hI
  have hn := IR_n hI
  have hs := IR_s hI
  refine lv_aload_n hx hb dX3_waits_0 rfl (lv_at hl 0 rfl) ?_
  refine va_get (D := D) (ci := 4) (v := .ref (G 12)) (C := RX3) (T := TX3) (N := 23) hx hb hts inX3 hown hK hP 3 (Q_m hRr) rfl 8 (by decide) (hts (.fieldLink RX3 32 "BootStageModel" "weights" "[I") (by decide +kernel)) (fun _ h9 => h9) rfl dX3_waits_1 ?_
  refine lv_iload_n hx hb dX3_waits_4 rfl (lv_at hl 1 rfl) ?_
  refine lv_iload_n hx hb dX3_waits_5 rfl (lv_at hl 2 rfl) ?_
  refine y_calli (va_runS (As := [.int (nI u), .int (nI v)]) (rest := [.ref (G 12)]) ⟨hx, hb, hml, hown, hts⟩ (k_X3_edge l D G h0 c r o u v) (va_cwS 2 hts gX3_waits_X3_edge rfl rfl rfl (by decide +kernel) ⟨Nat.le_of_ble_eq_true rfl, Nat.le_of_ble_eq_true rfl⟩) ⟨fun a U g mk q => ⟨q.1, Pr_cg q.2⟩, fun U hU hW => ⟨rfl, Pr_mk hE hRc hRr hRo hP hD hS hU hW⟩⟩ rfl rfl hl.1 rfl (lv_room (Nat.le_of_ble_eq_true rfl)) dX3_waits_6 ⟨Nat.le_of_ble_eq_true rfl, Nat.le_of_ble_eq_true rfl⟩) hS (fun v9 _ H locs wl hv9 hRc hRr hRo hP hD hS => ?_)
  refine n_top (y := .int (nI (20 * u + v))) (congrArg Value.int hv9) ?_
  clear hv9 v9
  refine x_iald hx hb hK hP 12 (Q_a8 hRr) (by first | omega | decide | assumption) (by decide) dX3_waits_9 (v := nI (r 8 (20 * u + v))) rfl ?_
  refine n_if_le (tgt := 30) hx hb dX3_waits_10 (by decide) (hBr _ _ (by decide)) (fun c_10 => ?_) (fun c_10 => ?_)
  · refine lv_iconst (v := nI 0) hx hb dX3_waits_30 (by decide) ?_
    refine lv_istore_n (lv' := [(3, .int (nI 0)), (0, .ref (G 3)), (1, .int (nI u)), (2, .int (nI v))]) hx hb dX3_waits_31 rfl hl (by decide) rfl (fun ls hl => ?_)
    refine lv_aload_n hx hb dX3_waits_32 rfl (lv_at hl 1 rfl) ?_
    refine va_get (D := D) (ci := 4) (v := .ref (G 15)) (C := RX3) (T := TX3) (N := 23) hx hb hts inX3 hown hK hP 3 (Q_m hRr) rfl 17 (by decide) (hts (.fieldLink RX3 41 "BootStageModel" "states" "[I") (by decide +kernel)) (fun _ h9 => h9) rfl dX3_waits_33 ?_
    refine lv_iload_n hx hb dX3_waits_36 rfl (lv_at hl 3 rfl) ?_
    refine x_iald hx hb hK hP 15 (Q_a17 hRr) (by first | omega | decide | assumption) (by decide) dX3_waits_37 (v := nI (r 17 v)) rfl ?_
    refine lv_iconst (v := nI 2) hx hb dX3_waits_38 (by decide) ?_
    refine n_icmp_eq (tgt := 50) hx hb dX3_waits_39 (by decide) (hBr _ _ (by decide)) (by decide) (fun c_39 => ?_) (fun c_39 => ?_)
    · refine lv_iconst (v := nI 1) hx hb dX3_waits_50 (by decide) ?_
      refine lv_goto (tgt := 55) hx hb dX3_waits_51 (by decide) ?_
      refine lv_istore (lv' := [(4, .int (nI 1)), (3, .int (nI 0)), (0, .ref (G 3)), (1, .int (nI u)), (2, .int (nI v))]) hx hb dX3_waits_55 hl (by decide) rfl (fun ls hl => ?_)
      refine lv_aload_n hx hb dX3_waits_57 rfl (lv_at hl 2 rfl) ?_
      refine va_get (D := D) (ci := 4) (v := .ref (G 11)) (C := RX3) (T := TX3) (N := 23) hx hb hts inX3 hown hK hP 3 (Q_m hRr) rfl 7 (by decide) (hts (.fieldLink RX3 29 "BootStageModel" "needs" "[Z") (by decide +kernel)) (fun _ h9 => h9) rfl dX3_waits_58 ?_
      refine lv_iload_n hx hb dX3_waits_61 rfl (lv_at hl 3 rfl) ?_
      refine lv_iload_n hx hb dX3_waits_62 rfl (lv_at hl 4 rfl) ?_
      refine y_calli (va_runS (As := [.int (nI u), .int (nI v)]) (rest := [.ref (G 11)]) ⟨hx, hb, hml, hown, hts⟩ (k_X3_edge l D G h0 c r o u v) (va_cwS 2 hts gX3_waits_X3_edge rfl rfl rfl (by decide +kernel) ⟨Nat.le_of_ble_eq_true rfl, Nat.le_of_ble_eq_true rfl⟩) ⟨fun a U g mk q => ⟨q.1, Pr_cg q.2⟩, fun U hU hW => ⟨rfl, Pr_mk hE hRc hRr hRo hP hD hS hU hW⟩⟩ rfl rfl hl.1 rfl (lv_room (Nat.le_of_ble_eq_true rfl)) dX3_waits_63 ⟨Nat.le_of_ble_eq_true rfl, Nat.le_of_ble_eq_true rfl⟩) hS (fun v9 _ H locs wl hv9 hRc hRr hRo hP hD hS => ?_)
      refine n_top (y := .int (nI (20 * u + v))) (congrArg Value.int hv9) ?_
      clear hv9 v9
      refine x_zald hx hb hK hP 11 (Q_a7 hRr) (by first | omega | decide | assumption) (by decide) dX3_waits_66 (v := nI (r 7 (20 * u + v))) rfl ?_
      refine n_if_eq (tgt := 86) hx hb dX3_waits_67 (by decide) (hBr _ _ (by decide)) (fun c_67 => ?_) (fun c_67 => ?_)
      · refine lv_iload_n hx hb dX3_waits_86 rfl (lv_at hl 1 rfl) ?_
        refine n_if_eq (tgt := 99) hx hb dX3_waits_87 (by decide) (by decide) (fun c_87 => ?_) (fun c_87 => absurd c_87 (by decide))
        refine lv_iconst (v := nI 0) hx hb dX3_waits_99 (by decide) ?_
        exact W.zret (v := nI 0) (ty := .boolean) hx hb hr (nb_le (by first | exact bN_le _ | decide | omega | assumption)) (fun t ht hW => ⟨⟨_, (), rfl, (show nI 0 = nI (bN (awR r u v)) from by exact congrArg nI (bN_f (fun q => q.elim (fun q => absurd q.1 (by omega)) (fun q => absurd q.1.1 (by omega)))).symm), Wr_mk hRc hRr hRo hP hD ht⟩, hS.F ht⟩) hS.2.2 dX3_waits_100
      · refine lv_aload_n hx hb dX3_waits_70 rfl (lv_at hl 2 rfl) ?_
        refine lv_iload_n hx hb dX3_waits_71 rfl (lv_at hl 4 rfl) ?_
        refine y_calli (va_runV (As := [.int (nI v)]) (rest := []) ⟨hx, hb, hml, hown, hts⟩ (k_X3_isMet l D G h0 c r o hI v (by first | omega | assumption)) (cwV 1 hts gX3_waits_X3_isMet rfl rfl rfl (by decide +kernel) ⟨Nat.le_of_ble_eq_true rfl, Nat.le_of_ble_eq_true rfl⟩) ⟨fun a U g mk q => ⟨q.1, Pr_cg q.2⟩, va_recv (ci := 4) (q0 := 3) hK hP rfl (Q_m hRr), fun U hU hW => ⟨rfl, Pr_mk hE hRc hRr hRo hP hD hS hU hW⟩⟩ rfl rfl hl.1 rfl (lv_room (Nat.le_of_ble_eq_true rfl)) dX3_waits_72 ⟨Nat.le_of_ble_eq_true rfl, Nat.le_of_ble_eq_true rfl⟩) hS (fun v9 _ H locs wl hv9 hRc hRr hRo hP hD hS => ?_)
        refine n_top (y := .int (nI (bN (metP (r 17) (r 5) v)))) (congrArg Value.int hv9) ?_
        clear hv9 v9
        refine n_ifb_ne (tgt := 86) hx hb dX3_waits_75 (by decide) (fun c_75 => ?_) (fun c_75 => ?_)
        · refine lv_iload_n hx hb dX3_waits_86 rfl (lv_at hl 1 rfl) ?_
          refine n_if_eq (tgt := 99) hx hb dX3_waits_87 (by decide) (by decide) (fun c_87 => ?_) (fun c_87 => absurd c_87 (by decide))
          refine lv_iconst (v := nI 0) hx hb dX3_waits_99 (by decide) ?_
          exact W.zret (v := nI 0) (ty := .boolean) hx hb hr (nb_le (by first | exact bN_le _ | decide | omega | assumption)) (fun t ht hW => ⟨⟨_, (), rfl, (show nI 0 = nI (bN (awR r u v)) from by exact congrArg nI (bN_f (fun q => q.elim (fun q => q.2.1 c_75) (fun q => absurd q.1.1 (by omega)))).symm), Wr_mk hRc hRr hRo hP hD ht⟩, hS.F ht⟩) hS.2.2 dX3_waits_100
        · refine lv_aload_n hx hb dX3_waits_78 rfl (lv_at hl 2 rfl) ?_
          refine lv_iload_n hx hb dX3_waits_79 rfl (lv_at hl 4 rfl) ?_
          refine y_calli (va_runV (As := [.int (nI v)]) (rest := []) ⟨hx, hb, hml, hown, hts⟩ (k_X3_isLost l D G h0 c r o hI v (by first | omega | assumption)) (cwV 1 hts gX3_waits_X3_isLost rfl rfl rfl (by decide +kernel) ⟨Nat.le_of_ble_eq_true rfl, Nat.le_of_ble_eq_true rfl⟩) ⟨fun a U g mk q => ⟨q.1, Pr_cg q.2⟩, va_recv (ci := 4) (q0 := 3) hK hP rfl (Q_m hRr), fun U hU hW => ⟨rfl, Pr_mk hE hRc hRr hRo hP hD hS hU hW⟩⟩ rfl rfl hl.1 rfl (lv_room (Nat.le_of_ble_eq_true rfl)) dX3_waits_80 ⟨Nat.le_of_ble_eq_true rfl, Nat.le_of_ble_eq_true rfl⟩) hS (fun v9 _ H locs wl hv9 hRc hRr hRo hP hD hS => ?_)
          refine n_top (y := .int (nI (bN (lostP (r 17) (r 5) v)))) (congrArg Value.int hv9) ?_
          clear hv9 v9
          refine n_ifb_eq (tgt := 95) hx hb dX3_waits_83 (by decide) (fun c_83 => ?_) (fun c_83 => ?_)
          · refine lv_iconst (v := nI 1) hx hb dX3_waits_95 (by decide) ?_
            refine lv_goto (tgt := 100) hx hb dX3_waits_96 (by decide) ?_
            exact W.zret (v := nI 1) (ty := .boolean) hx hb hr (nb_le (by first | exact bN_le _ | decide | omega | assumption)) (fun t ht hW => ⟨⟨_, (), rfl, (show nI 1 = nI (bN (awR r u v)) from by exact congrArg nI (bN_t (Or.inl ⟨by assumption, by assumption, by assumption⟩)).symm), Wr_mk hRc hRr hRo hP hD ht⟩, hS.F ht⟩) hS.2.2 dX3_waits_100
          · refine lv_iload_n hx hb dX3_waits_86 rfl (lv_at hl 1 rfl) ?_
            refine n_if_eq (tgt := 99) hx hb dX3_waits_87 (by decide) (by decide) (fun c_87 => ?_) (fun c_87 => absurd c_87 (by decide))
            refine lv_iconst (v := nI 0) hx hb dX3_waits_99 (by decide) ?_
            exact W.zret (v := nI 0) (ty := .boolean) hx hb hr (nb_le (by first | exact bN_le _ | decide | omega | assumption)) (fun t ht hW => ⟨⟨_, (), rfl, (show nI 0 = nI (bN (awR r u v)) from by exact congrArg nI (bN_f (fun q => q.elim (fun q => q.2.2 c_83) (fun q => absurd q.1.1 (by omega)))).symm), Wr_mk hRc hRr hRo hP hD ht⟩, hS.F ht⟩) hS.2.2 dX3_waits_100
    · refine lv_aload_n hx hb dX3_waits_42 rfl (lv_at hl 1 rfl) ?_
      refine lv_iload_n hx hb dX3_waits_43 rfl (lv_at hl 3 rfl) ?_
      refine y_calli (va_runV (As := [.int (nI v)]) (rest := []) ⟨hx, hb, hml, hown, hts⟩ (k_X3_isOff l D G h0 c r o hI v (by first | omega | assumption)) (cwV 1 hts gX3_waits_X3_isOff rfl rfl rfl (by decide +kernel) ⟨Nat.le_of_ble_eq_true rfl, Nat.le_of_ble_eq_true rfl⟩) ⟨fun a U g mk q => ⟨q.1, Pr_cg q.2⟩, va_recv (ci := 4) (q0 := 3) hK hP rfl (Q_m hRr), fun U hU hW => ⟨rfl, Pr_mk hE hRc hRr hRo hP hD hS hU hW⟩⟩ rfl rfl hl.1 rfl (lv_room (Nat.le_of_ble_eq_true rfl)) dX3_waits_44 ⟨Nat.le_of_ble_eq_true rfl, Nat.le_of_ble_eq_true rfl⟩) hS (fun v9 _ H locs wl hv9 hRc hRr hRo hP hD hS => ?_)
      refine n_top (y := .int (nI (bN (goneP (r 17) v)))) (congrArg Value.int hv9) ?_
      clear hv9 v9
      refine n_ifb_eq (tgt := 54) hx hb dX3_waits_47 (by decide) (fun c_47 => ?_) (fun c_47 => ?_)
      · refine lv_iconst (v := nI 0) hx hb dX3_waits_54 (by decide) ?_
        refine lv_istore (lv' := [(4, .int (nI 0)), (3, .int (nI 0)), (0, .ref (G 3)), (1, .int (nI u)), (2, .int (nI v))]) hx hb dX3_waits_55 hl (by decide) rfl (fun ls hl => ?_)
        refine lv_aload_n hx hb dX3_waits_57 rfl (lv_at hl 2 rfl) ?_
        refine va_get (D := D) (ci := 4) (v := .ref (G 11)) (C := RX3) (T := TX3) (N := 23) hx hb hts inX3 hown hK hP 3 (Q_m hRr) rfl 7 (by decide) (hts (.fieldLink RX3 29 "BootStageModel" "needs" "[Z") (by decide +kernel)) (fun _ h9 => h9) rfl dX3_waits_58 ?_
        refine lv_iload_n hx hb dX3_waits_61 rfl (lv_at hl 3 rfl) ?_
        refine lv_iload_n hx hb dX3_waits_62 rfl (lv_at hl 4 rfl) ?_
        refine y_calli (va_runS (As := [.int (nI u), .int (nI v)]) (rest := [.ref (G 11)]) ⟨hx, hb, hml, hown, hts⟩ (k_X3_edge l D G h0 c r o u v) (va_cwS 2 hts gX3_waits_X3_edge rfl rfl rfl (by decide +kernel) ⟨Nat.le_of_ble_eq_true rfl, Nat.le_of_ble_eq_true rfl⟩) ⟨fun a U g mk q => ⟨q.1, Pr_cg q.2⟩, fun U hU hW => ⟨rfl, Pr_mk hE hRc hRr hRo hP hD hS hU hW⟩⟩ rfl rfl hl.1 rfl (lv_room (Nat.le_of_ble_eq_true rfl)) dX3_waits_63 ⟨Nat.le_of_ble_eq_true rfl, Nat.le_of_ble_eq_true rfl⟩) hS (fun v9 _ H locs wl hv9 hRc hRr hRo hP hD hS => ?_)
        refine n_top (y := .int (nI (20 * u + v))) (congrArg Value.int hv9) ?_
        clear hv9 v9
        refine x_zald hx hb hK hP 11 (Q_a7 hRr) (by first | omega | decide | assumption) (by decide) dX3_waits_66 (v := nI (r 7 (20 * u + v))) rfl ?_
        refine n_if_eq (tgt := 86) hx hb dX3_waits_67 (by decide) (hBr _ _ (by decide)) (fun c_67 => ?_) (fun c_67 => ?_)
        · refine lv_iload_n hx hb dX3_waits_86 rfl (lv_at hl 1 rfl) ?_
          refine n_if_eq (tgt := 99) hx hb dX3_waits_87 (by decide) (by decide) (fun c_87 => ?_) (fun c_87 => absurd c_87 (by decide))
          refine lv_iconst (v := nI 0) hx hb dX3_waits_99 (by decide) ?_
          exact W.zret (v := nI 0) (ty := .boolean) hx hb hr (nb_le (by first | exact bN_le _ | decide | omega | assumption)) (fun t ht hW => ⟨⟨_, (), rfl, (show nI 0 = nI (bN (awR r u v)) from by exact congrArg nI (bN_f (fun q => q.elim (fun q => absurd q.1 (by omega)) (fun q => absurd q.1.1 (by omega)))).symm), Wr_mk hRc hRr hRo hP hD ht⟩, hS.F ht⟩) hS.2.2 dX3_waits_100
        · refine lv_aload_n hx hb dX3_waits_70 rfl (lv_at hl 2 rfl) ?_
          refine lv_iload_n hx hb dX3_waits_71 rfl (lv_at hl 4 rfl) ?_
          refine y_calli (va_runV (As := [.int (nI v)]) (rest := []) ⟨hx, hb, hml, hown, hts⟩ (k_X3_isMet l D G h0 c r o hI v (by first | omega | assumption)) (cwV 1 hts gX3_waits_X3_isMet rfl rfl rfl (by decide +kernel) ⟨Nat.le_of_ble_eq_true rfl, Nat.le_of_ble_eq_true rfl⟩) ⟨fun a U g mk q => ⟨q.1, Pr_cg q.2⟩, va_recv (ci := 4) (q0 := 3) hK hP rfl (Q_m hRr), fun U hU hW => ⟨rfl, Pr_mk hE hRc hRr hRo hP hD hS hU hW⟩⟩ rfl rfl hl.1 rfl (lv_room (Nat.le_of_ble_eq_true rfl)) dX3_waits_72 ⟨Nat.le_of_ble_eq_true rfl, Nat.le_of_ble_eq_true rfl⟩) hS (fun v9 _ H locs wl hv9 hRc hRr hRo hP hD hS => ?_)
          refine n_top (y := .int (nI (bN (metP (r 17) (r 5) v)))) (congrArg Value.int hv9) ?_
          clear hv9 v9
          refine n_ifb_ne (tgt := 86) hx hb dX3_waits_75 (by decide) (fun c_75 => ?_) (fun c_75 => ?_)
          · refine lv_iload_n hx hb dX3_waits_86 rfl (lv_at hl 1 rfl) ?_
            refine n_if_eq (tgt := 99) hx hb dX3_waits_87 (by decide) (by decide) (fun c_87 => ?_) (fun c_87 => absurd c_87 (by decide))
            refine lv_iconst (v := nI 0) hx hb dX3_waits_99 (by decide) ?_
            exact W.zret (v := nI 0) (ty := .boolean) hx hb hr (nb_le (by first | exact bN_le _ | decide | omega | assumption)) (fun t ht hW => ⟨⟨_, (), rfl, (show nI 0 = nI (bN (awR r u v)) from by exact congrArg nI (bN_f (fun q => q.elim (fun q => q.2.1 c_75) (fun q => absurd q.1.1 (by omega)))).symm), Wr_mk hRc hRr hRo hP hD ht⟩, hS.F ht⟩) hS.2.2 dX3_waits_100
          · refine lv_aload_n hx hb dX3_waits_78 rfl (lv_at hl 2 rfl) ?_
            refine lv_iload_n hx hb dX3_waits_79 rfl (lv_at hl 4 rfl) ?_
            refine y_calli (va_runV (As := [.int (nI v)]) (rest := []) ⟨hx, hb, hml, hown, hts⟩ (k_X3_isLost l D G h0 c r o hI v (by first | omega | assumption)) (cwV 1 hts gX3_waits_X3_isLost rfl rfl rfl (by decide +kernel) ⟨Nat.le_of_ble_eq_true rfl, Nat.le_of_ble_eq_true rfl⟩) ⟨fun a U g mk q => ⟨q.1, Pr_cg q.2⟩, va_recv (ci := 4) (q0 := 3) hK hP rfl (Q_m hRr), fun U hU hW => ⟨rfl, Pr_mk hE hRc hRr hRo hP hD hS hU hW⟩⟩ rfl rfl hl.1 rfl (lv_room (Nat.le_of_ble_eq_true rfl)) dX3_waits_80 ⟨Nat.le_of_ble_eq_true rfl, Nat.le_of_ble_eq_true rfl⟩) hS (fun v9 _ H locs wl hv9 hRc hRr hRo hP hD hS => ?_)
            refine n_top (y := .int (nI (bN (lostP (r 17) (r 5) v)))) (congrArg Value.int hv9) ?_
            clear hv9 v9
            refine n_ifb_eq (tgt := 95) hx hb dX3_waits_83 (by decide) (fun c_83 => ?_) (fun c_83 => ?_)
            · refine lv_iconst (v := nI 1) hx hb dX3_waits_95 (by decide) ?_
              refine lv_goto (tgt := 100) hx hb dX3_waits_96 (by decide) ?_
              exact W.zret (v := nI 1) (ty := .boolean) hx hb hr (nb_le (by first | exact bN_le _ | decide | omega | assumption)) (fun t ht hW => ⟨⟨_, (), rfl, (show nI 1 = nI (bN (awR r u v)) from by exact congrArg nI (bN_t (Or.inl ⟨by assumption, by assumption, by assumption⟩)).symm), Wr_mk hRc hRr hRo hP hD ht⟩, hS.F ht⟩) hS.2.2 dX3_waits_100
            · refine lv_iload_n hx hb dX3_waits_86 rfl (lv_at hl 1 rfl) ?_
              refine n_if_eq (tgt := 99) hx hb dX3_waits_87 (by decide) (by decide) (fun c_87 => ?_) (fun c_87 => absurd c_87 (by decide))
              refine lv_iconst (v := nI 0) hx hb dX3_waits_99 (by decide) ?_
              exact W.zret (v := nI 0) (ty := .boolean) hx hb hr (nb_le (by first | exact bN_le _ | decide | omega | assumption)) (fun t ht hW => ⟨⟨_, (), rfl, (show nI 0 = nI (bN (awR r u v)) from by exact congrArg nI (bN_f (fun q => q.elim (fun q => q.2.2 c_83) (fun q => absurd q.1.1 (by omega)))).symm), Wr_mk hRc hRr hRo hP hD ht⟩, hS.F ht⟩) hS.2.2 dX3_waits_100
      · refine lv_iconst (v := nI 1) hx hb dX3_waits_50 (by decide) ?_
        refine lv_goto (tgt := 55) hx hb dX3_waits_51 (by decide) ?_
        refine lv_istore (lv' := [(4, .int (nI 1)), (3, .int (nI 0)), (0, .ref (G 3)), (1, .int (nI u)), (2, .int (nI v))]) hx hb dX3_waits_55 hl (by decide) rfl (fun ls hl => ?_)
        refine lv_aload_n hx hb dX3_waits_57 rfl (lv_at hl 2 rfl) ?_
        refine va_get (D := D) (ci := 4) (v := .ref (G 11)) (C := RX3) (T := TX3) (N := 23) hx hb hts inX3 hown hK hP 3 (Q_m hRr) rfl 7 (by decide) (hts (.fieldLink RX3 29 "BootStageModel" "needs" "[Z") (by decide +kernel)) (fun _ h9 => h9) rfl dX3_waits_58 ?_
        refine lv_iload_n hx hb dX3_waits_61 rfl (lv_at hl 3 rfl) ?_
        refine lv_iload_n hx hb dX3_waits_62 rfl (lv_at hl 4 rfl) ?_
        refine y_calli (va_runS (As := [.int (nI u), .int (nI v)]) (rest := [.ref (G 11)]) ⟨hx, hb, hml, hown, hts⟩ (k_X3_edge l D G h0 c r o u v) (va_cwS 2 hts gX3_waits_X3_edge rfl rfl rfl (by decide +kernel) ⟨Nat.le_of_ble_eq_true rfl, Nat.le_of_ble_eq_true rfl⟩) ⟨fun a U g mk q => ⟨q.1, Pr_cg q.2⟩, fun U hU hW => ⟨rfl, Pr_mk hE hRc hRr hRo hP hD hS hU hW⟩⟩ rfl rfl hl.1 rfl (lv_room (Nat.le_of_ble_eq_true rfl)) dX3_waits_63 ⟨Nat.le_of_ble_eq_true rfl, Nat.le_of_ble_eq_true rfl⟩) hS (fun v9 _ H locs wl hv9 hRc hRr hRo hP hD hS => ?_)
        refine n_top (y := .int (nI (20 * u + v))) (congrArg Value.int hv9) ?_
        clear hv9 v9
        refine x_zald hx hb hK hP 11 (Q_a7 hRr) (by first | omega | decide | assumption) (by decide) dX3_waits_66 (v := nI (r 7 (20 * u + v))) rfl ?_
        refine n_if_eq (tgt := 86) hx hb dX3_waits_67 (by decide) (hBr _ _ (by decide)) (fun c_67 => ?_) (fun c_67 => ?_)
        · refine lv_iload_n hx hb dX3_waits_86 rfl (lv_at hl 1 rfl) ?_
          refine n_if_eq (tgt := 99) hx hb dX3_waits_87 (by decide) (by decide) (fun c_87 => ?_) (fun c_87 => absurd c_87 (by decide))
          refine lv_iconst (v := nI 0) hx hb dX3_waits_99 (by decide) ?_
          exact W.zret (v := nI 0) (ty := .boolean) hx hb hr (nb_le (by first | exact bN_le _ | decide | omega | assumption)) (fun t ht hW => ⟨⟨_, (), rfl, (show nI 0 = nI (bN (awR r u v)) from by exact congrArg nI (bN_f (fun q => q.elim (fun q => absurd q.1 (by omega)) (fun q => absurd q.1.1 (by omega)))).symm), Wr_mk hRc hRr hRo hP hD ht⟩, hS.F ht⟩) hS.2.2 dX3_waits_100
        · refine lv_aload_n hx hb dX3_waits_70 rfl (lv_at hl 2 rfl) ?_
          refine lv_iload_n hx hb dX3_waits_71 rfl (lv_at hl 4 rfl) ?_
          refine y_calli (va_runV (As := [.int (nI v)]) (rest := []) ⟨hx, hb, hml, hown, hts⟩ (k_X3_isMet l D G h0 c r o hI v (by first | omega | assumption)) (cwV 1 hts gX3_waits_X3_isMet rfl rfl rfl (by decide +kernel) ⟨Nat.le_of_ble_eq_true rfl, Nat.le_of_ble_eq_true rfl⟩) ⟨fun a U g mk q => ⟨q.1, Pr_cg q.2⟩, va_recv (ci := 4) (q0 := 3) hK hP rfl (Q_m hRr), fun U hU hW => ⟨rfl, Pr_mk hE hRc hRr hRo hP hD hS hU hW⟩⟩ rfl rfl hl.1 rfl (lv_room (Nat.le_of_ble_eq_true rfl)) dX3_waits_72 ⟨Nat.le_of_ble_eq_true rfl, Nat.le_of_ble_eq_true rfl⟩) hS (fun v9 _ H locs wl hv9 hRc hRr hRo hP hD hS => ?_)
          refine n_top (y := .int (nI (bN (metP (r 17) (r 5) v)))) (congrArg Value.int hv9) ?_
          clear hv9 v9
          refine n_ifb_ne (tgt := 86) hx hb dX3_waits_75 (by decide) (fun c_75 => ?_) (fun c_75 => ?_)
          · refine lv_iload_n hx hb dX3_waits_86 rfl (lv_at hl 1 rfl) ?_
            refine n_if_eq (tgt := 99) hx hb dX3_waits_87 (by decide) (by decide) (fun c_87 => ?_) (fun c_87 => absurd c_87 (by decide))
            refine lv_iconst (v := nI 0) hx hb dX3_waits_99 (by decide) ?_
            exact W.zret (v := nI 0) (ty := .boolean) hx hb hr (nb_le (by first | exact bN_le _ | decide | omega | assumption)) (fun t ht hW => ⟨⟨_, (), rfl, (show nI 0 = nI (bN (awR r u v)) from by exact congrArg nI (bN_f (fun q => q.elim (fun q => q.2.1 c_75) (fun q => absurd q.1.1 (by omega)))).symm), Wr_mk hRc hRr hRo hP hD ht⟩, hS.F ht⟩) hS.2.2 dX3_waits_100
          · refine lv_aload_n hx hb dX3_waits_78 rfl (lv_at hl 2 rfl) ?_
            refine lv_iload_n hx hb dX3_waits_79 rfl (lv_at hl 4 rfl) ?_
            refine y_calli (va_runV (As := [.int (nI v)]) (rest := []) ⟨hx, hb, hml, hown, hts⟩ (k_X3_isLost l D G h0 c r o hI v (by first | omega | assumption)) (cwV 1 hts gX3_waits_X3_isLost rfl rfl rfl (by decide +kernel) ⟨Nat.le_of_ble_eq_true rfl, Nat.le_of_ble_eq_true rfl⟩) ⟨fun a U g mk q => ⟨q.1, Pr_cg q.2⟩, va_recv (ci := 4) (q0 := 3) hK hP rfl (Q_m hRr), fun U hU hW => ⟨rfl, Pr_mk hE hRc hRr hRo hP hD hS hU hW⟩⟩ rfl rfl hl.1 rfl (lv_room (Nat.le_of_ble_eq_true rfl)) dX3_waits_80 ⟨Nat.le_of_ble_eq_true rfl, Nat.le_of_ble_eq_true rfl⟩) hS (fun v9 _ H locs wl hv9 hRc hRr hRo hP hD hS => ?_)
            refine n_top (y := .int (nI (bN (lostP (r 17) (r 5) v)))) (congrArg Value.int hv9) ?_
            clear hv9 v9
            refine n_ifb_eq (tgt := 95) hx hb dX3_waits_83 (by decide) (fun c_83 => ?_) (fun c_83 => ?_)
            · refine lv_iconst (v := nI 1) hx hb dX3_waits_95 (by decide) ?_
              refine lv_goto (tgt := 100) hx hb dX3_waits_96 (by decide) ?_
              exact W.zret (v := nI 1) (ty := .boolean) hx hb hr (nb_le (by first | exact bN_le _ | decide | omega | assumption)) (fun t ht hW => ⟨⟨_, (), rfl, (show nI 1 = nI (bN (awR r u v)) from by exact congrArg nI (bN_t (Or.inl ⟨by assumption, by assumption, by assumption⟩)).symm), Wr_mk hRc hRr hRo hP hD ht⟩, hS.F ht⟩) hS.2.2 dX3_waits_100
            · refine lv_iload_n hx hb dX3_waits_86 rfl (lv_at hl 1 rfl) ?_
              refine n_if_eq (tgt := 99) hx hb dX3_waits_87 (by decide) (by decide) (fun c_87 => ?_) (fun c_87 => absurd c_87 (by decide))
              refine lv_iconst (v := nI 0) hx hb dX3_waits_99 (by decide) ?_
              exact W.zret (v := nI 0) (ty := .boolean) hx hb hr (nb_le (by first | exact bN_le _ | decide | omega | assumption)) (fun t ht hW => ⟨⟨_, (), rfl, (show nI 0 = nI (bN (awR r u v)) from by exact congrArg nI (bN_f (fun q => q.elim (fun q => q.2.2 c_83) (fun q => absurd q.1.1 (by omega)))).symm), Wr_mk hRc hRr hRo hP hD ht⟩, hS.F ht⟩) hS.2.2 dX3_waits_100
  · refine lv_aload_n hx hb dX3_waits_13 rfl (lv_at hl 0 rfl) ?_
    refine va_get (D := D) (ci := 4) (v := .ref (G 14)) (C := RX3) (T := TX3) (N := 23) hx hb hts inX3 hown hK hP 3 (Q_m hRr) rfl 11 (by decide) (hts (.fieldLink RX3 38 "BootStageModel" "isCut" "[Z") (by decide +kernel)) (fun _ h9 => h9) rfl dX3_waits_14 ?_
    refine lv_iload_n hx hb dX3_waits_17 rfl (lv_at hl 1 rfl) ?_
    refine lv_iload_n hx hb dX3_waits_18 rfl (lv_at hl 2 rfl) ?_
    refine y_calli (va_runS (As := [.int (nI u), .int (nI v)]) (rest := [.ref (G 14)]) ⟨hx, hb, hml, hown, hts⟩ (k_X3_edge l D G h0 c r o u v) (va_cwS 2 hts gX3_waits_X3_edge rfl rfl rfl (by decide +kernel) ⟨Nat.le_of_ble_eq_true rfl, Nat.le_of_ble_eq_true rfl⟩) ⟨fun a U g mk q => ⟨q.1, Pr_cg q.2⟩, fun U hU hW => ⟨rfl, Pr_mk hE hRc hRr hRo hP hD hS hU hW⟩⟩ rfl rfl hl.1 rfl (lv_room (Nat.le_of_ble_eq_true rfl)) dX3_waits_19 ⟨Nat.le_of_ble_eq_true rfl, Nat.le_of_ble_eq_true rfl⟩) hS (fun v9 _ H locs wl hv9 hRc hRr hRo hP hD hS => ?_)
    refine n_top (y := .int (nI (20 * u + v))) (congrArg Value.int hv9) ?_
    clear hv9 v9
    refine x_zald hx hb hK hP 14 (Q_a11 hRr) (by first | omega | decide | assumption) (by decide) dX3_waits_22 (v := nI (r 11 (20 * u + v))) rfl ?_
    refine n_if_ne (tgt := 30) hx hb dX3_waits_23 (by decide) (hBr _ _ (by decide)) (fun c_23 => ?_) (fun c_23 => ?_)
    · refine lv_iconst (v := nI 0) hx hb dX3_waits_30 (by decide) ?_
      refine lv_istore_n (lv' := [(3, .int (nI 0)), (0, .ref (G 3)), (1, .int (nI u)), (2, .int (nI v))]) hx hb dX3_waits_31 rfl hl (by decide) rfl (fun ls hl => ?_)
      refine lv_aload_n hx hb dX3_waits_32 rfl (lv_at hl 1 rfl) ?_
      refine va_get (D := D) (ci := 4) (v := .ref (G 15)) (C := RX3) (T := TX3) (N := 23) hx hb hts inX3 hown hK hP 3 (Q_m hRr) rfl 17 (by decide) (hts (.fieldLink RX3 41 "BootStageModel" "states" "[I") (by decide +kernel)) (fun _ h9 => h9) rfl dX3_waits_33 ?_
      refine lv_iload_n hx hb dX3_waits_36 rfl (lv_at hl 3 rfl) ?_
      refine x_iald hx hb hK hP 15 (Q_a17 hRr) (by first | omega | decide | assumption) (by decide) dX3_waits_37 (v := nI (r 17 v)) rfl ?_
      refine lv_iconst (v := nI 2) hx hb dX3_waits_38 (by decide) ?_
      refine n_icmp_eq (tgt := 50) hx hb dX3_waits_39 (by decide) (hBr _ _ (by decide)) (by decide) (fun c_39 => ?_) (fun c_39 => ?_)
      · refine lv_iconst (v := nI 1) hx hb dX3_waits_50 (by decide) ?_
        refine lv_goto (tgt := 55) hx hb dX3_waits_51 (by decide) ?_
        refine lv_istore (lv' := [(4, .int (nI 1)), (3, .int (nI 0)), (0, .ref (G 3)), (1, .int (nI u)), (2, .int (nI v))]) hx hb dX3_waits_55 hl (by decide) rfl (fun ls hl => ?_)
        refine lv_aload_n hx hb dX3_waits_57 rfl (lv_at hl 2 rfl) ?_
        refine va_get (D := D) (ci := 4) (v := .ref (G 11)) (C := RX3) (T := TX3) (N := 23) hx hb hts inX3 hown hK hP 3 (Q_m hRr) rfl 7 (by decide) (hts (.fieldLink RX3 29 "BootStageModel" "needs" "[Z") (by decide +kernel)) (fun _ h9 => h9) rfl dX3_waits_58 ?_
        refine lv_iload_n hx hb dX3_waits_61 rfl (lv_at hl 3 rfl) ?_
        refine lv_iload_n hx hb dX3_waits_62 rfl (lv_at hl 4 rfl) ?_
        refine y_calli (va_runS (As := [.int (nI u), .int (nI v)]) (rest := [.ref (G 11)]) ⟨hx, hb, hml, hown, hts⟩ (k_X3_edge l D G h0 c r o u v) (va_cwS 2 hts gX3_waits_X3_edge rfl rfl rfl (by decide +kernel) ⟨Nat.le_of_ble_eq_true rfl, Nat.le_of_ble_eq_true rfl⟩) ⟨fun a U g mk q => ⟨q.1, Pr_cg q.2⟩, fun U hU hW => ⟨rfl, Pr_mk hE hRc hRr hRo hP hD hS hU hW⟩⟩ rfl rfl hl.1 rfl (lv_room (Nat.le_of_ble_eq_true rfl)) dX3_waits_63 ⟨Nat.le_of_ble_eq_true rfl, Nat.le_of_ble_eq_true rfl⟩) hS (fun v9 _ H locs wl hv9 hRc hRr hRo hP hD hS => ?_)
        refine n_top (y := .int (nI (20 * u + v))) (congrArg Value.int hv9) ?_
        clear hv9 v9
        refine x_zald hx hb hK hP 11 (Q_a7 hRr) (by first | omega | decide | assumption) (by decide) dX3_waits_66 (v := nI (r 7 (20 * u + v))) rfl ?_
        refine n_if_eq (tgt := 86) hx hb dX3_waits_67 (by decide) (hBr _ _ (by decide)) (fun c_67 => ?_) (fun c_67 => ?_)
        · refine lv_iload_n hx hb dX3_waits_86 rfl (lv_at hl 1 rfl) ?_
          refine n_if_eq (tgt := 99) hx hb dX3_waits_87 (by decide) (by decide) (fun c_87 => ?_) (fun c_87 => absurd c_87 (by decide))
          refine lv_iconst (v := nI 0) hx hb dX3_waits_99 (by decide) ?_
          exact W.zret (v := nI 0) (ty := .boolean) hx hb hr (nb_le (by first | exact bN_le _ | decide | omega | assumption)) (fun t ht hW => ⟨⟨_, (), rfl, (show nI 0 = nI (bN (awR r u v)) from by exact congrArg nI (bN_f (fun q => q.elim (fun q => absurd q.1 (by omega)) (fun q => absurd q.1.2 (by omega)))).symm), Wr_mk hRc hRr hRo hP hD ht⟩, hS.F ht⟩) hS.2.2 dX3_waits_100
        · refine lv_aload_n hx hb dX3_waits_70 rfl (lv_at hl 2 rfl) ?_
          refine lv_iload_n hx hb dX3_waits_71 rfl (lv_at hl 4 rfl) ?_
          refine y_calli (va_runV (As := [.int (nI v)]) (rest := []) ⟨hx, hb, hml, hown, hts⟩ (k_X3_isMet l D G h0 c r o hI v (by first | omega | assumption)) (cwV 1 hts gX3_waits_X3_isMet rfl rfl rfl (by decide +kernel) ⟨Nat.le_of_ble_eq_true rfl, Nat.le_of_ble_eq_true rfl⟩) ⟨fun a U g mk q => ⟨q.1, Pr_cg q.2⟩, va_recv (ci := 4) (q0 := 3) hK hP rfl (Q_m hRr), fun U hU hW => ⟨rfl, Pr_mk hE hRc hRr hRo hP hD hS hU hW⟩⟩ rfl rfl hl.1 rfl (lv_room (Nat.le_of_ble_eq_true rfl)) dX3_waits_72 ⟨Nat.le_of_ble_eq_true rfl, Nat.le_of_ble_eq_true rfl⟩) hS (fun v9 _ H locs wl hv9 hRc hRr hRo hP hD hS => ?_)
          refine n_top (y := .int (nI (bN (metP (r 17) (r 5) v)))) (congrArg Value.int hv9) ?_
          clear hv9 v9
          refine n_ifb_ne (tgt := 86) hx hb dX3_waits_75 (by decide) (fun c_75 => ?_) (fun c_75 => ?_)
          · refine lv_iload_n hx hb dX3_waits_86 rfl (lv_at hl 1 rfl) ?_
            refine n_if_eq (tgt := 99) hx hb dX3_waits_87 (by decide) (by decide) (fun c_87 => ?_) (fun c_87 => absurd c_87 (by decide))
            refine lv_iconst (v := nI 0) hx hb dX3_waits_99 (by decide) ?_
            exact W.zret (v := nI 0) (ty := .boolean) hx hb hr (nb_le (by first | exact bN_le _ | decide | omega | assumption)) (fun t ht hW => ⟨⟨_, (), rfl, (show nI 0 = nI (bN (awR r u v)) from by exact congrArg nI (bN_f (fun q => q.elim (fun q => q.2.1 c_75) (fun q => absurd q.1.2 (by omega)))).symm), Wr_mk hRc hRr hRo hP hD ht⟩, hS.F ht⟩) hS.2.2 dX3_waits_100
          · refine lv_aload_n hx hb dX3_waits_78 rfl (lv_at hl 2 rfl) ?_
            refine lv_iload_n hx hb dX3_waits_79 rfl (lv_at hl 4 rfl) ?_
            refine y_calli (va_runV (As := [.int (nI v)]) (rest := []) ⟨hx, hb, hml, hown, hts⟩ (k_X3_isLost l D G h0 c r o hI v (by first | omega | assumption)) (cwV 1 hts gX3_waits_X3_isLost rfl rfl rfl (by decide +kernel) ⟨Nat.le_of_ble_eq_true rfl, Nat.le_of_ble_eq_true rfl⟩) ⟨fun a U g mk q => ⟨q.1, Pr_cg q.2⟩, va_recv (ci := 4) (q0 := 3) hK hP rfl (Q_m hRr), fun U hU hW => ⟨rfl, Pr_mk hE hRc hRr hRo hP hD hS hU hW⟩⟩ rfl rfl hl.1 rfl (lv_room (Nat.le_of_ble_eq_true rfl)) dX3_waits_80 ⟨Nat.le_of_ble_eq_true rfl, Nat.le_of_ble_eq_true rfl⟩) hS (fun v9 _ H locs wl hv9 hRc hRr hRo hP hD hS => ?_)
            refine n_top (y := .int (nI (bN (lostP (r 17) (r 5) v)))) (congrArg Value.int hv9) ?_
            clear hv9 v9
            refine n_ifb_eq (tgt := 95) hx hb dX3_waits_83 (by decide) (fun c_83 => ?_) (fun c_83 => ?_)
            · refine lv_iconst (v := nI 1) hx hb dX3_waits_95 (by decide) ?_
              refine lv_goto (tgt := 100) hx hb dX3_waits_96 (by decide) ?_
              exact W.zret (v := nI 1) (ty := .boolean) hx hb hr (nb_le (by first | exact bN_le _ | decide | omega | assumption)) (fun t ht hW => ⟨⟨_, (), rfl, (show nI 1 = nI (bN (awR r u v)) from by exact congrArg nI (bN_t (Or.inl ⟨by assumption, by assumption, by assumption⟩)).symm), Wr_mk hRc hRr hRo hP hD ht⟩, hS.F ht⟩) hS.2.2 dX3_waits_100
            · refine lv_iload_n hx hb dX3_waits_86 rfl (lv_at hl 1 rfl) ?_
              refine n_if_eq (tgt := 99) hx hb dX3_waits_87 (by decide) (by decide) (fun c_87 => ?_) (fun c_87 => absurd c_87 (by decide))
              refine lv_iconst (v := nI 0) hx hb dX3_waits_99 (by decide) ?_
              exact W.zret (v := nI 0) (ty := .boolean) hx hb hr (nb_le (by first | exact bN_le _ | decide | omega | assumption)) (fun t ht hW => ⟨⟨_, (), rfl, (show nI 0 = nI (bN (awR r u v)) from by exact congrArg nI (bN_f (fun q => q.elim (fun q => q.2.2 c_83) (fun q => absurd q.1.2 (by omega)))).symm), Wr_mk hRc hRr hRo hP hD ht⟩, hS.F ht⟩) hS.2.2 dX3_waits_100
      · refine lv_aload_n hx hb dX3_waits_42 rfl (lv_at hl 1 rfl) ?_
        refine lv_iload_n hx hb dX3_waits_43 rfl (lv_at hl 3 rfl) ?_
        refine y_calli (va_runV (As := [.int (nI v)]) (rest := []) ⟨hx, hb, hml, hown, hts⟩ (k_X3_isOff l D G h0 c r o hI v (by first | omega | assumption)) (cwV 1 hts gX3_waits_X3_isOff rfl rfl rfl (by decide +kernel) ⟨Nat.le_of_ble_eq_true rfl, Nat.le_of_ble_eq_true rfl⟩) ⟨fun a U g mk q => ⟨q.1, Pr_cg q.2⟩, va_recv (ci := 4) (q0 := 3) hK hP rfl (Q_m hRr), fun U hU hW => ⟨rfl, Pr_mk hE hRc hRr hRo hP hD hS hU hW⟩⟩ rfl rfl hl.1 rfl (lv_room (Nat.le_of_ble_eq_true rfl)) dX3_waits_44 ⟨Nat.le_of_ble_eq_true rfl, Nat.le_of_ble_eq_true rfl⟩) hS (fun v9 _ H locs wl hv9 hRc hRr hRo hP hD hS => ?_)
        refine n_top (y := .int (nI (bN (goneP (r 17) v)))) (congrArg Value.int hv9) ?_
        clear hv9 v9
        refine n_ifb_eq (tgt := 54) hx hb dX3_waits_47 (by decide) (fun c_47 => ?_) (fun c_47 => ?_)
        · refine lv_iconst (v := nI 0) hx hb dX3_waits_54 (by decide) ?_
          refine lv_istore (lv' := [(4, .int (nI 0)), (3, .int (nI 0)), (0, .ref (G 3)), (1, .int (nI u)), (2, .int (nI v))]) hx hb dX3_waits_55 hl (by decide) rfl (fun ls hl => ?_)
          refine lv_aload_n hx hb dX3_waits_57 rfl (lv_at hl 2 rfl) ?_
          refine va_get (D := D) (ci := 4) (v := .ref (G 11)) (C := RX3) (T := TX3) (N := 23) hx hb hts inX3 hown hK hP 3 (Q_m hRr) rfl 7 (by decide) (hts (.fieldLink RX3 29 "BootStageModel" "needs" "[Z") (by decide +kernel)) (fun _ h9 => h9) rfl dX3_waits_58 ?_
          refine lv_iload_n hx hb dX3_waits_61 rfl (lv_at hl 3 rfl) ?_
          refine lv_iload_n hx hb dX3_waits_62 rfl (lv_at hl 4 rfl) ?_
          refine y_calli (va_runS (As := [.int (nI u), .int (nI v)]) (rest := [.ref (G 11)]) ⟨hx, hb, hml, hown, hts⟩ (k_X3_edge l D G h0 c r o u v) (va_cwS 2 hts gX3_waits_X3_edge rfl rfl rfl (by decide +kernel) ⟨Nat.le_of_ble_eq_true rfl, Nat.le_of_ble_eq_true rfl⟩) ⟨fun a U g mk q => ⟨q.1, Pr_cg q.2⟩, fun U hU hW => ⟨rfl, Pr_mk hE hRc hRr hRo hP hD hS hU hW⟩⟩ rfl rfl hl.1 rfl (lv_room (Nat.le_of_ble_eq_true rfl)) dX3_waits_63 ⟨Nat.le_of_ble_eq_true rfl, Nat.le_of_ble_eq_true rfl⟩) hS (fun v9 _ H locs wl hv9 hRc hRr hRo hP hD hS => ?_)
          refine n_top (y := .int (nI (20 * u + v))) (congrArg Value.int hv9) ?_
          clear hv9 v9
          refine x_zald hx hb hK hP 11 (Q_a7 hRr) (by first | omega | decide | assumption) (by decide) dX3_waits_66 (v := nI (r 7 (20 * u + v))) rfl ?_
          refine n_if_eq (tgt := 86) hx hb dX3_waits_67 (by decide) (hBr _ _ (by decide)) (fun c_67 => ?_) (fun c_67 => ?_)
          · refine lv_iload_n hx hb dX3_waits_86 rfl (lv_at hl 1 rfl) ?_
            refine n_if_eq (tgt := 99) hx hb dX3_waits_87 (by decide) (by decide) (fun c_87 => ?_) (fun c_87 => absurd c_87 (by decide))
            refine lv_iconst (v := nI 0) hx hb dX3_waits_99 (by decide) ?_
            exact W.zret (v := nI 0) (ty := .boolean) hx hb hr (nb_le (by first | exact bN_le _ | decide | omega | assumption)) (fun t ht hW => ⟨⟨_, (), rfl, (show nI 0 = nI (bN (awR r u v)) from by exact congrArg nI (bN_f (fun q => q.elim (fun q => absurd q.1 (by omega)) (fun q => absurd q.1.2 (by omega)))).symm), Wr_mk hRc hRr hRo hP hD ht⟩, hS.F ht⟩) hS.2.2 dX3_waits_100
          · refine lv_aload_n hx hb dX3_waits_70 rfl (lv_at hl 2 rfl) ?_
            refine lv_iload_n hx hb dX3_waits_71 rfl (lv_at hl 4 rfl) ?_
            refine y_calli (va_runV (As := [.int (nI v)]) (rest := []) ⟨hx, hb, hml, hown, hts⟩ (k_X3_isMet l D G h0 c r o hI v (by first | omega | assumption)) (cwV 1 hts gX3_waits_X3_isMet rfl rfl rfl (by decide +kernel) ⟨Nat.le_of_ble_eq_true rfl, Nat.le_of_ble_eq_true rfl⟩) ⟨fun a U g mk q => ⟨q.1, Pr_cg q.2⟩, va_recv (ci := 4) (q0 := 3) hK hP rfl (Q_m hRr), fun U hU hW => ⟨rfl, Pr_mk hE hRc hRr hRo hP hD hS hU hW⟩⟩ rfl rfl hl.1 rfl (lv_room (Nat.le_of_ble_eq_true rfl)) dX3_waits_72 ⟨Nat.le_of_ble_eq_true rfl, Nat.le_of_ble_eq_true rfl⟩) hS (fun v9 _ H locs wl hv9 hRc hRr hRo hP hD hS => ?_)
            refine n_top (y := .int (nI (bN (metP (r 17) (r 5) v)))) (congrArg Value.int hv9) ?_
            clear hv9 v9
            refine n_ifb_ne (tgt := 86) hx hb dX3_waits_75 (by decide) (fun c_75 => ?_) (fun c_75 => ?_)
            · refine lv_iload_n hx hb dX3_waits_86 rfl (lv_at hl 1 rfl) ?_
              refine n_if_eq (tgt := 99) hx hb dX3_waits_87 (by decide) (by decide) (fun c_87 => ?_) (fun c_87 => absurd c_87 (by decide))
              refine lv_iconst (v := nI 0) hx hb dX3_waits_99 (by decide) ?_
              exact W.zret (v := nI 0) (ty := .boolean) hx hb hr (nb_le (by first | exact bN_le _ | decide | omega | assumption)) (fun t ht hW => ⟨⟨_, (), rfl, (show nI 0 = nI (bN (awR r u v)) from by exact congrArg nI (bN_f (fun q => q.elim (fun q => q.2.1 c_75) (fun q => absurd q.1.2 (by omega)))).symm), Wr_mk hRc hRr hRo hP hD ht⟩, hS.F ht⟩) hS.2.2 dX3_waits_100
            · refine lv_aload_n hx hb dX3_waits_78 rfl (lv_at hl 2 rfl) ?_
              refine lv_iload_n hx hb dX3_waits_79 rfl (lv_at hl 4 rfl) ?_
              refine y_calli (va_runV (As := [.int (nI v)]) (rest := []) ⟨hx, hb, hml, hown, hts⟩ (k_X3_isLost l D G h0 c r o hI v (by first | omega | assumption)) (cwV 1 hts gX3_waits_X3_isLost rfl rfl rfl (by decide +kernel) ⟨Nat.le_of_ble_eq_true rfl, Nat.le_of_ble_eq_true rfl⟩) ⟨fun a U g mk q => ⟨q.1, Pr_cg q.2⟩, va_recv (ci := 4) (q0 := 3) hK hP rfl (Q_m hRr), fun U hU hW => ⟨rfl, Pr_mk hE hRc hRr hRo hP hD hS hU hW⟩⟩ rfl rfl hl.1 rfl (lv_room (Nat.le_of_ble_eq_true rfl)) dX3_waits_80 ⟨Nat.le_of_ble_eq_true rfl, Nat.le_of_ble_eq_true rfl⟩) hS (fun v9 _ H locs wl hv9 hRc hRr hRo hP hD hS => ?_)
              refine n_top (y := .int (nI (bN (lostP (r 17) (r 5) v)))) (congrArg Value.int hv9) ?_
              clear hv9 v9
              refine n_ifb_eq (tgt := 95) hx hb dX3_waits_83 (by decide) (fun c_83 => ?_) (fun c_83 => ?_)
              · refine lv_iconst (v := nI 1) hx hb dX3_waits_95 (by decide) ?_
                refine lv_goto (tgt := 100) hx hb dX3_waits_96 (by decide) ?_
                exact W.zret (v := nI 1) (ty := .boolean) hx hb hr (nb_le (by first | exact bN_le _ | decide | omega | assumption)) (fun t ht hW => ⟨⟨_, (), rfl, (show nI 1 = nI (bN (awR r u v)) from by exact congrArg nI (bN_t (Or.inl ⟨by assumption, by assumption, by assumption⟩)).symm), Wr_mk hRc hRr hRo hP hD ht⟩, hS.F ht⟩) hS.2.2 dX3_waits_100
              · refine lv_iload_n hx hb dX3_waits_86 rfl (lv_at hl 1 rfl) ?_
                refine n_if_eq (tgt := 99) hx hb dX3_waits_87 (by decide) (by decide) (fun c_87 => ?_) (fun c_87 => absurd c_87 (by decide))
                refine lv_iconst (v := nI 0) hx hb dX3_waits_99 (by decide) ?_
                exact W.zret (v := nI 0) (ty := .boolean) hx hb hr (nb_le (by first | exact bN_le _ | decide | omega | assumption)) (fun t ht hW => ⟨⟨_, (), rfl, (show nI 0 = nI (bN (awR r u v)) from by exact congrArg nI (bN_f (fun q => q.elim (fun q => q.2.2 c_83) (fun q => absurd q.1.2 (by omega)))).symm), Wr_mk hRc hRr hRo hP hD ht⟩, hS.F ht⟩) hS.2.2 dX3_waits_100
        · refine lv_iconst (v := nI 1) hx hb dX3_waits_50 (by decide) ?_
          refine lv_goto (tgt := 55) hx hb dX3_waits_51 (by decide) ?_
          refine lv_istore (lv' := [(4, .int (nI 1)), (3, .int (nI 0)), (0, .ref (G 3)), (1, .int (nI u)), (2, .int (nI v))]) hx hb dX3_waits_55 hl (by decide) rfl (fun ls hl => ?_)
          refine lv_aload_n hx hb dX3_waits_57 rfl (lv_at hl 2 rfl) ?_
          refine va_get (D := D) (ci := 4) (v := .ref (G 11)) (C := RX3) (T := TX3) (N := 23) hx hb hts inX3 hown hK hP 3 (Q_m hRr) rfl 7 (by decide) (hts (.fieldLink RX3 29 "BootStageModel" "needs" "[Z") (by decide +kernel)) (fun _ h9 => h9) rfl dX3_waits_58 ?_
          refine lv_iload_n hx hb dX3_waits_61 rfl (lv_at hl 3 rfl) ?_
          refine lv_iload_n hx hb dX3_waits_62 rfl (lv_at hl 4 rfl) ?_
          refine y_calli (va_runS (As := [.int (nI u), .int (nI v)]) (rest := [.ref (G 11)]) ⟨hx, hb, hml, hown, hts⟩ (k_X3_edge l D G h0 c r o u v) (va_cwS 2 hts gX3_waits_X3_edge rfl rfl rfl (by decide +kernel) ⟨Nat.le_of_ble_eq_true rfl, Nat.le_of_ble_eq_true rfl⟩) ⟨fun a U g mk q => ⟨q.1, Pr_cg q.2⟩, fun U hU hW => ⟨rfl, Pr_mk hE hRc hRr hRo hP hD hS hU hW⟩⟩ rfl rfl hl.1 rfl (lv_room (Nat.le_of_ble_eq_true rfl)) dX3_waits_63 ⟨Nat.le_of_ble_eq_true rfl, Nat.le_of_ble_eq_true rfl⟩) hS (fun v9 _ H locs wl hv9 hRc hRr hRo hP hD hS => ?_)
          refine n_top (y := .int (nI (20 * u + v))) (congrArg Value.int hv9) ?_
          clear hv9 v9
          refine x_zald hx hb hK hP 11 (Q_a7 hRr) (by first | omega | decide | assumption) (by decide) dX3_waits_66 (v := nI (r 7 (20 * u + v))) rfl ?_
          refine n_if_eq (tgt := 86) hx hb dX3_waits_67 (by decide) (hBr _ _ (by decide)) (fun c_67 => ?_) (fun c_67 => ?_)
          · refine lv_iload_n hx hb dX3_waits_86 rfl (lv_at hl 1 rfl) ?_
            refine n_if_eq (tgt := 99) hx hb dX3_waits_87 (by decide) (by decide) (fun c_87 => ?_) (fun c_87 => absurd c_87 (by decide))
            refine lv_iconst (v := nI 0) hx hb dX3_waits_99 (by decide) ?_
            exact W.zret (v := nI 0) (ty := .boolean) hx hb hr (nb_le (by first | exact bN_le _ | decide | omega | assumption)) (fun t ht hW => ⟨⟨_, (), rfl, (show nI 0 = nI (bN (awR r u v)) from by exact congrArg nI (bN_f (fun q => q.elim (fun q => absurd q.1 (by omega)) (fun q => absurd q.1.2 (by omega)))).symm), Wr_mk hRc hRr hRo hP hD ht⟩, hS.F ht⟩) hS.2.2 dX3_waits_100
          · refine lv_aload_n hx hb dX3_waits_70 rfl (lv_at hl 2 rfl) ?_
            refine lv_iload_n hx hb dX3_waits_71 rfl (lv_at hl 4 rfl) ?_
            refine y_calli (va_runV (As := [.int (nI v)]) (rest := []) ⟨hx, hb, hml, hown, hts⟩ (k_X3_isMet l D G h0 c r o hI v (by first | omega | assumption)) (cwV 1 hts gX3_waits_X3_isMet rfl rfl rfl (by decide +kernel) ⟨Nat.le_of_ble_eq_true rfl, Nat.le_of_ble_eq_true rfl⟩) ⟨fun a U g mk q => ⟨q.1, Pr_cg q.2⟩, va_recv (ci := 4) (q0 := 3) hK hP rfl (Q_m hRr), fun U hU hW => ⟨rfl, Pr_mk hE hRc hRr hRo hP hD hS hU hW⟩⟩ rfl rfl hl.1 rfl (lv_room (Nat.le_of_ble_eq_true rfl)) dX3_waits_72 ⟨Nat.le_of_ble_eq_true rfl, Nat.le_of_ble_eq_true rfl⟩) hS (fun v9 _ H locs wl hv9 hRc hRr hRo hP hD hS => ?_)
            refine n_top (y := .int (nI (bN (metP (r 17) (r 5) v)))) (congrArg Value.int hv9) ?_
            clear hv9 v9
            refine n_ifb_ne (tgt := 86) hx hb dX3_waits_75 (by decide) (fun c_75 => ?_) (fun c_75 => ?_)
            · refine lv_iload_n hx hb dX3_waits_86 rfl (lv_at hl 1 rfl) ?_
              refine n_if_eq (tgt := 99) hx hb dX3_waits_87 (by decide) (by decide) (fun c_87 => ?_) (fun c_87 => absurd c_87 (by decide))
              refine lv_iconst (v := nI 0) hx hb dX3_waits_99 (by decide) ?_
              exact W.zret (v := nI 0) (ty := .boolean) hx hb hr (nb_le (by first | exact bN_le _ | decide | omega | assumption)) (fun t ht hW => ⟨⟨_, (), rfl, (show nI 0 = nI (bN (awR r u v)) from by exact congrArg nI (bN_f (fun q => q.elim (fun q => q.2.1 c_75) (fun q => absurd q.1.2 (by omega)))).symm), Wr_mk hRc hRr hRo hP hD ht⟩, hS.F ht⟩) hS.2.2 dX3_waits_100
            · refine lv_aload_n hx hb dX3_waits_78 rfl (lv_at hl 2 rfl) ?_
              refine lv_iload_n hx hb dX3_waits_79 rfl (lv_at hl 4 rfl) ?_
              refine y_calli (va_runV (As := [.int (nI v)]) (rest := []) ⟨hx, hb, hml, hown, hts⟩ (k_X3_isLost l D G h0 c r o hI v (by first | omega | assumption)) (cwV 1 hts gX3_waits_X3_isLost rfl rfl rfl (by decide +kernel) ⟨Nat.le_of_ble_eq_true rfl, Nat.le_of_ble_eq_true rfl⟩) ⟨fun a U g mk q => ⟨q.1, Pr_cg q.2⟩, va_recv (ci := 4) (q0 := 3) hK hP rfl (Q_m hRr), fun U hU hW => ⟨rfl, Pr_mk hE hRc hRr hRo hP hD hS hU hW⟩⟩ rfl rfl hl.1 rfl (lv_room (Nat.le_of_ble_eq_true rfl)) dX3_waits_80 ⟨Nat.le_of_ble_eq_true rfl, Nat.le_of_ble_eq_true rfl⟩) hS (fun v9 _ H locs wl hv9 hRc hRr hRo hP hD hS => ?_)
              refine n_top (y := .int (nI (bN (lostP (r 17) (r 5) v)))) (congrArg Value.int hv9) ?_
              clear hv9 v9
              refine n_ifb_eq (tgt := 95) hx hb dX3_waits_83 (by decide) (fun c_83 => ?_) (fun c_83 => ?_)
              · refine lv_iconst (v := nI 1) hx hb dX3_waits_95 (by decide) ?_
                refine lv_goto (tgt := 100) hx hb dX3_waits_96 (by decide) ?_
                exact W.zret (v := nI 1) (ty := .boolean) hx hb hr (nb_le (by first | exact bN_le _ | decide | omega | assumption)) (fun t ht hW => ⟨⟨_, (), rfl, (show nI 1 = nI (bN (awR r u v)) from by exact congrArg nI (bN_t (Or.inl ⟨by assumption, by assumption, by assumption⟩)).symm), Wr_mk hRc hRr hRo hP hD ht⟩, hS.F ht⟩) hS.2.2 dX3_waits_100
              · refine lv_iload_n hx hb dX3_waits_86 rfl (lv_at hl 1 rfl) ?_
                refine n_if_eq (tgt := 99) hx hb dX3_waits_87 (by decide) (by decide) (fun c_87 => ?_) (fun c_87 => absurd c_87 (by decide))
                refine lv_iconst (v := nI 0) hx hb dX3_waits_99 (by decide) ?_
                exact W.zret (v := nI 0) (ty := .boolean) hx hb hr (nb_le (by first | exact bN_le _ | decide | omega | assumption)) (fun t ht hW => ⟨⟨_, (), rfl, (show nI 0 = nI (bN (awR r u v)) from by exact congrArg nI (bN_f (fun q => q.elim (fun q => q.2.2 c_83) (fun q => absurd q.1.2 (by omega)))).symm), Wr_mk hRc hRr hRo hP hD ht⟩, hS.F ht⟩) hS.2.2 dX3_waits_100
    · refine lv_iconst (v := nI 1) hx hb dX3_waits_26 (by decide) ?_
      refine lv_goto (tgt := 31) hx hb dX3_waits_27 (by decide) ?_
      refine lv_istore_n (lv' := [(3, .int (nI 1)), (0, .ref (G 3)), (1, .int (nI u)), (2, .int (nI v))]) hx hb dX3_waits_31 rfl hl (by decide) rfl (fun ls hl => ?_)
      refine lv_aload_n hx hb dX3_waits_32 rfl (lv_at hl 1 rfl) ?_
      refine va_get (D := D) (ci := 4) (v := .ref (G 15)) (C := RX3) (T := TX3) (N := 23) hx hb hts inX3 hown hK hP 3 (Q_m hRr) rfl 17 (by decide) (hts (.fieldLink RX3 41 "BootStageModel" "states" "[I") (by decide +kernel)) (fun _ h9 => h9) rfl dX3_waits_33 ?_
      refine lv_iload_n hx hb dX3_waits_36 rfl (lv_at hl 3 rfl) ?_
      refine x_iald hx hb hK hP 15 (Q_a17 hRr) (by first | omega | decide | assumption) (by decide) dX3_waits_37 (v := nI (r 17 v)) rfl ?_
      refine lv_iconst (v := nI 2) hx hb dX3_waits_38 (by decide) ?_
      refine n_icmp_eq (tgt := 50) hx hb dX3_waits_39 (by decide) (hBr _ _ (by decide)) (by decide) (fun c_39 => ?_) (fun c_39 => ?_)
      · refine lv_iconst (v := nI 1) hx hb dX3_waits_50 (by decide) ?_
        refine lv_goto (tgt := 55) hx hb dX3_waits_51 (by decide) ?_
        refine lv_istore (lv' := [(4, .int (nI 1)), (3, .int (nI 1)), (0, .ref (G 3)), (1, .int (nI u)), (2, .int (nI v))]) hx hb dX3_waits_55 hl (by decide) rfl (fun ls hl => ?_)
        refine lv_aload_n hx hb dX3_waits_57 rfl (lv_at hl 2 rfl) ?_
        refine va_get (D := D) (ci := 4) (v := .ref (G 11)) (C := RX3) (T := TX3) (N := 23) hx hb hts inX3 hown hK hP 3 (Q_m hRr) rfl 7 (by decide) (hts (.fieldLink RX3 29 "BootStageModel" "needs" "[Z") (by decide +kernel)) (fun _ h9 => h9) rfl dX3_waits_58 ?_
        refine lv_iload_n hx hb dX3_waits_61 rfl (lv_at hl 3 rfl) ?_
        refine lv_iload_n hx hb dX3_waits_62 rfl (lv_at hl 4 rfl) ?_
        refine y_calli (va_runS (As := [.int (nI u), .int (nI v)]) (rest := [.ref (G 11)]) ⟨hx, hb, hml, hown, hts⟩ (k_X3_edge l D G h0 c r o u v) (va_cwS 2 hts gX3_waits_X3_edge rfl rfl rfl (by decide +kernel) ⟨Nat.le_of_ble_eq_true rfl, Nat.le_of_ble_eq_true rfl⟩) ⟨fun a U g mk q => ⟨q.1, Pr_cg q.2⟩, fun U hU hW => ⟨rfl, Pr_mk hE hRc hRr hRo hP hD hS hU hW⟩⟩ rfl rfl hl.1 rfl (lv_room (Nat.le_of_ble_eq_true rfl)) dX3_waits_63 ⟨Nat.le_of_ble_eq_true rfl, Nat.le_of_ble_eq_true rfl⟩) hS (fun v9 _ H locs wl hv9 hRc hRr hRo hP hD hS => ?_)
        refine n_top (y := .int (nI (20 * u + v))) (congrArg Value.int hv9) ?_
        clear hv9 v9
        refine x_zald hx hb hK hP 11 (Q_a7 hRr) (by first | omega | decide | assumption) (by decide) dX3_waits_66 (v := nI (r 7 (20 * u + v))) rfl ?_
        refine n_if_eq (tgt := 86) hx hb dX3_waits_67 (by decide) (hBr _ _ (by decide)) (fun c_67 => ?_) (fun c_67 => ?_)
        · refine lv_iload_n hx hb dX3_waits_86 rfl (lv_at hl 1 rfl) ?_
          refine n_if_eq (tgt := 99) hx hb dX3_waits_87 (by decide) (by decide) (fun c_87 => absurd c_87 (by decide)) (fun c_87 => ?_)
          refine lv_iload hx hb dX3_waits_90 (lv_at hl 0 rfl) ?_
          refine n_if_ne (tgt := 99) hx hb dX3_waits_92 (by decide) (by decide) (fun c_92 => ?_) (fun c_92 => absurd c_92 (by decide))
          refine lv_iconst (v := nI 0) hx hb dX3_waits_99 (by decide) ?_
          exact W.zret (v := nI 0) (ty := .boolean) hx hb hr (nb_le (by first | exact bN_le _ | decide | omega | assumption)) (fun t ht hW => ⟨⟨_, (), rfl, (show nI 0 = nI (bN (awR r u v)) from by exact congrArg nI (bN_f (fun q => q.elim (fun q => absurd q.1 (by omega)) (fun q => q.2 (Or.inl c_39)))).symm), Wr_mk hRc hRr hRo hP hD ht⟩, hS.F ht⟩) hS.2.2 dX3_waits_100
        · refine lv_aload_n hx hb dX3_waits_70 rfl (lv_at hl 2 rfl) ?_
          refine lv_iload_n hx hb dX3_waits_71 rfl (lv_at hl 4 rfl) ?_
          refine y_calli (va_runV (As := [.int (nI v)]) (rest := []) ⟨hx, hb, hml, hown, hts⟩ (k_X3_isMet l D G h0 c r o hI v (by first | omega | assumption)) (cwV 1 hts gX3_waits_X3_isMet rfl rfl rfl (by decide +kernel) ⟨Nat.le_of_ble_eq_true rfl, Nat.le_of_ble_eq_true rfl⟩) ⟨fun a U g mk q => ⟨q.1, Pr_cg q.2⟩, va_recv (ci := 4) (q0 := 3) hK hP rfl (Q_m hRr), fun U hU hW => ⟨rfl, Pr_mk hE hRc hRr hRo hP hD hS hU hW⟩⟩ rfl rfl hl.1 rfl (lv_room (Nat.le_of_ble_eq_true rfl)) dX3_waits_72 ⟨Nat.le_of_ble_eq_true rfl, Nat.le_of_ble_eq_true rfl⟩) hS (fun v9 _ H locs wl hv9 hRc hRr hRo hP hD hS => ?_)
          refine n_top (y := .int (nI (bN (metP (r 17) (r 5) v)))) (congrArg Value.int hv9) ?_
          clear hv9 v9
          refine n_ifb_ne (tgt := 86) hx hb dX3_waits_75 (by decide) (fun c_75 => ?_) (fun c_75 => ?_)
          · refine lv_iload_n hx hb dX3_waits_86 rfl (lv_at hl 1 rfl) ?_
            refine n_if_eq (tgt := 99) hx hb dX3_waits_87 (by decide) (by decide) (fun c_87 => absurd c_87 (by decide)) (fun c_87 => ?_)
            refine lv_iload hx hb dX3_waits_90 (lv_at hl 0 rfl) ?_
            refine n_if_ne (tgt := 99) hx hb dX3_waits_92 (by decide) (by decide) (fun c_92 => ?_) (fun c_92 => absurd c_92 (by decide))
            refine lv_iconst (v := nI 0) hx hb dX3_waits_99 (by decide) ?_
            exact W.zret (v := nI 0) (ty := .boolean) hx hb hr (nb_le (by first | exact bN_le _ | decide | omega | assumption)) (fun t ht hW => ⟨⟨_, (), rfl, (show nI 0 = nI (bN (awR r u v)) from by exact congrArg nI (bN_f (fun q => q.elim (fun q => q.2.1 c_75) (fun q => q.2 (Or.inl c_39)))).symm), Wr_mk hRc hRr hRo hP hD ht⟩, hS.F ht⟩) hS.2.2 dX3_waits_100
          · refine lv_aload_n hx hb dX3_waits_78 rfl (lv_at hl 2 rfl) ?_
            refine lv_iload_n hx hb dX3_waits_79 rfl (lv_at hl 4 rfl) ?_
            refine y_calli (va_runV (As := [.int (nI v)]) (rest := []) ⟨hx, hb, hml, hown, hts⟩ (k_X3_isLost l D G h0 c r o hI v (by first | omega | assumption)) (cwV 1 hts gX3_waits_X3_isLost rfl rfl rfl (by decide +kernel) ⟨Nat.le_of_ble_eq_true rfl, Nat.le_of_ble_eq_true rfl⟩) ⟨fun a U g mk q => ⟨q.1, Pr_cg q.2⟩, va_recv (ci := 4) (q0 := 3) hK hP rfl (Q_m hRr), fun U hU hW => ⟨rfl, Pr_mk hE hRc hRr hRo hP hD hS hU hW⟩⟩ rfl rfl hl.1 rfl (lv_room (Nat.le_of_ble_eq_true rfl)) dX3_waits_80 ⟨Nat.le_of_ble_eq_true rfl, Nat.le_of_ble_eq_true rfl⟩) hS (fun v9 _ H locs wl hv9 hRc hRr hRo hP hD hS => ?_)
            refine n_top (y := .int (nI (bN (lostP (r 17) (r 5) v)))) (congrArg Value.int hv9) ?_
            clear hv9 v9
            refine n_ifb_eq (tgt := 95) hx hb dX3_waits_83 (by decide) (fun c_83 => ?_) (fun c_83 => ?_)
            · refine lv_iconst (v := nI 1) hx hb dX3_waits_95 (by decide) ?_
              refine lv_goto (tgt := 100) hx hb dX3_waits_96 (by decide) ?_
              exact W.zret (v := nI 1) (ty := .boolean) hx hb hr (nb_le (by first | exact bN_le _ | decide | omega | assumption)) (fun t ht hW => ⟨⟨_, (), rfl, (show nI 1 = nI (bN (awR r u v)) from by exact congrArg nI (bN_t (Or.inl ⟨by assumption, by assumption, by assumption⟩)).symm), Wr_mk hRc hRr hRo hP hD ht⟩, hS.F ht⟩) hS.2.2 dX3_waits_100
            · refine lv_iload_n hx hb dX3_waits_86 rfl (lv_at hl 1 rfl) ?_
              refine n_if_eq (tgt := 99) hx hb dX3_waits_87 (by decide) (by decide) (fun c_87 => absurd c_87 (by decide)) (fun c_87 => ?_)
              refine lv_iload hx hb dX3_waits_90 (lv_at hl 0 rfl) ?_
              refine n_if_ne (tgt := 99) hx hb dX3_waits_92 (by decide) (by decide) (fun c_92 => ?_) (fun c_92 => absurd c_92 (by decide))
              refine lv_iconst (v := nI 0) hx hb dX3_waits_99 (by decide) ?_
              exact W.zret (v := nI 0) (ty := .boolean) hx hb hr (nb_le (by first | exact bN_le _ | decide | omega | assumption)) (fun t ht hW => ⟨⟨_, (), rfl, (show nI 0 = nI (bN (awR r u v)) from by exact congrArg nI (bN_f (fun q => q.elim (fun q => q.2.2 c_83) (fun q => q.2 (Or.inl c_39)))).symm), Wr_mk hRc hRr hRo hP hD ht⟩, hS.F ht⟩) hS.2.2 dX3_waits_100
      · refine lv_aload_n hx hb dX3_waits_42 rfl (lv_at hl 1 rfl) ?_
        refine lv_iload_n hx hb dX3_waits_43 rfl (lv_at hl 3 rfl) ?_
        refine y_calli (va_runV (As := [.int (nI v)]) (rest := []) ⟨hx, hb, hml, hown, hts⟩ (k_X3_isOff l D G h0 c r o hI v (by first | omega | assumption)) (cwV 1 hts gX3_waits_X3_isOff rfl rfl rfl (by decide +kernel) ⟨Nat.le_of_ble_eq_true rfl, Nat.le_of_ble_eq_true rfl⟩) ⟨fun a U g mk q => ⟨q.1, Pr_cg q.2⟩, va_recv (ci := 4) (q0 := 3) hK hP rfl (Q_m hRr), fun U hU hW => ⟨rfl, Pr_mk hE hRc hRr hRo hP hD hS hU hW⟩⟩ rfl rfl hl.1 rfl (lv_room (Nat.le_of_ble_eq_true rfl)) dX3_waits_44 ⟨Nat.le_of_ble_eq_true rfl, Nat.le_of_ble_eq_true rfl⟩) hS (fun v9 _ H locs wl hv9 hRc hRr hRo hP hD hS => ?_)
        refine n_top (y := .int (nI (bN (goneP (r 17) v)))) (congrArg Value.int hv9) ?_
        clear hv9 v9
        refine n_ifb_eq (tgt := 54) hx hb dX3_waits_47 (by decide) (fun c_47 => ?_) (fun c_47 => ?_)
        · refine lv_iconst (v := nI 0) hx hb dX3_waits_54 (by decide) ?_
          refine lv_istore (lv' := [(4, .int (nI 0)), (3, .int (nI 1)), (0, .ref (G 3)), (1, .int (nI u)), (2, .int (nI v))]) hx hb dX3_waits_55 hl (by decide) rfl (fun ls hl => ?_)
          refine lv_aload_n hx hb dX3_waits_57 rfl (lv_at hl 2 rfl) ?_
          refine va_get (D := D) (ci := 4) (v := .ref (G 11)) (C := RX3) (T := TX3) (N := 23) hx hb hts inX3 hown hK hP 3 (Q_m hRr) rfl 7 (by decide) (hts (.fieldLink RX3 29 "BootStageModel" "needs" "[Z") (by decide +kernel)) (fun _ h9 => h9) rfl dX3_waits_58 ?_
          refine lv_iload_n hx hb dX3_waits_61 rfl (lv_at hl 3 rfl) ?_
          refine lv_iload_n hx hb dX3_waits_62 rfl (lv_at hl 4 rfl) ?_
          refine y_calli (va_runS (As := [.int (nI u), .int (nI v)]) (rest := [.ref (G 11)]) ⟨hx, hb, hml, hown, hts⟩ (k_X3_edge l D G h0 c r o u v) (va_cwS 2 hts gX3_waits_X3_edge rfl rfl rfl (by decide +kernel) ⟨Nat.le_of_ble_eq_true rfl, Nat.le_of_ble_eq_true rfl⟩) ⟨fun a U g mk q => ⟨q.1, Pr_cg q.2⟩, fun U hU hW => ⟨rfl, Pr_mk hE hRc hRr hRo hP hD hS hU hW⟩⟩ rfl rfl hl.1 rfl (lv_room (Nat.le_of_ble_eq_true rfl)) dX3_waits_63 ⟨Nat.le_of_ble_eq_true rfl, Nat.le_of_ble_eq_true rfl⟩) hS (fun v9 _ H locs wl hv9 hRc hRr hRo hP hD hS => ?_)
          refine n_top (y := .int (nI (20 * u + v))) (congrArg Value.int hv9) ?_
          clear hv9 v9
          refine x_zald hx hb hK hP 11 (Q_a7 hRr) (by first | omega | decide | assumption) (by decide) dX3_waits_66 (v := nI (r 7 (20 * u + v))) rfl ?_
          refine n_if_eq (tgt := 86) hx hb dX3_waits_67 (by decide) (hBr _ _ (by decide)) (fun c_67 => ?_) (fun c_67 => ?_)
          · refine lv_iload_n hx hb dX3_waits_86 rfl (lv_at hl 1 rfl) ?_
            refine n_if_eq (tgt := 99) hx hb dX3_waits_87 (by decide) (by decide) (fun c_87 => absurd c_87 (by decide)) (fun c_87 => ?_)
            refine lv_iload hx hb dX3_waits_90 (lv_at hl 0 rfl) ?_
            refine n_if_ne (tgt := 99) hx hb dX3_waits_92 (by decide) (by decide) (fun c_92 => absurd c_92 (by decide)) (fun c_92 => ?_)
            refine lv_iconst (v := nI 1) hx hb dX3_waits_95 (by decide) ?_
            refine lv_goto (tgt := 100) hx hb dX3_waits_96 (by decide) ?_
            exact W.zret (v := nI 1) (ty := .boolean) hx hb hr (nb_le (by first | exact bN_le _ | decide | omega | assumption)) (fun t ht hW => ⟨⟨_, (), rfl, (show nI 1 = nI (bN (awR r u v)) from by exact congrArg nI (bN_t (Or.inr ⟨⟨by assumption, by assumption⟩, (fun q => q.elim (fun q => absurd q (by assumption)) (fun q => absurd q (by assumption)))⟩)).symm), Wr_mk hRc hRr hRo hP hD ht⟩, hS.F ht⟩) hS.2.2 dX3_waits_100
          · refine lv_aload_n hx hb dX3_waits_70 rfl (lv_at hl 2 rfl) ?_
            refine lv_iload_n hx hb dX3_waits_71 rfl (lv_at hl 4 rfl) ?_
            refine y_calli (va_runV (As := [.int (nI v)]) (rest := []) ⟨hx, hb, hml, hown, hts⟩ (k_X3_isMet l D G h0 c r o hI v (by first | omega | assumption)) (cwV 1 hts gX3_waits_X3_isMet rfl rfl rfl (by decide +kernel) ⟨Nat.le_of_ble_eq_true rfl, Nat.le_of_ble_eq_true rfl⟩) ⟨fun a U g mk q => ⟨q.1, Pr_cg q.2⟩, va_recv (ci := 4) (q0 := 3) hK hP rfl (Q_m hRr), fun U hU hW => ⟨rfl, Pr_mk hE hRc hRr hRo hP hD hS hU hW⟩⟩ rfl rfl hl.1 rfl (lv_room (Nat.le_of_ble_eq_true rfl)) dX3_waits_72 ⟨Nat.le_of_ble_eq_true rfl, Nat.le_of_ble_eq_true rfl⟩) hS (fun v9 _ H locs wl hv9 hRc hRr hRo hP hD hS => ?_)
            refine n_top (y := .int (nI (bN (metP (r 17) (r 5) v)))) (congrArg Value.int hv9) ?_
            clear hv9 v9
            refine n_ifb_ne (tgt := 86) hx hb dX3_waits_75 (by decide) (fun c_75 => ?_) (fun c_75 => ?_)
            · refine lv_iload_n hx hb dX3_waits_86 rfl (lv_at hl 1 rfl) ?_
              refine n_if_eq (tgt := 99) hx hb dX3_waits_87 (by decide) (by decide) (fun c_87 => absurd c_87 (by decide)) (fun c_87 => ?_)
              refine lv_iload hx hb dX3_waits_90 (lv_at hl 0 rfl) ?_
              refine n_if_ne (tgt := 99) hx hb dX3_waits_92 (by decide) (by decide) (fun c_92 => absurd c_92 (by decide)) (fun c_92 => ?_)
              refine lv_iconst (v := nI 1) hx hb dX3_waits_95 (by decide) ?_
              refine lv_goto (tgt := 100) hx hb dX3_waits_96 (by decide) ?_
              exact W.zret (v := nI 1) (ty := .boolean) hx hb hr (nb_le (by first | exact bN_le _ | decide | omega | assumption)) (fun t ht hW => ⟨⟨_, (), rfl, (show nI 1 = nI (bN (awR r u v)) from by exact congrArg nI (bN_t (Or.inr ⟨⟨by assumption, by assumption⟩, (fun q => q.elim (fun q => absurd q (by assumption)) (fun q => absurd q (by assumption)))⟩)).symm), Wr_mk hRc hRr hRo hP hD ht⟩, hS.F ht⟩) hS.2.2 dX3_waits_100
            · refine lv_aload_n hx hb dX3_waits_78 rfl (lv_at hl 2 rfl) ?_
              refine lv_iload_n hx hb dX3_waits_79 rfl (lv_at hl 4 rfl) ?_
              refine y_calli (va_runV (As := [.int (nI v)]) (rest := []) ⟨hx, hb, hml, hown, hts⟩ (k_X3_isLost l D G h0 c r o hI v (by first | omega | assumption)) (cwV 1 hts gX3_waits_X3_isLost rfl rfl rfl (by decide +kernel) ⟨Nat.le_of_ble_eq_true rfl, Nat.le_of_ble_eq_true rfl⟩) ⟨fun a U g mk q => ⟨q.1, Pr_cg q.2⟩, va_recv (ci := 4) (q0 := 3) hK hP rfl (Q_m hRr), fun U hU hW => ⟨rfl, Pr_mk hE hRc hRr hRo hP hD hS hU hW⟩⟩ rfl rfl hl.1 rfl (lv_room (Nat.le_of_ble_eq_true rfl)) dX3_waits_80 ⟨Nat.le_of_ble_eq_true rfl, Nat.le_of_ble_eq_true rfl⟩) hS (fun v9 _ H locs wl hv9 hRc hRr hRo hP hD hS => ?_)
              refine n_top (y := .int (nI (bN (lostP (r 17) (r 5) v)))) (congrArg Value.int hv9) ?_
              clear hv9 v9
              refine n_ifb_eq (tgt := 95) hx hb dX3_waits_83 (by decide) (fun c_83 => ?_) (fun c_83 => ?_)
              · refine lv_iconst (v := nI 1) hx hb dX3_waits_95 (by decide) ?_
                refine lv_goto (tgt := 100) hx hb dX3_waits_96 (by decide) ?_
                exact W.zret (v := nI 1) (ty := .boolean) hx hb hr (nb_le (by first | exact bN_le _ | decide | omega | assumption)) (fun t ht hW => ⟨⟨_, (), rfl, (show nI 1 = nI (bN (awR r u v)) from by exact congrArg nI (bN_t (Or.inl ⟨by assumption, by assumption, by assumption⟩)).symm), Wr_mk hRc hRr hRo hP hD ht⟩, hS.F ht⟩) hS.2.2 dX3_waits_100
              · refine lv_iload_n hx hb dX3_waits_86 rfl (lv_at hl 1 rfl) ?_
                refine n_if_eq (tgt := 99) hx hb dX3_waits_87 (by decide) (by decide) (fun c_87 => absurd c_87 (by decide)) (fun c_87 => ?_)
                refine lv_iload hx hb dX3_waits_90 (lv_at hl 0 rfl) ?_
                refine n_if_ne (tgt := 99) hx hb dX3_waits_92 (by decide) (by decide) (fun c_92 => absurd c_92 (by decide)) (fun c_92 => ?_)
                refine lv_iconst (v := nI 1) hx hb dX3_waits_95 (by decide) ?_
                refine lv_goto (tgt := 100) hx hb dX3_waits_96 (by decide) ?_
                exact W.zret (v := nI 1) (ty := .boolean) hx hb hr (nb_le (by first | exact bN_le _ | decide | omega | assumption)) (fun t ht hW => ⟨⟨_, (), rfl, (show nI 1 = nI (bN (awR r u v)) from by exact congrArg nI (bN_t (Or.inr ⟨⟨by assumption, by assumption⟩, (fun q => q.elim (fun q => absurd q (by assumption)) (fun q => absurd q (by assumption)))⟩)).symm), Wr_mk hRc hRr hRo hP hD ht⟩, hS.F ht⟩) hS.2.2 dX3_waits_100
        · refine lv_iconst (v := nI 1) hx hb dX3_waits_50 (by decide) ?_
          refine lv_goto (tgt := 55) hx hb dX3_waits_51 (by decide) ?_
          refine lv_istore (lv' := [(4, .int (nI 1)), (3, .int (nI 1)), (0, .ref (G 3)), (1, .int (nI u)), (2, .int (nI v))]) hx hb dX3_waits_55 hl (by decide) rfl (fun ls hl => ?_)
          refine lv_aload_n hx hb dX3_waits_57 rfl (lv_at hl 2 rfl) ?_
          refine va_get (D := D) (ci := 4) (v := .ref (G 11)) (C := RX3) (T := TX3) (N := 23) hx hb hts inX3 hown hK hP 3 (Q_m hRr) rfl 7 (by decide) (hts (.fieldLink RX3 29 "BootStageModel" "needs" "[Z") (by decide +kernel)) (fun _ h9 => h9) rfl dX3_waits_58 ?_
          refine lv_iload_n hx hb dX3_waits_61 rfl (lv_at hl 3 rfl) ?_
          refine lv_iload_n hx hb dX3_waits_62 rfl (lv_at hl 4 rfl) ?_
          refine y_calli (va_runS (As := [.int (nI u), .int (nI v)]) (rest := [.ref (G 11)]) ⟨hx, hb, hml, hown, hts⟩ (k_X3_edge l D G h0 c r o u v) (va_cwS 2 hts gX3_waits_X3_edge rfl rfl rfl (by decide +kernel) ⟨Nat.le_of_ble_eq_true rfl, Nat.le_of_ble_eq_true rfl⟩) ⟨fun a U g mk q => ⟨q.1, Pr_cg q.2⟩, fun U hU hW => ⟨rfl, Pr_mk hE hRc hRr hRo hP hD hS hU hW⟩⟩ rfl rfl hl.1 rfl (lv_room (Nat.le_of_ble_eq_true rfl)) dX3_waits_63 ⟨Nat.le_of_ble_eq_true rfl, Nat.le_of_ble_eq_true rfl⟩) hS (fun v9 _ H locs wl hv9 hRc hRr hRo hP hD hS => ?_)
          refine n_top (y := .int (nI (20 * u + v))) (congrArg Value.int hv9) ?_
          clear hv9 v9
          refine x_zald hx hb hK hP 11 (Q_a7 hRr) (by first | omega | decide | assumption) (by decide) dX3_waits_66 (v := nI (r 7 (20 * u + v))) rfl ?_
          refine n_if_eq (tgt := 86) hx hb dX3_waits_67 (by decide) (hBr _ _ (by decide)) (fun c_67 => ?_) (fun c_67 => ?_)
          · refine lv_iload_n hx hb dX3_waits_86 rfl (lv_at hl 1 rfl) ?_
            refine n_if_eq (tgt := 99) hx hb dX3_waits_87 (by decide) (by decide) (fun c_87 => absurd c_87 (by decide)) (fun c_87 => ?_)
            refine lv_iload hx hb dX3_waits_90 (lv_at hl 0 rfl) ?_
            refine n_if_ne (tgt := 99) hx hb dX3_waits_92 (by decide) (by decide) (fun c_92 => ?_) (fun c_92 => absurd c_92 (by decide))
            refine lv_iconst (v := nI 0) hx hb dX3_waits_99 (by decide) ?_
            exact W.zret (v := nI 0) (ty := .boolean) hx hb hr (nb_le (by first | exact bN_le _ | decide | omega | assumption)) (fun t ht hW => ⟨⟨_, (), rfl, (show nI 0 = nI (bN (awR r u v)) from by exact congrArg nI (bN_f (fun q => q.elim (fun q => absurd q.1 (by omega)) (fun q => q.2 (Or.inr c_47)))).symm), Wr_mk hRc hRr hRo hP hD ht⟩, hS.F ht⟩) hS.2.2 dX3_waits_100
          · refine lv_aload_n hx hb dX3_waits_70 rfl (lv_at hl 2 rfl) ?_
            refine lv_iload_n hx hb dX3_waits_71 rfl (lv_at hl 4 rfl) ?_
            refine y_calli (va_runV (As := [.int (nI v)]) (rest := []) ⟨hx, hb, hml, hown, hts⟩ (k_X3_isMet l D G h0 c r o hI v (by first | omega | assumption)) (cwV 1 hts gX3_waits_X3_isMet rfl rfl rfl (by decide +kernel) ⟨Nat.le_of_ble_eq_true rfl, Nat.le_of_ble_eq_true rfl⟩) ⟨fun a U g mk q => ⟨q.1, Pr_cg q.2⟩, va_recv (ci := 4) (q0 := 3) hK hP rfl (Q_m hRr), fun U hU hW => ⟨rfl, Pr_mk hE hRc hRr hRo hP hD hS hU hW⟩⟩ rfl rfl hl.1 rfl (lv_room (Nat.le_of_ble_eq_true rfl)) dX3_waits_72 ⟨Nat.le_of_ble_eq_true rfl, Nat.le_of_ble_eq_true rfl⟩) hS (fun v9 _ H locs wl hv9 hRc hRr hRo hP hD hS => ?_)
            refine n_top (y := .int (nI (bN (metP (r 17) (r 5) v)))) (congrArg Value.int hv9) ?_
            clear hv9 v9
            refine n_ifb_ne (tgt := 86) hx hb dX3_waits_75 (by decide) (fun c_75 => ?_) (fun c_75 => ?_)
            · refine lv_iload_n hx hb dX3_waits_86 rfl (lv_at hl 1 rfl) ?_
              refine n_if_eq (tgt := 99) hx hb dX3_waits_87 (by decide) (by decide) (fun c_87 => absurd c_87 (by decide)) (fun c_87 => ?_)
              refine lv_iload hx hb dX3_waits_90 (lv_at hl 0 rfl) ?_
              refine n_if_ne (tgt := 99) hx hb dX3_waits_92 (by decide) (by decide) (fun c_92 => ?_) (fun c_92 => absurd c_92 (by decide))
              refine lv_iconst (v := nI 0) hx hb dX3_waits_99 (by decide) ?_
              exact W.zret (v := nI 0) (ty := .boolean) hx hb hr (nb_le (by first | exact bN_le _ | decide | omega | assumption)) (fun t ht hW => ⟨⟨_, (), rfl, (show nI 0 = nI (bN (awR r u v)) from by exact congrArg nI (bN_f (fun q => q.elim (fun q => q.2.1 c_75) (fun q => q.2 (Or.inr c_47)))).symm), Wr_mk hRc hRr hRo hP hD ht⟩, hS.F ht⟩) hS.2.2 dX3_waits_100
            · refine lv_aload_n hx hb dX3_waits_78 rfl (lv_at hl 2 rfl) ?_
              refine lv_iload_n hx hb dX3_waits_79 rfl (lv_at hl 4 rfl) ?_
              refine y_calli (va_runV (As := [.int (nI v)]) (rest := []) ⟨hx, hb, hml, hown, hts⟩ (k_X3_isLost l D G h0 c r o hI v (by first | omega | assumption)) (cwV 1 hts gX3_waits_X3_isLost rfl rfl rfl (by decide +kernel) ⟨Nat.le_of_ble_eq_true rfl, Nat.le_of_ble_eq_true rfl⟩) ⟨fun a U g mk q => ⟨q.1, Pr_cg q.2⟩, va_recv (ci := 4) (q0 := 3) hK hP rfl (Q_m hRr), fun U hU hW => ⟨rfl, Pr_mk hE hRc hRr hRo hP hD hS hU hW⟩⟩ rfl rfl hl.1 rfl (lv_room (Nat.le_of_ble_eq_true rfl)) dX3_waits_80 ⟨Nat.le_of_ble_eq_true rfl, Nat.le_of_ble_eq_true rfl⟩) hS (fun v9 _ H locs wl hv9 hRc hRr hRo hP hD hS => ?_)
              refine n_top (y := .int (nI (bN (lostP (r 17) (r 5) v)))) (congrArg Value.int hv9) ?_
              clear hv9 v9
              refine n_ifb_eq (tgt := 95) hx hb dX3_waits_83 (by decide) (fun c_83 => ?_) (fun c_83 => ?_)
              · refine lv_iconst (v := nI 1) hx hb dX3_waits_95 (by decide) ?_
                refine lv_goto (tgt := 100) hx hb dX3_waits_96 (by decide) ?_
                exact W.zret (v := nI 1) (ty := .boolean) hx hb hr (nb_le (by first | exact bN_le _ | decide | omega | assumption)) (fun t ht hW => ⟨⟨_, (), rfl, (show nI 1 = nI (bN (awR r u v)) from by exact congrArg nI (bN_t (Or.inl ⟨by assumption, by assumption, by assumption⟩)).symm), Wr_mk hRc hRr hRo hP hD ht⟩, hS.F ht⟩) hS.2.2 dX3_waits_100
              · refine lv_iload_n hx hb dX3_waits_86 rfl (lv_at hl 1 rfl) ?_
                refine n_if_eq (tgt := 99) hx hb dX3_waits_87 (by decide) (by decide) (fun c_87 => absurd c_87 (by decide)) (fun c_87 => ?_)
                refine lv_iload hx hb dX3_waits_90 (lv_at hl 0 rfl) ?_
                refine n_if_ne (tgt := 99) hx hb dX3_waits_92 (by decide) (by decide) (fun c_92 => ?_) (fun c_92 => absurd c_92 (by decide))
                refine lv_iconst (v := nI 0) hx hb dX3_waits_99 (by decide) ?_
                exact W.zret (v := nI 0) (ty := .boolean) hx hb hr (nb_le (by first | exact bN_le _ | decide | omega | assumption)) (fun t ht hW => ⟨⟨_, (), rfl, (show nI 0 = nI (bN (awR r u v)) from by exact congrArg nI (bN_f (fun q => q.elim (fun q => q.2.2 c_83) (fun q => q.2 (Or.inr c_47)))).symm), Wr_mk hRc hRr hRo hP hD ht⟩, hS.F ht⟩) hS.2.2 dX3_waits_100
set_option maxHeartbeats 4000000 in
set_option maxRecDepth 100000 in
theorem k_X3_starting (l : Launch) (D : va_G) (G : Nat → Nat) (h0 : Nat) (c r : Nat → Nat → Nat) (o : Nat) (hI : IR r) : Met l yX3_starting wsX3_starting ({ frames := 0, cells := 0, slots := 0, locals := 0 } : Room) (va_Pc [.ref (G 3)] (fun U => Pr D G h0 c r o U)) (va_Qi (fun (v9 : Int32) (_ : Unit) => v9 = nI (r_cnt r)) (fun _ t => Wr D G h0 c r o t) (fun q => h0 ≤ q)) 0 0 (fun q => h0 ≤ q) := by
  refine Met.ofW (cc := cX3_starting) (maxL := 3) (ret := (some .int)) (by decide) rfl ?_
  intro p e s m args below meth cd s₁ B hml hv
  obtain ⟨rfl, hE, wl, hRc, hRr, hRo, hP, hD⟩ := hv
  have hx := B.exec
  have hb := B.bytes
  have hr := B.returns
  have hts := atoms_spec (ws := wsX3_starting) B.pre
  have hown : s.vm.findClass RX3 = some m.cls := findClass_of_methodNamed B.named
  have hlocks := B.notSynchronized
  have hK := hE.2.1
  have hS : va_S (fun q => h0 ≤ q) s.heap s.heap [] := va_S.rf
  have hl := lv_entry ([.ref (G 3)]) (n := 3) (Nat.le_of_ble_eq_true rfl)
  rw [lg_entry_eq]
  generalize (lg_sl ([.ref (G 3)]) ++ List.replicate (3 - (lg_sl ([.ref (G 3)])).length) Slot.unset).toArray = ls at hl ⊢
  have hl : lv_has ls 3 [(0, .ref (G 3))] := hl
  have inX3 : ∀ w ∈ wsX30, w ∈ wsX3_starting := by decide +kernel
  obtain ⟨Q, hQ⟩ : ∃ Q, Q = MQ below (va_Qi (fun (v9 : Int32) (_ : Unit) => v9 = nI (r_cnt r)) (fun _ t => Wr D G h0 c r o t) (fun q => h0 ≤ q)) ([.ref (G 3)] : List Value).toArray s 0 0 (fun q => h0 ≤ q) := ⟨_, rfl⟩
  rw [← hQ]
  have hBr := IR_B hI
  have hn := IR_n hI
  have hs := IR_s hI
  refine lv_iconst (v := nI 0) hx hb dX3_starting_0 (by decide) ?_
  refine lv_istore_n (lv' := [(1, .int (nI 0)), (0, .ref (G 3))]) hx hb dX3_starting_1 rfl hl (by decide) rfl (fun ls hl => ?_)
  refine lv_iconst (v := nI 0) hx hb dX3_starting_2 (by decide) ?_
  refine lv_istore_n (lv' := [(2, .int (nI 0)), (1, .int (nI 0)), (0, .ref (G 3))]) hx hb dX3_starting_3 rfl hl (by decide) rfl (fun ls hl => ?_)
  have L4 : ∀ (d i : Nat), r 30 0 - i < d → i ≤ r 30 0 → ∀ (H : Heap) (locs : List Loc) (wl : va_W) (ls : Array Slot), Rc G c wl → Rr G r wl → Ro G o wl → va_P D vwCl wl H → va_D (fun q => h0 ≤ q) wl → va_S (fun q => h0 ≤ q) s.heap H locs → lv_has ls 3 [(2, .int (nI i)), (1, .int (nI (ct (fun w => r 17 w = 1) i))), (0, .ref (G 3))] → W p l e (headSpec wsX3_starting ({ frames := 0, cells := 0, slots := 0, locals := 0 } : Room)).room s m ([.ref (G 3)] : List Value).toArray below meth cd H locs 0 0 Q (F0 m 4 ls []) := by
    intro d4
    induction d4 with
    | zero => intro i hd; exact absurd hd (Nat.not_lt_zero _)
    | succ d4 ih4 =>
      intro i hd hi  H locs wl ls hRc hRr hRo hP hD hS hl
      refine lv_iload_n hx hb dX3_starting_4 rfl (lv_at hl 0 rfl) ?_
      refine lv_aload_n hx hb dX3_starting_5 rfl (lv_at hl 2 rfl) ?_
      refine va_get (D := D) (ci := 4) (v := .int (nI (r 30 0))) (C := RX3) (T := TX3) (N := 23) hx hb hts inX3 hown hK hP 3 (Q_m hRr) rfl 0 (by decide) (hts (.fieldLink RX3 60 "BootStageModel" "units" "I") (by decide +kernel)) (fun _ h9 => h9) rfl dX3_starting_6 ?_
      refine n_icmp_ge (tgt := 36) hx hb dX3_starting_9 (by decide) (by omega) (hBr _ _ (by decide)) (fun c_9 => ?_) (fun c_9 => ?_)
      · refine lv_iload_n hx hb dX3_starting_36 rfl (lv_at hl 1 rfl) ?_
        rw [hQ]
        exact W.iret (v := nI (ct (fun w => r 17 w = 1) i)) hx hb hr (fun t ht hW => ⟨⟨_, (), rfl, (show nI (ct (fun w => r 17 w = 1) i) = nI (r_cnt r) from by rw [show i = r 30 0 by omega]; rfl), Wr_mk hRc hRr hRo hP hD ht⟩, hS.F ht⟩) hS.2.2 dX3_starting_37
      · refine lv_iload_n hx hb dX3_starting_12 rfl (lv_at hl 1 rfl) ?_
        refine lv_aload_n hx hb dX3_starting_13 rfl (lv_at hl 2 rfl) ?_
        refine va_get (D := D) (ci := 4) (v := .ref (G 15)) (C := RX3) (T := TX3) (N := 23) hx hb hts inX3 hown hK hP 3 (Q_m hRr) rfl 17 (by decide) (hts (.fieldLink RX3 41 "BootStageModel" "states" "[I") (by decide +kernel)) (fun _ h9 => h9) rfl dX3_starting_14 ?_
        refine lv_iload_n hx hb dX3_starting_17 rfl (lv_at hl 0 rfl) ?_
        refine x_iald hx hb hK hP 15 (Q_a17 hRr) (by first | omega | decide | assumption) (by decide) dX3_starting_18 (v := nI (r 17 i)) rfl ?_
        refine lv_iconst (v := nI 1) hx hb dX3_starting_19 (by decide) ?_
        refine n_icmp_ne (tgt := 27) hx hb dX3_starting_20 (by decide) (hBr _ _ (by decide)) (by decide) (fun c_20 => ?_) (fun c_20 => ?_)
        · refine lv_iconst (v := nI 0) hx hb dX3_starting_27 (by decide) ?_
          refine n_iadd hx hb dX3_starting_28 ?_
          refine lv_istore_n (lv' := [(1, .int (nI ((ct (fun w => r 17 w = 1) i) + 0))), (2, .int (nI i)), (0, .ref (G 3))]) hx hb dX3_starting_29 rfl hl (by decide) rfl (fun ls hl => ?_)
          refine lv_iinc (v := nI (i + 1)) (lv' := [(2, .int (nI (i + 1))), (1, .int (nI ((ct (fun w => r 17 w = 1) i) + 0))), (0, .ref (G 3))]) hx hb dX3_starting_30 hl (k := 1) rfl (nI_add i 1) (by decide) rfl (fun ls hl => ?_)
          refine lv_goto (tgt := 4) hx hb dX3_starting_33 (by decide) ?_
          exact ih4 (i + 1) (by omega) (by omega)   _ _ _ _ hRc hRr hRo hP hD hS (show lv_has ls 3 [(2, .int (nI (i + 1))), (1, .int (nI (ct (fun w => r 17 w = 1) (i + 1)))), (0, .ref (G 3))] from by rw [show ((.int (nI (ct (fun w => r 17 w = 1) (i + 1))) : Value)) = .int (nI ((ct (fun w => r 17 w = 1) i) + 0)) from by exact congrArg (fun z => Value.int (nI z)) ((ct_f (by assumption)).trans (Nat.add_zero _).symm)]; exact lv_sub hl [0, 1, 2] rfl)
        · refine lv_iconst (v := nI 1) hx hb dX3_starting_23 (by decide) ?_
          refine lv_goto (tgt := 28) hx hb dX3_starting_24 (by decide) ?_
          refine n_iadd hx hb dX3_starting_28 ?_
          refine lv_istore_n (lv' := [(1, .int (nI ((ct (fun w => r 17 w = 1) i) + 1))), (2, .int (nI i)), (0, .ref (G 3))]) hx hb dX3_starting_29 rfl hl (by decide) rfl (fun ls hl => ?_)
          refine lv_iinc (v := nI (i + 1)) (lv' := [(2, .int (nI (i + 1))), (1, .int (nI ((ct (fun w => r 17 w = 1) i) + 1))), (0, .ref (G 3))]) hx hb dX3_starting_30 hl (k := 1) rfl (nI_add i 1) (by decide) rfl (fun ls hl => ?_)
          refine lv_goto (tgt := 4) hx hb dX3_starting_33 (by decide) ?_
          exact ih4 (i + 1) (by omega) (by omega)   _ _ _ _ hRc hRr hRo hP hD hS (show lv_has ls 3 [(2, .int (nI (i + 1))), (1, .int (nI (ct (fun w => r 17 w = 1) (i + 1)))), (0, .ref (G 3))] from by rw [show ((.int (nI (ct (fun w => r 17 w = 1) (i + 1))) : Value)) = .int (nI ((ct (fun w => r 17 w = 1) i) + 1)) from by exact congrArg (fun z => Value.int (nI z)) (ct_t (by assumption))]; exact lv_sub hl [0, 1, 2] rfl)
  exact L4 _ 0 (Nat.lt_succ_self _) (by omega)   _ _ _ _ hRc hRr hRo hP hD hS (show lv_has ls 3 [(2, .int (nI 0)), (1, .int (nI (ct (fun w => r 17 w = 1) 0))), (0, .ref (G 3))] from by rw [show ((.int (nI (ct (fun w => r 17 w = 1) 0)) : Value)) = .int (nI 0) from by rfl]; exact lv_sub hl [0, 1, 2] rfl)
set_option maxHeartbeats 4000000 in
set_option maxRecDepth 100000 in
theorem k_X3_ends (l : Launch) (D : va_G) (G : Nat → Nat) (h0 : Nat) (c r : Nat → Nat → Nat) (o : Nat) (hBr : BRr r) (u : Nat) (hu : u < 20) (h2 : r 2 u + r 1 u < 2 ^ 31) : Met l yX3_ends wsX3_ends ({ frames := 0, cells := 0, slots := 0, locals := 0 } : Room) (va_Pc [.ref (G 3), .int (nI u)] (fun U => Pr D G h0 c r o U)) (va_Qv (fun (_ : Unit) => True) (fun _ t => Wr D G h0 c (r_ends r u) o t) (fun q => h0 ≤ q)) 0 0 (fun q => h0 ≤ q) := by
  refine Met.ofW (cc := cX3_ends) (maxL := 3) (ret := none) (by decide) rfl ?_
  intro p e s m args below meth cd s₁ B hml hv
  obtain ⟨rfl, hE, wl, hRc, hRr, hRo, hP, hD⟩ := hv
  have hx := B.exec
  have hb := B.bytes
  have hr := B.returns
  have hts := atoms_spec (ws := wsX3_ends) B.pre
  have hown : s.vm.findClass RX3 = some m.cls := findClass_of_methodNamed B.named
  have hlocks := B.notSynchronized
  have hK := hE.2.1
  have hS : va_S (fun q => h0 ≤ q) s.heap s.heap [] := va_S.rf
  have hl := lv_entry ([.ref (G 3), .int (nI u)]) (n := 3) (Nat.le_of_ble_eq_true rfl)
  rw [lg_entry_eq]
  generalize (lg_sl ([.ref (G 3), .int (nI u)]) ++ List.replicate (3 - (lg_sl ([.ref (G 3), .int (nI u)])).length) Slot.unset).toArray = ls at hl ⊢
  have hl : lv_has ls 3 [(0, .ref (G 3)), (1, .int (nI u))] := hl
  have inX3 : ∀ w ∈ wsX30, w ∈ wsX3_ends := by decide +kernel
  refine lv_aload_n hx hb dX3_ends_0 rfl (lv_at hl 0 rfl) ?_
  refine va_get (D := D) (ci := 4) (v := .ref (G 8)) (C := RX3) (T := TX3) (N := 23) hx hb hts inX3 hown hK hP 3 (Q_m hRr) rfl 4 (by decide) (hts (.fieldLink RX3 19 "BootStageModel" "faults" "[I") (by decide +kernel)) (fun _ h9 => h9) rfl dX3_ends_1 ?_
  refine lv_iload_n hx hb dX3_ends_4 rfl (lv_at hl 1 rfl) ?_
  refine x_iald hx hb hK hP 8 (Q_a4 hRr) (by first | omega | decide | assumption) (by decide) dX3_ends_5 (v := nI (r 4 u)) rfl ?_
  refine n_if_ne (tgt := 64) hx hb dX3_ends_6 (by decide) (hBr _ _ (by decide)) (fun c_6 => ?_) (fun c_6 => ?_)
  · refine lv_aload_n hx hb dX3_ends_64 rfl (lv_at hl 0 rfl) ?_
    refine va_get (D := D) (ci := 4) (v := .ref (G 8)) (C := RX3) (T := TX3) (N := 23) hx hb hts inX3 hown hK hP 3 (Q_m hRr) rfl 4 (by decide) (hts (.fieldLink RX3 19 "BootStageModel" "faults" "[I") (by decide +kernel)) (fun _ h9 => h9) rfl dX3_ends_65 ?_
    refine lv_iload_n hx hb dX3_ends_68 rfl (lv_at hl 1 rfl) ?_
    refine lv_dup2_11 hx hb dX3_ends_69 rfl rfl ?_
    refine x_iald hx hb hK hP 8 (Q_a4 hRr) (by first | omega | decide | assumption) (by decide) dX3_ends_70 (v := nI (r 4 u)) rfl ?_
    refine lv_iconst (v := nI 1) hx hb dX3_ends_71 (by decide) ?_
    refine n_isub hx hb dX3_ends_72 (by first | omega | decide | assumption) ?_
    refine x_iast (Z := fun wl => Rc G c wl ∧ Rr G (up2 r 4 u ((r 4 u) - 1)) wl ∧ Ro G o wl) hx hb hK hP hD hS 8 (Q_a4 hRr) (by first | omega | decide | assumption) (by decide) dX3_ends_73 ⟨Rc_fr hRc (by decide) (by decide), P_a4 ((r 4 u) - 1) (by first | omega | decide | assumption) hRr, Ro_fr hRo (by decide)⟩ (fun H locs wl hZ hP hD hS => ?_)
    obtain ⟨hRc, hRr, hRo⟩ := hZ
    refine lv_aload_n hx hb dX3_ends_74 rfl (lv_at hl 0 rfl) ?_
    refine va_get (D := D) (ci := 4) (v := .ref (G 17)) (C := RX3) (T := TX3) (N := 23) hx hb hts inX3 hown hK hP 3 (Q_m hRr) rfl 19 (by decide) (hts (.fieldLink RX3 47 "BootStageModel" "used" "[I") (by decide +kernel)) (fun _ h9 => h9) rfl dX3_ends_75 ?_
    refine lv_iload_n hx hb dX3_ends_78 rfl (lv_at hl 1 rfl) ?_
    refine x_iald hx hb hK hP 17 (Q_a19 hRr) (by first | omega | decide | assumption) (by decide) dX3_ends_79 (v := nI (r 19 u)) (congrArg nI (show (up2 r 4 u ((r 4 u) - 1)) 19 u = r 19 u from by simp [up2])) ?_
    refine lv_aload_n hx hb dX3_ends_80 rfl (lv_at hl 0 rfl) ?_
    refine va_get (D := D) (ci := 4) (v := .ref (G 7)) (C := RX3) (T := TX3) (N := 23) hx hb hts inX3 hown hK hP 3 (Q_m hRr) rfl 3 (by decide) (hts (.fieldLink RX3 16 "BootStageModel" "retries" "[I") (by decide +kernel)) (fun _ h9 => h9) rfl dX3_ends_81 ?_
    refine lv_iload_n hx hb dX3_ends_84 rfl (lv_at hl 1 rfl) ?_
    refine x_iald hx hb hK hP 7 (Q_a3 hRr) (by first | omega | decide | assumption) (by decide) dX3_ends_85 (v := nI (r 3 u)) (congrArg nI (show (up2 r 4 u ((r 4 u) - 1)) 3 u = r 3 u from by simp [up2])) ?_
    refine n_icmp_ge (tgt := 93) hx hb dX3_ends_86 (by decide) (hBr _ _ (by decide)) (hBr _ _ (by decide)) (fun c_86 => ?_) (fun c_86 => ?_)
    · refine lv_iconst (v := nI 0) hx hb dX3_ends_93 (by decide) ?_
      refine lv_istore_n (lv' := [(2, .int (nI 0)), (0, .ref (G 3)), (1, .int (nI u))]) hx hb dX3_ends_94 rfl hl (by decide) rfl (fun ls hl => ?_)
      refine lv_aload_n hx hb dX3_ends_95 rfl (lv_at hl 1 rfl) ?_
      refine va_get (D := D) (ci := 4) (v := .ref (G 15)) (C := RX3) (T := TX3) (N := 23) hx hb hts inX3 hown hK hP 3 (Q_m hRr) rfl 17 (by decide) (hts (.fieldLink RX3 41 "BootStageModel" "states" "[I") (by decide +kernel)) (fun _ h9 => h9) rfl dX3_ends_96 ?_
      refine lv_iload_n hx hb dX3_ends_99 rfl (lv_at hl 2 rfl) ?_
      refine lv_iload_n hx hb dX3_ends_100 rfl (lv_at hl 0 rfl) ?_
      refine n_if_eq (tgt := 108) hx hb dX3_ends_101 (by decide) (by decide) (fun c_101 => ?_) (fun c_101 => absurd c_101 (by decide))
      refine lv_iconst (v := nI 3) hx hb dX3_ends_108 (by decide) ?_
      refine x_iast (Z := fun wl => Rc G c wl ∧ Rr G (up2 (up2 r 4 u ((r 4 u) - 1)) 17 u 3) wl ∧ Ro G o wl) hx hb hK hP hD hS 15 (Q_a17 hRr) (by first | omega | decide | assumption) (by decide) dX3_ends_109 ⟨Rc_fr hRc (by decide) (by decide), P_a17 3 (by first | omega | decide | assumption) hRr, Ro_fr hRo (by decide)⟩ (fun H locs wl hZ hP hD hS => ?_)
      obtain ⟨hRc, hRr, hRo⟩ := hZ
      refine lv_aload_n hx hb dX3_ends_110 rfl (lv_at hl 1 rfl) ?_
      refine va_get (D := D) (ci := 4) (v := .ref (G 17)) (C := RX3) (T := TX3) (N := 23) hx hb hts inX3 hown hK hP 3 (Q_m hRr) rfl 19 (by decide) (hts (.fieldLink RX3 47 "BootStageModel" "used" "[I") (by decide +kernel)) (fun _ h9 => h9) rfl dX3_ends_111 ?_
      refine lv_iload_n hx hb dX3_ends_114 rfl (lv_at hl 2 rfl) ?_
      refine lv_dup2_11 hx hb dX3_ends_115 rfl rfl ?_
      refine x_iald hx hb hK hP 17 (Q_a19 hRr) (by first | omega | decide | assumption) (by decide) dX3_ends_116 (v := nI (r 19 u)) (congrArg nI (show (up2 (up2 r 4 u ((r 4 u) - 1)) 17 u 3) 19 u = r 19 u from by simp [up2])) ?_
      refine lv_iload_n hx hb dX3_ends_117 rfl (lv_at hl 0 rfl) ?_
      refine n_if_eq (tgt := 125) hx hb dX3_ends_118 (by decide) (by decide) (fun c_118 => ?_) (fun c_118 => absurd c_118 (by decide))
      refine lv_iconst (v := nI 0) hx hb dX3_ends_125 (by decide) ?_
      refine n_iadd hx hb dX3_ends_126 ?_
      refine x_iast (Z := fun wl => Rc G c wl ∧ Rr G (up2 (up2 (up2 r 4 u ((r 4 u) - 1)) 17 u 3) 19 u ((r 19 u) + 0)) wl ∧ Ro G o wl) hx hb hK hP hD hS 17 (Q_a19 hRr) (by first | omega | decide | assumption) (by decide) dX3_ends_127 ⟨Rc_fr hRc (by decide) (by decide), P_a19 ((r 19 u) + 0) (by first | omega | decide | assumption) hRr, Ro_fr hRo (by decide)⟩ (fun H locs wl hZ hP hD hS => ?_)
      obtain ⟨hRc, hRr, hRo⟩ := hZ
      exact W.vret hx hb hr (fun t ht hW => ⟨⟨(), rfl, trivial, Wr_mk hRc (show Rr G (r_ends r u) wl from by rw [show (r_ends r u) = up2 (up2 (up2 r 4 u ((r 4 u) - 1)) 17 u 3) 19 u ((r 19 u) + 0) from by unfold r_ends; rw [if_neg (by omega)]; rw [if_neg (by omega), if_neg (by omega)]]; exact hRr) hRo hP hD ht⟩, hS.F ht⟩) hS.2.2 dX3_ends_128
    · refine lv_iconst (v := nI 1) hx hb dX3_ends_89 (by decide) ?_
      refine lv_goto (tgt := 94) hx hb dX3_ends_90 (by decide) ?_
      refine lv_istore_n (lv' := [(2, .int (nI 1)), (0, .ref (G 3)), (1, .int (nI u))]) hx hb dX3_ends_94 rfl hl (by decide) rfl (fun ls hl => ?_)
      refine lv_aload_n hx hb dX3_ends_95 rfl (lv_at hl 1 rfl) ?_
      refine va_get (D := D) (ci := 4) (v := .ref (G 15)) (C := RX3) (T := TX3) (N := 23) hx hb hts inX3 hown hK hP 3 (Q_m hRr) rfl 17 (by decide) (hts (.fieldLink RX3 41 "BootStageModel" "states" "[I") (by decide +kernel)) (fun _ h9 => h9) rfl dX3_ends_96 ?_
      refine lv_iload_n hx hb dX3_ends_99 rfl (lv_at hl 2 rfl) ?_
      refine lv_iload_n hx hb dX3_ends_100 rfl (lv_at hl 0 rfl) ?_
      refine n_if_eq (tgt := 108) hx hb dX3_ends_101 (by decide) (by decide) (fun c_101 => absurd c_101 (by decide)) (fun c_101 => ?_)
      refine lv_iconst (v := nI 0) hx hb dX3_ends_104 (by decide) ?_
      refine lv_goto (tgt := 109) hx hb dX3_ends_105 (by decide) ?_
      refine x_iast (Z := fun wl => Rc G c wl ∧ Rr G (up2 (up2 r 4 u ((r 4 u) - 1)) 17 u 0) wl ∧ Ro G o wl) hx hb hK hP hD hS 15 (Q_a17 hRr) (by first | omega | decide | assumption) (by decide) dX3_ends_109 ⟨Rc_fr hRc (by decide) (by decide), P_a17 0 (by first | omega | decide | assumption) hRr, Ro_fr hRo (by decide)⟩ (fun H locs wl hZ hP hD hS => ?_)
      obtain ⟨hRc, hRr, hRo⟩ := hZ
      refine lv_aload_n hx hb dX3_ends_110 rfl (lv_at hl 1 rfl) ?_
      refine va_get (D := D) (ci := 4) (v := .ref (G 17)) (C := RX3) (T := TX3) (N := 23) hx hb hts inX3 hown hK hP 3 (Q_m hRr) rfl 19 (by decide) (hts (.fieldLink RX3 47 "BootStageModel" "used" "[I") (by decide +kernel)) (fun _ h9 => h9) rfl dX3_ends_111 ?_
      refine lv_iload_n hx hb dX3_ends_114 rfl (lv_at hl 2 rfl) ?_
      refine lv_dup2_11 hx hb dX3_ends_115 rfl rfl ?_
      refine x_iald hx hb hK hP 17 (Q_a19 hRr) (by first | omega | decide | assumption) (by decide) dX3_ends_116 (v := nI (r 19 u)) (congrArg nI (show (up2 (up2 r 4 u ((r 4 u) - 1)) 17 u 0) 19 u = r 19 u from by simp [up2])) ?_
      refine lv_iload_n hx hb dX3_ends_117 rfl (lv_at hl 0 rfl) ?_
      refine n_if_eq (tgt := 125) hx hb dX3_ends_118 (by decide) (by decide) (fun c_118 => absurd c_118 (by decide)) (fun c_118 => ?_)
      refine lv_iconst (v := nI 1) hx hb dX3_ends_121 (by decide) ?_
      refine lv_goto (tgt := 126) hx hb dX3_ends_122 (by decide) ?_
      refine n_iadd hx hb dX3_ends_126 ?_
      refine x_iast (Z := fun wl => Rc G c wl ∧ Rr G (up2 (up2 (up2 r 4 u ((r 4 u) - 1)) 17 u 0) 19 u ((r 19 u) + 1)) wl ∧ Ro G o wl) hx hb hK hP hD hS 17 (Q_a19 hRr) (by first | omega | decide | assumption) (by decide) dX3_ends_127 ⟨Rc_fr hRc (by decide) (by decide), P_a19 ((r 19 u) + 1) (by first | omega | decide | assumption) hRr, Ro_fr hRo (by decide)⟩ (fun H locs wl hZ hP hD hS => ?_)
      obtain ⟨hRc, hRr, hRo⟩ := hZ
      exact W.vret hx hb hr (fun t ht hW => ⟨⟨(), rfl, trivial, Wr_mk hRc (show Rr G (r_ends r u) wl from by rw [show (r_ends r u) = up2 (up2 (up2 r 4 u ((r 4 u) - 1)) 17 u 0) 19 u ((r 19 u) + 1) from by unfold r_ends; rw [if_neg (by omega)]; rw [if_pos c_86, if_pos c_86]]; exact hRr) hRo hP hD ht⟩, hS.F ht⟩) hS.2.2 dX3_ends_128
  · refine lv_aload_n hx hb dX3_ends_9 rfl (lv_at hl 0 rfl) ?_
    refine va_get (D := D) (ci := 4) (v := .ref (G 15)) (C := RX3) (T := TX3) (N := 23) hx hb hts inX3 hown hK hP 3 (Q_m hRr) rfl 17 (by decide) (hts (.fieldLink RX3 41 "BootStageModel" "states" "[I") (by decide +kernel)) (fun _ h9 => h9) rfl dX3_ends_10 ?_
    refine lv_iload_n hx hb dX3_ends_13 rfl (lv_at hl 1 rfl) ?_
    refine lv_iconst (v := nI 2) hx hb dX3_ends_14 (by decide) ?_
    refine x_iast (Z := fun wl => Rc G c wl ∧ Rr G (up2 r 17 u 2) wl ∧ Ro G o wl) hx hb hK hP hD hS 15 (Q_a17 hRr) (by first | omega | decide | assumption) (by decide) dX3_ends_15 ⟨Rc_fr hRc (by decide) (by decide), P_a17 2 (by first | omega | decide | assumption) hRr, Ro_fr hRo (by decide)⟩ (fun H locs wl hZ hP hD hS => ?_)
    obtain ⟨hRc, hRr, hRo⟩ := hZ
    refine lv_aload_n hx hb dX3_ends_16 rfl (lv_at hl 0 rfl) ?_
    refine va_get (D := D) (ci := 4) (v := .ref (G 6)) (C := RX3) (T := TX3) (N := 23) hx hb hts inX3 hown hK hP 3 (Q_m hRr) rfl 2 (by decide) (hts (.fieldLink RX3 13 "BootStageModel" "learned" "[I") (by decide +kernel)) (fun _ h9 => h9) rfl dX3_ends_17 ?_
    refine lv_iload_n hx hb dX3_ends_20 rfl (lv_at hl 1 rfl) ?_
    refine lv_aload_n hx hb dX3_ends_21 rfl (lv_at hl 0 rfl) ?_
    refine va_get (D := D) (ci := 4) (v := .ref (G 6)) (C := RX3) (T := TX3) (N := 23) hx hb hts inX3 hown hK hP 3 (Q_m hRr) rfl 2 (by decide) (hts (.fieldLink RX3 13 "BootStageModel" "learned" "[I") (by decide +kernel)) (fun _ h9 => h9) rfl dX3_ends_22 ?_
    refine lv_iload_n hx hb dX3_ends_25 rfl (lv_at hl 1 rfl) ?_
    refine x_iald hx hb hK hP 6 (Q_a2 hRr) (by first | omega | decide | assumption) (by decide) dX3_ends_26 (v := nI (r 2 u)) (congrArg nI (show (up2 r 17 u 2) 2 u = r 2 u from by simp [up2])) ?_
    refine lv_aload_n hx hb dX3_ends_27 rfl (lv_at hl 0 rfl) ?_
    refine va_get (D := D) (ci := 4) (v := .ref (G 5)) (C := RX3) (T := TX3) (N := 23) hx hb hts inX3 hown hK hP 3 (Q_m hRr) rfl 1 (by decide) (hts (.fieldLink RX3 7 "BootStageModel" "times" "[I") (by decide +kernel)) (fun _ h9 => h9) rfl dX3_ends_28 ?_
    refine lv_iload_n hx hb dX3_ends_31 rfl (lv_at hl 1 rfl) ?_
    refine x_iald hx hb hK hP 5 (Q_a1 hRr) (by first | omega | decide | assumption) (by decide) dX3_ends_32 (v := nI (r 1 u)) (congrArg nI (show (up2 r 17 u 2) 1 u = r 1 u from by simp [up2])) ?_
    refine n_iadd hx hb dX3_ends_33 ?_
    refine lv_iconst (v := nI 2) hx hb dX3_ends_34 (by decide) ?_
    refine n_idiv hx hb dX3_ends_35 (by omega) (by first | omega | decide | assumption) (by decide) ?_
    refine x_iast (Z := fun wl => Rc G c wl ∧ Rr G (up2 (up2 r 17 u 2) 2 u (((r 2 u) + (r 1 u)) / 2)) wl ∧ Ro G o wl) hx hb hK hP hD hS 6 (Q_a2 hRr) (by first | omega | decide | assumption) (by decide) dX3_ends_36 ⟨Rc_fr hRc (by decide) (by decide), P_a2 (((r 2 u) + (r 1 u)) / 2) (by first | omega | decide | assumption) hRr, Ro_fr hRo (by decide)⟩ (fun H locs wl hZ hP hD hS => ?_)
    obtain ⟨hRc, hRr, hRo⟩ := hZ
    refine lv_aload_n hx hb dX3_ends_37 rfl (lv_at hl 0 rfl) ?_
    refine va_get (D := D) (ci := 4) (v := .ref (G 6)) (C := RX3) (T := TX3) (N := 23) hx hb hts inX3 hown hK hP 3 (Q_m hRr) rfl 2 (by decide) (hts (.fieldLink RX3 13 "BootStageModel" "learned" "[I") (by decide +kernel)) (fun _ h9 => h9) rfl dX3_ends_38 ?_
    refine lv_iload_n hx hb dX3_ends_41 rfl (lv_at hl 1 rfl) ?_
    refine lv_aload_n hx hb dX3_ends_42 rfl (lv_at hl 0 rfl) ?_
    refine va_get (D := D) (ci := 4) (v := .ref (G 6)) (C := RX3) (T := TX3) (N := 23) hx hb hts inX3 hown hK hP 3 (Q_m hRr) rfl 2 (by decide) (hts (.fieldLink RX3 13 "BootStageModel" "learned" "[I") (by decide +kernel)) (fun _ h9 => h9) rfl dX3_ends_43 ?_
    refine lv_iload_n hx hb dX3_ends_46 rfl (lv_at hl 1 rfl) ?_
    refine x_iald hx hb hK hP 6 (Q_a2 hRr) (by first | omega | decide | assumption) (by decide) dX3_ends_47 (v := nI (((r 2 u) + (r 1 u)) / 2)) (congrArg nI (show (up2 (up2 r 17 u 2) 2 u (((r 2 u) + (r 1 u)) / 2)) 2 u = ((r 2 u) + (r 1 u)) / 2 from by simp [up2])) ?_
    refine lv_iconst (v := nI 1) hx hb dX3_ends_48 (by decide) ?_
    refine n_icmp_ge (tgt := 56) hx hb dX3_ends_49 (by decide) (Nat.lt_of_le_of_lt (Nat.div_le_self _ _) h2) (by decide) (fun c_49 => ?_) (fun c_49 => ?_)
    · refine lv_aload_n hx hb dX3_ends_56 rfl (lv_at hl 0 rfl) ?_
      refine va_get (D := D) (ci := 4) (v := .ref (G 6)) (C := RX3) (T := TX3) (N := 23) hx hb hts inX3 hown hK hP 3 (Q_m hRr) rfl 2 (by decide) (hts (.fieldLink RX3 13 "BootStageModel" "learned" "[I") (by decide +kernel)) (fun _ h9 => h9) rfl dX3_ends_57 ?_
      refine lv_iload_n hx hb dX3_ends_60 rfl (lv_at hl 1 rfl) ?_
      refine x_iald hx hb hK hP 6 (Q_a2 hRr) (by first | omega | decide | assumption) (by decide) dX3_ends_61 (v := nI (((r 2 u) + (r 1 u)) / 2)) (congrArg nI (show (up2 (up2 r 17 u 2) 2 u (((r 2 u) + (r 1 u)) / 2)) 2 u = ((r 2 u) + (r 1 u)) / 2 from by simp [up2])) ?_
      refine x_iast (Z := fun wl => Rc G c wl ∧ Rr G (up2 (up2 (up2 r 17 u 2) 2 u (((r 2 u) + (r 1 u)) / 2)) 2 u (((r 2 u) + (r 1 u)) / 2)) wl ∧ Ro G o wl) hx hb hK hP hD hS 6 (Q_a2 hRr) (by first | omega | decide | assumption) (by decide) dX3_ends_62 ⟨Rc_fr hRc (by decide) (by decide), P_a2 (((r 2 u) + (r 1 u)) / 2) (by first | omega | decide | assumption) hRr, Ro_fr hRo (by decide)⟩ (fun H locs wl hZ hP hD hS => ?_)
      obtain ⟨hRc, hRr, hRo⟩ := hZ
      exact W.vret hx hb hr (fun t ht hW => ⟨⟨(), rfl, trivial, Wr_mk hRc (show Rr G (r_ends r u) wl from by rw [show (r_ends r u) = up2 (up2 (up2 r 17 u 2) 2 u (((r 2 u) + (r 1 u)) / 2)) 2 u (((r 2 u) + (r 1 u)) / 2) from by unfold r_ends; rw [if_pos c_6]; rw [if_neg (by omega)]]; exact hRr) hRo hP hD ht⟩, hS.F ht⟩) hS.2.2 dX3_ends_63
    · refine lv_iconst (v := nI 1) hx hb dX3_ends_52 (by decide) ?_
      refine lv_goto (tgt := 62) hx hb dX3_ends_53 (by decide) ?_
      refine x_iast (Z := fun wl => Rc G c wl ∧ Rr G (up2 (up2 (up2 r 17 u 2) 2 u (((r 2 u) + (r 1 u)) / 2)) 2 u 1) wl ∧ Ro G o wl) hx hb hK hP hD hS 6 (Q_a2 hRr) (by first | omega | decide | assumption) (by decide) dX3_ends_62 ⟨Rc_fr hRc (by decide) (by decide), P_a2 1 (by first | omega | decide | assumption) hRr, Ro_fr hRo (by decide)⟩ (fun H locs wl hZ hP hD hS => ?_)
      obtain ⟨hRc, hRr, hRo⟩ := hZ
      exact W.vret hx hb hr (fun t ht hW => ⟨⟨(), rfl, trivial, Wr_mk hRc (show Rr G (r_ends r u) wl from by rw [show (r_ends r u) = up2 (up2 (up2 r 17 u 2) 2 u (((r 2 u) + (r 1 u)) / 2)) 2 u 1 from by unfold r_ends; rw [if_pos c_6]; rw [if_pos c_49]]; exact hRr) hRo hP hD ht⟩, hS.F ht⟩) hS.2.2 dX3_ends_63
set_option maxHeartbeats 4000000 in
set_option maxRecDepth 100000 in
theorem k_X3_isSo (l : Launch) (D : va_G) (G : Nat → Nat) (h0 : Nat) (c r : Nat → Nat → Nat) (o : Nat) (hI : IR r) (u w : Nat) (hu : u < 20) (hw : w < 2 ^ 31) : Met l yX3_isSo wsX3_isSo ({ frames := 3, cells := 0, slots := 0, locals := 67 } : Room) (va_Pc [.ref (G 3), .int (nI u), .int (nI w)] (fun U => Pr D G h0 c r o U)) (va_Qi (fun (v9 : Int32) (_ : Unit) => v9 = nI (if w = 0 then bN (hLR r u) else bN (soR r u))) (fun _ t => Wr D G h0 c r o t) (fun q => h0 ≤ q)) 0 0 (fun q => h0 ≤ q) := by
  refine Met.ofW (cc := cX3_isSo) (maxL := 6) (ret := (some .boolean)) (by decide) rfl ?_
  intro p e s m args below meth cd s₁ B hml hv
  obtain ⟨rfl, hE, wl, hRc, hRr, hRo, hP, hD⟩ := hv
  have hx := B.exec
  have hb := B.bytes
  have hr := B.returns
  have hts := atoms_spec (ws := wsX3_isSo) B.pre
  have hown : s.vm.findClass RX3 = some m.cls := findClass_of_methodNamed B.named
  have hlocks := B.notSynchronized
  have hK := hE.2.1
  have hS : va_S (fun q => h0 ≤ q) s.heap s.heap [] := va_S.rf
  have hl := lv_entry ([.ref (G 3), .int (nI u), .int (nI w)]) (n := 6) (Nat.le_of_ble_eq_true rfl)
  rw [lg_entry_eq]
  generalize (lg_sl ([.ref (G 3), .int (nI u), .int (nI w)]) ++ List.replicate (6 - (lg_sl ([.ref (G 3), .int (nI u), .int (nI w)])).length) Slot.unset).toArray = ls at hl ⊢
  have hl : lv_has ls 6 [(0, .ref (G 3)), (1, .int (nI u)), (2, .int (nI w))] := hl
  have inX3 : ∀ w ∈ wsX30, w ∈ wsX3_isSo := by decide +kernel
  obtain ⟨Q, hQ⟩ : ∃ Q, Q = MQ below (va_Qi (fun (v9 : Int32) (_ : Unit) => v9 = nI (if w = 0 then bN (hLR r u) else bN (soR r u))) (fun _ t => Wr D G h0 c r o t) (fun q => h0 ≤ q)) ([.ref (G 3), .int (nI u), .int (nI w)] : List Value).toArray s 0 0 (fun q => h0 ≤ q) := ⟨_, rfl⟩
  rw [← hQ]
  have hBr := IR_B hI
  have hn := IR_n hI
  have hs := IR_s hI
  refine lv_iconst (v := nI 0) hx hb dX3_isSo_0 (by decide) ?_
  refine lv_istore_n (lv' := [(3, .int (nI 0)), (0, .ref (G 3)), (1, .int (nI u)), (2, .int (nI w))]) hx hb dX3_isSo_1 rfl hl (by decide) rfl (fun ls hl => ?_)
  refine lv_iconst (v := nI 1) hx hb dX3_isSo_2 (by decide) ?_
  refine lv_istore (lv' := [(4, .int (nI 1)), (3, .int (nI 0)), (0, .ref (G 3)), (1, .int (nI u)), (2, .int (nI w))]) hx hb dX3_isSo_3 hl (by decide) rfl (fun ls hl => ?_)
  refine lv_iconst (v := nI 0) hx hb dX3_isSo_5 (by decide) ?_
  refine lv_istore (lv' := [(5, .int (nI 0)), (4, .int (nI 1)), (3, .int (nI 0)), (0, .ref (G 3)), (1, .int (nI u)), (2, .int (nI w))]) hx hb dX3_isSo_6 hl (by decide) rfl (fun ls hl => ?_)
  have L8 : ∀ (d i : Nat), r 30 0 - i < d → i ≤ r 30 0 → ∀ (H : Heap) (locs : List Loc) (wl : va_W) (ls : Array Slot), Rc G c wl → Rr G r wl → Ro G o wl → va_P D vwCl wl H → va_D (fun q => h0 ≤ q) wl → va_S (fun q => h0 ≤ q) s.heap H locs → lv_has ls 6 [(5, .int (nI i)), (3, .int (nI (bN (exQ (hLP r u) i)))), (4, .int (nI (bN (alQ (fun v => ¬ awR r u v) i)))), (0, .ref (G 3)), (1, .int (nI u)), (2, .int (nI w))] → W p l e (headSpec wsX3_isSo ({ frames := 3, cells := 0, slots := 0, locals := 67 } : Room)).room s m ([.ref (G 3), .int (nI u), .int (nI w)] : List Value).toArray below meth cd H locs 0 0 Q (F0 m 8 ls []) := by
    intro d8
    induction d8 with
    | zero => intro i hd; exact absurd hd (Nat.not_lt_zero _)
    | succ d8 ih8 =>
      intro i hd hi  H locs wl ls hRc hRr hRo hP hD hS hl
      refine lv_iload hx hb dX3_isSo_8 (lv_at hl 0 rfl) ?_
      refine lv_aload_n hx hb dX3_isSo_10 rfl (lv_at hl 3 rfl) ?_
      refine va_get (D := D) (ci := 4) (v := .int (nI (r 30 0))) (C := RX3) (T := TX3) (N := 23) hx hb hts inX3 hown hK hP 3 (Q_m hRr) rfl 0 (by decide) (hts (.fieldLink RX3 60 "BootStageModel" "units" "I") (by decide +kernel)) (fun _ h9 => h9) rfl dX3_isSo_11 ?_
      refine n_icmp_ge (tgt := 78) hx hb dX3_isSo_14 (by decide) (by omega) (hBr _ _ (by decide)) (fun c_14 => ?_) (fun c_14 => ?_)
      · refine lv_iload_n hx hb dX3_isSo_78 rfl (lv_at hl 5 rfl) ?_
        refine n_if_ne (tgt := 86) hx hb dX3_isSo_79 (by decide) hw (fun c_79 => ?_) (fun c_79 => ?_)
        · refine lv_iload hx hb dX3_isSo_86 (lv_at hl 2 rfl) ?_
          refine n_ifb_eq (tgt := 99) hx hb dX3_isSo_88 (by decide) (fun c_88 => ?_) (fun c_88 => ?_)
          · refine lv_iconst (v := nI 0) hx hb dX3_isSo_99 (by decide) ?_
            rw [hQ]
            exact W.zret (v := nI 0) (ty := .boolean) hx hb hr (nb_le (by first | exact bN_le _ | decide | omega | assumption)) (fun t ht hW => ⟨⟨_, (), rfl, (show nI 0 = nI (if w = 0 then bN (hLR r u) else bN (soR r u)) from by rw [if_neg (by omega)]; exact congrArg nI (bN_f (fun q => c_88 (by rw [show i = r 30 0 by omega]; exact q.1))).symm), Wr_mk hRc hRr hRo hP hD ht⟩, hS.F ht⟩) hS.2.2 dX3_isSo_100
          · refine lv_iload_n hx hb dX3_isSo_91 rfl (lv_at hl 1 rfl) ?_
            refine n_ifb_ne (tgt := 99) hx hb dX3_isSo_92 (by decide) (fun c_92 => ?_) (fun c_92 => ?_)
            · refine lv_iconst (v := nI 0) hx hb dX3_isSo_99 (by decide) ?_
              rw [hQ]
              exact W.zret (v := nI 0) (ty := .boolean) hx hb hr (nb_le (by first | exact bN_le _ | decide | omega | assumption)) (fun t ht hW => ⟨⟨_, (), rfl, (show nI 0 = nI (if w = 0 then bN (hLR r u) else bN (soR r u)) from by rw [if_neg (by omega)]; exact congrArg nI (bN_f (fun q => q.2 (by rw [show i = r 30 0 by omega] at c_92; exact c_92))).symm), Wr_mk hRc hRr hRo hP hD ht⟩, hS.F ht⟩) hS.2.2 dX3_isSo_100
            · refine lv_iconst (v := nI 1) hx hb dX3_isSo_95 (by decide) ?_
              refine lv_goto (tgt := 100) hx hb dX3_isSo_96 (by decide) ?_
              rw [hQ]
              exact W.zret (v := nI 1) (ty := .boolean) hx hb hr (nb_le (by first | exact bN_le _ | decide | omega | assumption)) (fun t ht hW => ⟨⟨_, (), rfl, (show nI 1 = nI (if w = 0 then bN (hLR r u) else bN (soR r u)) from by rw [if_neg (by omega)]; exact congrArg nI (bN_t ⟨by rw [show i = r 30 0 by omega] at c_88; exact c_88, by rw [show i = r 30 0 by omega] at c_92; exact c_92⟩).symm), Wr_mk hRc hRr hRo hP hD ht⟩, hS.F ht⟩) hS.2.2 dX3_isSo_100
        · refine lv_iload_n hx hb dX3_isSo_82 rfl (lv_at hl 1 rfl) ?_
          refine lv_goto (tgt := 100) hx hb dX3_isSo_83 (by decide) ?_
          rw [hQ]
          exact W.zret (v := nI (bN (exQ (hLP r u) i))) (ty := .boolean) hx hb hr (nb_le (by first | exact bN_le _ | decide | omega | assumption)) (fun t ht hW => ⟨⟨_, (), rfl, (show nI (bN (exQ (hLP r u) i)) = nI (if w = 0 then bN (hLR r u) else bN (soR r u)) from by rw [if_pos c_79, show i = r 30 0 by omega]; rfl), Wr_mk hRc hRr hRo hP hD ht⟩, hS.F ht⟩) hS.2.2 dX3_isSo_100
      · refine lv_iload_n hx hb dX3_isSo_17 rfl (lv_at hl 1 rfl) ?_
        refine n_ifb_ne (tgt := 44) hx hb dX3_isSo_18 (by decide) (fun c_18 => ?_) (fun c_18 => ?_)
        · refine lv_iconst (v := nI 1) hx hb dX3_isSo_44 (by decide) ?_
          refine lv_goto (tgt := 49) hx hb dX3_isSo_45 (by decide) ?_
          refine lv_istore_n (lv' := [(3, .int (nI 1)), (5, .int (nI i)), (4, .int (nI (bN (alQ (fun v => ¬ awR r u v) i)))), (0, .ref (G 3)), (1, .int (nI u)), (2, .int (nI w))]) hx hb dX3_isSo_49 rfl hl (by decide) rfl (fun ls hl => ?_)
          refine lv_iload hx hb dX3_isSo_50 (lv_at hl 2 rfl) ?_
          refine n_ifb_eq (tgt := 69) hx hb dX3_isSo_52 (by decide) (fun c_52 => ?_) (fun c_52 => ?_)
          · refine lv_iconst (v := nI 0) hx hb dX3_isSo_69 (by decide) ?_
            refine lv_istore (lv' := [(4, .int (nI 0)), (3, .int (nI 1)), (5, .int (nI i)), (0, .ref (G 3)), (1, .int (nI u)), (2, .int (nI w))]) hx hb dX3_isSo_70 hl (by decide) rfl (fun ls hl => ?_)
            refine lv_iinc (v := nI (i + 1)) (lv' := [(5, .int (nI (i + 1))), (4, .int (nI 0)), (3, .int (nI 1)), (0, .ref (G 3)), (1, .int (nI u)), (2, .int (nI w))]) hx hb dX3_isSo_72 hl (k := 2) rfl (nI_add i 1) (by decide) rfl (fun ls hl => ?_)
            refine lv_goto (tgt := 8) hx hb dX3_isSo_75 (by decide) ?_
            exact ih8 (i + 1) (by omega) (by omega)   _ _ _ _ hRc hRr hRo hP hD hS (show lv_has ls 6 [(5, .int (nI (i + 1))), (3, .int (nI (bN (exQ (hLP r u) (i + 1))))), (4, .int (nI (bN (alQ (fun v => ¬ awR r u v) (i + 1))))), (0, .ref (G 3)), (1, .int (nI u)), (2, .int (nI w))] from by rw [show ((.int (nI (bN (exQ (hLP r u) (i + 1)))) : Value)) = .int (nI 1) from by exact congrArg (fun z => Value.int (nI z)) (bN_t (exQ_o c_18)), show ((.int (nI (bN (alQ (fun v => ¬ awR r u v) (i + 1)))) : Value)) = .int (nI 0) from by exact congrArg (fun z => Value.int (nI z)) (bN_f (alQ_f1 c_52))]; exact lv_sub hl [0, 2, 1, 3, 4, 5] rfl)
          · refine lv_aload_n hx hb dX3_isSo_55 rfl (lv_at hl 3 rfl) ?_
            refine lv_iload_n hx hb dX3_isSo_56 rfl (lv_at hl 4 rfl) ?_
            refine lv_iload hx hb dX3_isSo_57 (lv_at hl 1 rfl) ?_
            refine y_calli (va_runV (As := [.int (nI u), .int (nI i)]) (rest := []) ⟨hx, hb, hml, hown, hts⟩ (k_X3_waits l D G h0 c r o hI u i (by first | omega | assumption) (by first | omega | assumption)) (cwV 2 hts gX3_isSo_X3_waits rfl rfl rfl (by decide +kernel) ⟨Nat.le_of_ble_eq_true rfl, Nat.le_of_ble_eq_true rfl⟩) ⟨fun a U g mk q => ⟨q.1, Pr_cg q.2⟩, va_recv (ci := 4) (q0 := 3) hK hP rfl (Q_m hRr), fun U hU hW => ⟨rfl, Pr_mk hE hRc hRr hRo hP hD hS hU hW⟩⟩ rfl rfl hl.1 rfl (lv_room (Nat.le_of_ble_eq_true rfl)) dX3_isSo_59 ⟨Nat.le_of_ble_eq_true rfl, Nat.le_of_ble_eq_true rfl⟩) hS (fun v9 _ H locs wl hv9 hRc hRr hRo hP hD hS => ?_)
            refine n_top (y := .int (nI (bN (awR r u i)))) (congrArg Value.int hv9) ?_
            clear hv9 v9
            refine n_ifb_ne (tgt := 69) hx hb dX3_isSo_62 (by decide) (fun c_62 => ?_) (fun c_62 => ?_)
            · refine lv_iconst (v := nI 0) hx hb dX3_isSo_69 (by decide) ?_
              refine lv_istore (lv' := [(4, .int (nI 0)), (3, .int (nI 1)), (5, .int (nI i)), (0, .ref (G 3)), (1, .int (nI u)), (2, .int (nI w))]) hx hb dX3_isSo_70 hl (by decide) rfl (fun ls hl => ?_)
              refine lv_iinc (v := nI (i + 1)) (lv' := [(5, .int (nI (i + 1))), (4, .int (nI 0)), (3, .int (nI 1)), (0, .ref (G 3)), (1, .int (nI u)), (2, .int (nI w))]) hx hb dX3_isSo_72 hl (k := 2) rfl (nI_add i 1) (by decide) rfl (fun ls hl => ?_)
              refine lv_goto (tgt := 8) hx hb dX3_isSo_75 (by decide) ?_
              exact ih8 (i + 1) (by omega) (by omega)   _ _ _ _ hRc hRr hRo hP hD hS (show lv_has ls 6 [(5, .int (nI (i + 1))), (3, .int (nI (bN (exQ (hLP r u) (i + 1))))), (4, .int (nI (bN (alQ (fun v => ¬ awR r u v) (i + 1))))), (0, .ref (G 3)), (1, .int (nI u)), (2, .int (nI w))] from by rw [show ((.int (nI (bN (exQ (hLP r u) (i + 1)))) : Value)) = .int (nI 1) from by exact congrArg (fun z => Value.int (nI z)) (bN_t (exQ_o c_18)), show ((.int (nI (bN (alQ (fun v => ¬ awR r u v) (i + 1)))) : Value)) = .int (nI 0) from by exact congrArg (fun z => Value.int (nI z)) (bN_f (alQ_f2 (fun q => q c_62)))]; exact lv_sub hl [0, 2, 1, 3, 4, 5] rfl)
            · refine lv_iconst (v := nI 1) hx hb dX3_isSo_65 (by decide) ?_
              refine lv_goto (tgt := 70) hx hb dX3_isSo_66 (by decide) ?_
              refine lv_istore (lv' := [(4, .int (nI 1)), (3, .int (nI 1)), (5, .int (nI i)), (0, .ref (G 3)), (1, .int (nI u)), (2, .int (nI w))]) hx hb dX3_isSo_70 hl (by decide) rfl (fun ls hl => ?_)
              refine lv_iinc (v := nI (i + 1)) (lv' := [(5, .int (nI (i + 1))), (4, .int (nI 1)), (3, .int (nI 1)), (0, .ref (G 3)), (1, .int (nI u)), (2, .int (nI w))]) hx hb dX3_isSo_72 hl (k := 2) rfl (nI_add i 1) (by decide) rfl (fun ls hl => ?_)
              refine lv_goto (tgt := 8) hx hb dX3_isSo_75 (by decide) ?_
              exact ih8 (i + 1) (by omega) (by omega)   _ _ _ _ hRc hRr hRo hP hD hS (show lv_has ls 6 [(5, .int (nI (i + 1))), (3, .int (nI (bN (exQ (hLP r u) (i + 1))))), (4, .int (nI (bN (alQ (fun v => ¬ awR r u v) (i + 1))))), (0, .ref (G 3)), (1, .int (nI u)), (2, .int (nI w))] from by rw [show ((.int (nI (bN (exQ (hLP r u) (i + 1)))) : Value)) = .int (nI 1) from by exact congrArg (fun z => Value.int (nI z)) (bN_t (exQ_o c_18)), show ((.int (nI (bN (alQ (fun v => ¬ awR r u v) (i + 1)))) : Value)) = .int (nI 1) from by exact congrArg (fun z => Value.int (nI z)) (bN_t (alQ_t c_52 c_62))]; exact lv_sub hl [0, 2, 1, 3, 4, 5] rfl)
        · refine lv_aload_n hx hb dX3_isSo_21 rfl (lv_at hl 3 rfl) ?_
          refine va_get (D := D) (ci := 4) (v := .ref (G 11)) (C := RX3) (T := TX3) (N := 23) hx hb hts inX3 hown hK hP 3 (Q_m hRr) rfl 7 (by decide) (hts (.fieldLink RX3 29 "BootStageModel" "needs" "[Z") (by decide +kernel)) (fun _ h9 => h9) rfl dX3_isSo_22 ?_
          refine lv_iload_n hx hb dX3_isSo_25 rfl (lv_at hl 4 rfl) ?_
          refine lv_iload hx hb dX3_isSo_26 (lv_at hl 0 rfl) ?_
          refine y_calli (va_runS (As := [.int (nI u), .int (nI i)]) (rest := [.ref (G 11)]) ⟨hx, hb, hml, hown, hts⟩ (k_X3_edge l D G h0 c r o u i) (va_cwS 2 hts gX3_isSo_X3_edge rfl rfl rfl (by decide +kernel) ⟨Nat.le_of_ble_eq_true rfl, Nat.le_of_ble_eq_true rfl⟩) ⟨fun a U g mk q => ⟨q.1, Pr_cg q.2⟩, fun U hU hW => ⟨rfl, Pr_mk hE hRc hRr hRo hP hD hS hU hW⟩⟩ rfl rfl hl.1 rfl (lv_room (Nat.le_of_ble_eq_true rfl)) dX3_isSo_28 ⟨Nat.le_of_ble_eq_true rfl, Nat.le_of_ble_eq_true rfl⟩) hS (fun v9 _ H locs wl hv9 hRc hRr hRo hP hD hS => ?_)
          refine n_top (y := .int (nI (20 * u + i))) (congrArg Value.int hv9) ?_
          clear hv9 v9
          refine x_zald hx hb hK hP 11 (Q_a7 hRr) (by first | omega | decide | assumption) (by decide) dX3_isSo_31 (v := nI (r 7 (20 * u + i))) rfl ?_
          refine n_if_eq (tgt := 48) hx hb dX3_isSo_32 (by decide) (hBr _ _ (by decide)) (fun c_32 => ?_) (fun c_32 => ?_)
          · refine lv_iconst (v := nI 0) hx hb dX3_isSo_48 (by decide) ?_
            refine lv_istore_n (lv' := [(3, .int (nI 0)), (5, .int (nI i)), (4, .int (nI (bN (alQ (fun v => ¬ awR r u v) i)))), (0, .ref (G 3)), (1, .int (nI u)), (2, .int (nI w))]) hx hb dX3_isSo_49 rfl hl (by decide) rfl (fun ls hl => ?_)
            refine lv_iload hx hb dX3_isSo_50 (lv_at hl 2 rfl) ?_
            refine n_ifb_eq (tgt := 69) hx hb dX3_isSo_52 (by decide) (fun c_52 => ?_) (fun c_52 => ?_)
            · refine lv_iconst (v := nI 0) hx hb dX3_isSo_69 (by decide) ?_
              refine lv_istore (lv' := [(4, .int (nI 0)), (3, .int (nI 0)), (5, .int (nI i)), (0, .ref (G 3)), (1, .int (nI u)), (2, .int (nI w))]) hx hb dX3_isSo_70 hl (by decide) rfl (fun ls hl => ?_)
              refine lv_iinc (v := nI (i + 1)) (lv' := [(5, .int (nI (i + 1))), (4, .int (nI 0)), (3, .int (nI 0)), (0, .ref (G 3)), (1, .int (nI u)), (2, .int (nI w))]) hx hb dX3_isSo_72 hl (k := 2) rfl (nI_add i 1) (by decide) rfl (fun ls hl => ?_)
              refine lv_goto (tgt := 8) hx hb dX3_isSo_75 (by decide) ?_
              exact ih8 (i + 1) (by omega) (by omega)   _ _ _ _ hRc hRr hRo hP hD hS (show lv_has ls 6 [(5, .int (nI (i + 1))), (3, .int (nI (bN (exQ (hLP r u) (i + 1))))), (4, .int (nI (bN (alQ (fun v => ¬ awR r u v) (i + 1))))), (0, .ref (G 3)), (1, .int (nI u)), (2, .int (nI w))] from by rw [show ((.int (nI (bN (exQ (hLP r u) (i + 1)))) : Value)) = .int (nI 0) from by exact congrArg (fun z => Value.int (nI z)) (bN_f (exQ_f c_18 (fun q => absurd q.1 (by omega)))), show ((.int (nI (bN (alQ (fun v => ¬ awR r u v) (i + 1)))) : Value)) = .int (nI 0) from by exact congrArg (fun z => Value.int (nI z)) (bN_f (alQ_f1 c_52))]; exact lv_sub hl [0, 2, 1, 3, 4, 5] rfl)
            · refine lv_aload_n hx hb dX3_isSo_55 rfl (lv_at hl 3 rfl) ?_
              refine lv_iload_n hx hb dX3_isSo_56 rfl (lv_at hl 4 rfl) ?_
              refine lv_iload hx hb dX3_isSo_57 (lv_at hl 1 rfl) ?_
              refine y_calli (va_runV (As := [.int (nI u), .int (nI i)]) (rest := []) ⟨hx, hb, hml, hown, hts⟩ (k_X3_waits l D G h0 c r o hI u i (by first | omega | assumption) (by first | omega | assumption)) (cwV 2 hts gX3_isSo_X3_waits rfl rfl rfl (by decide +kernel) ⟨Nat.le_of_ble_eq_true rfl, Nat.le_of_ble_eq_true rfl⟩) ⟨fun a U g mk q => ⟨q.1, Pr_cg q.2⟩, va_recv (ci := 4) (q0 := 3) hK hP rfl (Q_m hRr), fun U hU hW => ⟨rfl, Pr_mk hE hRc hRr hRo hP hD hS hU hW⟩⟩ rfl rfl hl.1 rfl (lv_room (Nat.le_of_ble_eq_true rfl)) dX3_isSo_59 ⟨Nat.le_of_ble_eq_true rfl, Nat.le_of_ble_eq_true rfl⟩) hS (fun v9 _ H locs wl hv9 hRc hRr hRo hP hD hS => ?_)
              refine n_top (y := .int (nI (bN (awR r u i)))) (congrArg Value.int hv9) ?_
              clear hv9 v9
              refine n_ifb_ne (tgt := 69) hx hb dX3_isSo_62 (by decide) (fun c_62 => ?_) (fun c_62 => ?_)
              · refine lv_iconst (v := nI 0) hx hb dX3_isSo_69 (by decide) ?_
                refine lv_istore (lv' := [(4, .int (nI 0)), (3, .int (nI 0)), (5, .int (nI i)), (0, .ref (G 3)), (1, .int (nI u)), (2, .int (nI w))]) hx hb dX3_isSo_70 hl (by decide) rfl (fun ls hl => ?_)
                refine lv_iinc (v := nI (i + 1)) (lv' := [(5, .int (nI (i + 1))), (4, .int (nI 0)), (3, .int (nI 0)), (0, .ref (G 3)), (1, .int (nI u)), (2, .int (nI w))]) hx hb dX3_isSo_72 hl (k := 2) rfl (nI_add i 1) (by decide) rfl (fun ls hl => ?_)
                refine lv_goto (tgt := 8) hx hb dX3_isSo_75 (by decide) ?_
                exact ih8 (i + 1) (by omega) (by omega)   _ _ _ _ hRc hRr hRo hP hD hS (show lv_has ls 6 [(5, .int (nI (i + 1))), (3, .int (nI (bN (exQ (hLP r u) (i + 1))))), (4, .int (nI (bN (alQ (fun v => ¬ awR r u v) (i + 1))))), (0, .ref (G 3)), (1, .int (nI u)), (2, .int (nI w))] from by rw [show ((.int (nI (bN (exQ (hLP r u) (i + 1)))) : Value)) = .int (nI 0) from by exact congrArg (fun z => Value.int (nI z)) (bN_f (exQ_f c_18 (fun q => absurd q.1 (by omega)))), show ((.int (nI (bN (alQ (fun v => ¬ awR r u v) (i + 1)))) : Value)) = .int (nI 0) from by exact congrArg (fun z => Value.int (nI z)) (bN_f (alQ_f2 (fun q => q c_62)))]; exact lv_sub hl [0, 2, 1, 3, 4, 5] rfl)
              · refine lv_iconst (v := nI 1) hx hb dX3_isSo_65 (by decide) ?_
                refine lv_goto (tgt := 70) hx hb dX3_isSo_66 (by decide) ?_
                refine lv_istore (lv' := [(4, .int (nI 1)), (3, .int (nI 0)), (5, .int (nI i)), (0, .ref (G 3)), (1, .int (nI u)), (2, .int (nI w))]) hx hb dX3_isSo_70 hl (by decide) rfl (fun ls hl => ?_)
                refine lv_iinc (v := nI (i + 1)) (lv' := [(5, .int (nI (i + 1))), (4, .int (nI 1)), (3, .int (nI 0)), (0, .ref (G 3)), (1, .int (nI u)), (2, .int (nI w))]) hx hb dX3_isSo_72 hl (k := 2) rfl (nI_add i 1) (by decide) rfl (fun ls hl => ?_)
                refine lv_goto (tgt := 8) hx hb dX3_isSo_75 (by decide) ?_
                exact ih8 (i + 1) (by omega) (by omega)   _ _ _ _ hRc hRr hRo hP hD hS (show lv_has ls 6 [(5, .int (nI (i + 1))), (3, .int (nI (bN (exQ (hLP r u) (i + 1))))), (4, .int (nI (bN (alQ (fun v => ¬ awR r u v) (i + 1))))), (0, .ref (G 3)), (1, .int (nI u)), (2, .int (nI w))] from by rw [show ((.int (nI (bN (exQ (hLP r u) (i + 1)))) : Value)) = .int (nI 0) from by exact congrArg (fun z => Value.int (nI z)) (bN_f (exQ_f c_18 (fun q => absurd q.1 (by omega)))), show ((.int (nI (bN (alQ (fun v => ¬ awR r u v) (i + 1)))) : Value)) = .int (nI 1) from by exact congrArg (fun z => Value.int (nI z)) (bN_t (alQ_t c_52 c_62))]; exact lv_sub hl [0, 2, 1, 3, 4, 5] rfl)
          · refine lv_aload_n hx hb dX3_isSo_35 rfl (lv_at hl 3 rfl) ?_
            refine lv_iload hx hb dX3_isSo_36 (lv_at hl 0 rfl) ?_
            refine y_calli (va_runV (As := [.int (nI i)]) (rest := []) ⟨hx, hb, hml, hown, hts⟩ (k_X3_isLost l D G h0 c r o hI i (by first | omega | assumption)) (cwV 1 hts gX3_isSo_X3_isLost rfl rfl rfl (by decide +kernel) ⟨Nat.le_of_ble_eq_true rfl, Nat.le_of_ble_eq_true rfl⟩) ⟨fun a U g mk q => ⟨q.1, Pr_cg q.2⟩, va_recv (ci := 4) (q0 := 3) hK hP rfl (Q_m hRr), fun U hU hW => ⟨rfl, Pr_mk hE hRc hRr hRo hP hD hS hU hW⟩⟩ rfl rfl hl.1 rfl (lv_room (Nat.le_of_ble_eq_true rfl)) dX3_isSo_38 ⟨Nat.le_of_ble_eq_true rfl, Nat.le_of_ble_eq_true rfl⟩) hS (fun v9 _ H locs wl hv9 hRc hRr hRo hP hD hS => ?_)
            refine n_top (y := .int (nI (bN (lostP (r 17) (r 5) i)))) (congrArg Value.int hv9) ?_
            clear hv9 v9
            refine n_ifb_eq (tgt := 48) hx hb dX3_isSo_41 (by decide) (fun c_41 => ?_) (fun c_41 => ?_)
            · refine lv_iconst (v := nI 0) hx hb dX3_isSo_48 (by decide) ?_
              refine lv_istore_n (lv' := [(3, .int (nI 0)), (5, .int (nI i)), (4, .int (nI (bN (alQ (fun v => ¬ awR r u v) i)))), (0, .ref (G 3)), (1, .int (nI u)), (2, .int (nI w))]) hx hb dX3_isSo_49 rfl hl (by decide) rfl (fun ls hl => ?_)
              refine lv_iload hx hb dX3_isSo_50 (lv_at hl 2 rfl) ?_
              refine n_ifb_eq (tgt := 69) hx hb dX3_isSo_52 (by decide) (fun c_52 => ?_) (fun c_52 => ?_)
              · refine lv_iconst (v := nI 0) hx hb dX3_isSo_69 (by decide) ?_
                refine lv_istore (lv' := [(4, .int (nI 0)), (3, .int (nI 0)), (5, .int (nI i)), (0, .ref (G 3)), (1, .int (nI u)), (2, .int (nI w))]) hx hb dX3_isSo_70 hl (by decide) rfl (fun ls hl => ?_)
                refine lv_iinc (v := nI (i + 1)) (lv' := [(5, .int (nI (i + 1))), (4, .int (nI 0)), (3, .int (nI 0)), (0, .ref (G 3)), (1, .int (nI u)), (2, .int (nI w))]) hx hb dX3_isSo_72 hl (k := 2) rfl (nI_add i 1) (by decide) rfl (fun ls hl => ?_)
                refine lv_goto (tgt := 8) hx hb dX3_isSo_75 (by decide) ?_
                exact ih8 (i + 1) (by omega) (by omega)   _ _ _ _ hRc hRr hRo hP hD hS (show lv_has ls 6 [(5, .int (nI (i + 1))), (3, .int (nI (bN (exQ (hLP r u) (i + 1))))), (4, .int (nI (bN (alQ (fun v => ¬ awR r u v) (i + 1))))), (0, .ref (G 3)), (1, .int (nI u)), (2, .int (nI w))] from by rw [show ((.int (nI (bN (exQ (hLP r u) (i + 1)))) : Value)) = .int (nI 0) from by exact congrArg (fun z => Value.int (nI z)) (bN_f (exQ_f c_18 (fun q => c_41 q.2))), show ((.int (nI (bN (alQ (fun v => ¬ awR r u v) (i + 1)))) : Value)) = .int (nI 0) from by exact congrArg (fun z => Value.int (nI z)) (bN_f (alQ_f1 c_52))]; exact lv_sub hl [0, 2, 1, 3, 4, 5] rfl)
              · refine lv_aload_n hx hb dX3_isSo_55 rfl (lv_at hl 3 rfl) ?_
                refine lv_iload_n hx hb dX3_isSo_56 rfl (lv_at hl 4 rfl) ?_
                refine lv_iload hx hb dX3_isSo_57 (lv_at hl 1 rfl) ?_
                refine y_calli (va_runV (As := [.int (nI u), .int (nI i)]) (rest := []) ⟨hx, hb, hml, hown, hts⟩ (k_X3_waits l D G h0 c r o hI u i (by first | omega | assumption) (by first | omega | assumption)) (cwV 2 hts gX3_isSo_X3_waits rfl rfl rfl (by decide +kernel) ⟨Nat.le_of_ble_eq_true rfl, Nat.le_of_ble_eq_true rfl⟩) ⟨fun a U g mk q => ⟨q.1, Pr_cg q.2⟩, va_recv (ci := 4) (q0 := 3) hK hP rfl (Q_m hRr), fun U hU hW => ⟨rfl, Pr_mk hE hRc hRr hRo hP hD hS hU hW⟩⟩ rfl rfl hl.1 rfl (lv_room (Nat.le_of_ble_eq_true rfl)) dX3_isSo_59 ⟨Nat.le_of_ble_eq_true rfl, Nat.le_of_ble_eq_true rfl⟩) hS (fun v9 _ H locs wl hv9 hRc hRr hRo hP hD hS => ?_)
                refine n_top (y := .int (nI (bN (awR r u i)))) (congrArg Value.int hv9) ?_
                clear hv9 v9
                refine n_ifb_ne (tgt := 69) hx hb dX3_isSo_62 (by decide) (fun c_62 => ?_) (fun c_62 => ?_)
                · refine lv_iconst (v := nI 0) hx hb dX3_isSo_69 (by decide) ?_
                  refine lv_istore (lv' := [(4, .int (nI 0)), (3, .int (nI 0)), (5, .int (nI i)), (0, .ref (G 3)), (1, .int (nI u)), (2, .int (nI w))]) hx hb dX3_isSo_70 hl (by decide) rfl (fun ls hl => ?_)
                  refine lv_iinc (v := nI (i + 1)) (lv' := [(5, .int (nI (i + 1))), (4, .int (nI 0)), (3, .int (nI 0)), (0, .ref (G 3)), (1, .int (nI u)), (2, .int (nI w))]) hx hb dX3_isSo_72 hl (k := 2) rfl (nI_add i 1) (by decide) rfl (fun ls hl => ?_)
                  refine lv_goto (tgt := 8) hx hb dX3_isSo_75 (by decide) ?_
                  exact ih8 (i + 1) (by omega) (by omega)   _ _ _ _ hRc hRr hRo hP hD hS (show lv_has ls 6 [(5, .int (nI (i + 1))), (3, .int (nI (bN (exQ (hLP r u) (i + 1))))), (4, .int (nI (bN (alQ (fun v => ¬ awR r u v) (i + 1))))), (0, .ref (G 3)), (1, .int (nI u)), (2, .int (nI w))] from by rw [show ((.int (nI (bN (exQ (hLP r u) (i + 1)))) : Value)) = .int (nI 0) from by exact congrArg (fun z => Value.int (nI z)) (bN_f (exQ_f c_18 (fun q => c_41 q.2))), show ((.int (nI (bN (alQ (fun v => ¬ awR r u v) (i + 1)))) : Value)) = .int (nI 0) from by exact congrArg (fun z => Value.int (nI z)) (bN_f (alQ_f2 (fun q => q c_62)))]; exact lv_sub hl [0, 2, 1, 3, 4, 5] rfl)
                · refine lv_iconst (v := nI 1) hx hb dX3_isSo_65 (by decide) ?_
                  refine lv_goto (tgt := 70) hx hb dX3_isSo_66 (by decide) ?_
                  refine lv_istore (lv' := [(4, .int (nI 1)), (3, .int (nI 0)), (5, .int (nI i)), (0, .ref (G 3)), (1, .int (nI u)), (2, .int (nI w))]) hx hb dX3_isSo_70 hl (by decide) rfl (fun ls hl => ?_)
                  refine lv_iinc (v := nI (i + 1)) (lv' := [(5, .int (nI (i + 1))), (4, .int (nI 1)), (3, .int (nI 0)), (0, .ref (G 3)), (1, .int (nI u)), (2, .int (nI w))]) hx hb dX3_isSo_72 hl (k := 2) rfl (nI_add i 1) (by decide) rfl (fun ls hl => ?_)
                  refine lv_goto (tgt := 8) hx hb dX3_isSo_75 (by decide) ?_
                  exact ih8 (i + 1) (by omega) (by omega)   _ _ _ _ hRc hRr hRo hP hD hS (show lv_has ls 6 [(5, .int (nI (i + 1))), (3, .int (nI (bN (exQ (hLP r u) (i + 1))))), (4, .int (nI (bN (alQ (fun v => ¬ awR r u v) (i + 1))))), (0, .ref (G 3)), (1, .int (nI u)), (2, .int (nI w))] from by rw [show ((.int (nI (bN (exQ (hLP r u) (i + 1)))) : Value)) = .int (nI 0) from by exact congrArg (fun z => Value.int (nI z)) (bN_f (exQ_f c_18 (fun q => c_41 q.2))), show ((.int (nI (bN (alQ (fun v => ¬ awR r u v) (i + 1)))) : Value)) = .int (nI 1) from by exact congrArg (fun z => Value.int (nI z)) (bN_t (alQ_t c_52 c_62))]; exact lv_sub hl [0, 2, 1, 3, 4, 5] rfl)
            · refine lv_iconst (v := nI 1) hx hb dX3_isSo_44 (by decide) ?_
              refine lv_goto (tgt := 49) hx hb dX3_isSo_45 (by decide) ?_
              refine lv_istore_n (lv' := [(3, .int (nI 1)), (5, .int (nI i)), (4, .int (nI (bN (alQ (fun v => ¬ awR r u v) i)))), (0, .ref (G 3)), (1, .int (nI u)), (2, .int (nI w))]) hx hb dX3_isSo_49 rfl hl (by decide) rfl (fun ls hl => ?_)
              refine lv_iload hx hb dX3_isSo_50 (lv_at hl 2 rfl) ?_
              refine n_ifb_eq (tgt := 69) hx hb dX3_isSo_52 (by decide) (fun c_52 => ?_) (fun c_52 => ?_)
              · refine lv_iconst (v := nI 0) hx hb dX3_isSo_69 (by decide) ?_
                refine lv_istore (lv' := [(4, .int (nI 0)), (3, .int (nI 1)), (5, .int (nI i)), (0, .ref (G 3)), (1, .int (nI u)), (2, .int (nI w))]) hx hb dX3_isSo_70 hl (by decide) rfl (fun ls hl => ?_)
                refine lv_iinc (v := nI (i + 1)) (lv' := [(5, .int (nI (i + 1))), (4, .int (nI 0)), (3, .int (nI 1)), (0, .ref (G 3)), (1, .int (nI u)), (2, .int (nI w))]) hx hb dX3_isSo_72 hl (k := 2) rfl (nI_add i 1) (by decide) rfl (fun ls hl => ?_)
                refine lv_goto (tgt := 8) hx hb dX3_isSo_75 (by decide) ?_
                exact ih8 (i + 1) (by omega) (by omega)   _ _ _ _ hRc hRr hRo hP hD hS (show lv_has ls 6 [(5, .int (nI (i + 1))), (3, .int (nI (bN (exQ (hLP r u) (i + 1))))), (4, .int (nI (bN (alQ (fun v => ¬ awR r u v) (i + 1))))), (0, .ref (G 3)), (1, .int (nI u)), (2, .int (nI w))] from by rw [show ((.int (nI (bN (exQ (hLP r u) (i + 1)))) : Value)) = .int (nI 1) from by exact congrArg (fun z => Value.int (nI z)) (bN_t (exQ_t ⟨c_32, c_41⟩)), show ((.int (nI (bN (alQ (fun v => ¬ awR r u v) (i + 1)))) : Value)) = .int (nI 0) from by exact congrArg (fun z => Value.int (nI z)) (bN_f (alQ_f1 c_52))]; exact lv_sub hl [0, 2, 1, 3, 4, 5] rfl)
              · refine lv_aload_n hx hb dX3_isSo_55 rfl (lv_at hl 3 rfl) ?_
                refine lv_iload_n hx hb dX3_isSo_56 rfl (lv_at hl 4 rfl) ?_
                refine lv_iload hx hb dX3_isSo_57 (lv_at hl 1 rfl) ?_
                refine y_calli (va_runV (As := [.int (nI u), .int (nI i)]) (rest := []) ⟨hx, hb, hml, hown, hts⟩ (k_X3_waits l D G h0 c r o hI u i (by first | omega | assumption) (by first | omega | assumption)) (cwV 2 hts gX3_isSo_X3_waits rfl rfl rfl (by decide +kernel) ⟨Nat.le_of_ble_eq_true rfl, Nat.le_of_ble_eq_true rfl⟩) ⟨fun a U g mk q => ⟨q.1, Pr_cg q.2⟩, va_recv (ci := 4) (q0 := 3) hK hP rfl (Q_m hRr), fun U hU hW => ⟨rfl, Pr_mk hE hRc hRr hRo hP hD hS hU hW⟩⟩ rfl rfl hl.1 rfl (lv_room (Nat.le_of_ble_eq_true rfl)) dX3_isSo_59 ⟨Nat.le_of_ble_eq_true rfl, Nat.le_of_ble_eq_true rfl⟩) hS (fun v9 _ H locs wl hv9 hRc hRr hRo hP hD hS => ?_)
                refine n_top (y := .int (nI (bN (awR r u i)))) (congrArg Value.int hv9) ?_
                clear hv9 v9
                refine n_ifb_ne (tgt := 69) hx hb dX3_isSo_62 (by decide) (fun c_62 => ?_) (fun c_62 => ?_)
                · refine lv_iconst (v := nI 0) hx hb dX3_isSo_69 (by decide) ?_
                  refine lv_istore (lv' := [(4, .int (nI 0)), (3, .int (nI 1)), (5, .int (nI i)), (0, .ref (G 3)), (1, .int (nI u)), (2, .int (nI w))]) hx hb dX3_isSo_70 hl (by decide) rfl (fun ls hl => ?_)
                  refine lv_iinc (v := nI (i + 1)) (lv' := [(5, .int (nI (i + 1))), (4, .int (nI 0)), (3, .int (nI 1)), (0, .ref (G 3)), (1, .int (nI u)), (2, .int (nI w))]) hx hb dX3_isSo_72 hl (k := 2) rfl (nI_add i 1) (by decide) rfl (fun ls hl => ?_)
                  refine lv_goto (tgt := 8) hx hb dX3_isSo_75 (by decide) ?_
                  exact ih8 (i + 1) (by omega) (by omega)   _ _ _ _ hRc hRr hRo hP hD hS (show lv_has ls 6 [(5, .int (nI (i + 1))), (3, .int (nI (bN (exQ (hLP r u) (i + 1))))), (4, .int (nI (bN (alQ (fun v => ¬ awR r u v) (i + 1))))), (0, .ref (G 3)), (1, .int (nI u)), (2, .int (nI w))] from by rw [show ((.int (nI (bN (exQ (hLP r u) (i + 1)))) : Value)) = .int (nI 1) from by exact congrArg (fun z => Value.int (nI z)) (bN_t (exQ_t ⟨c_32, c_41⟩)), show ((.int (nI (bN (alQ (fun v => ¬ awR r u v) (i + 1)))) : Value)) = .int (nI 0) from by exact congrArg (fun z => Value.int (nI z)) (bN_f (alQ_f2 (fun q => q c_62)))]; exact lv_sub hl [0, 2, 1, 3, 4, 5] rfl)
                · refine lv_iconst (v := nI 1) hx hb dX3_isSo_65 (by decide) ?_
                  refine lv_goto (tgt := 70) hx hb dX3_isSo_66 (by decide) ?_
                  refine lv_istore (lv' := [(4, .int (nI 1)), (3, .int (nI 1)), (5, .int (nI i)), (0, .ref (G 3)), (1, .int (nI u)), (2, .int (nI w))]) hx hb dX3_isSo_70 hl (by decide) rfl (fun ls hl => ?_)
                  refine lv_iinc (v := nI (i + 1)) (lv' := [(5, .int (nI (i + 1))), (4, .int (nI 1)), (3, .int (nI 1)), (0, .ref (G 3)), (1, .int (nI u)), (2, .int (nI w))]) hx hb dX3_isSo_72 hl (k := 2) rfl (nI_add i 1) (by decide) rfl (fun ls hl => ?_)
                  refine lv_goto (tgt := 8) hx hb dX3_isSo_75 (by decide) ?_
                  exact ih8 (i + 1) (by omega) (by omega)   _ _ _ _ hRc hRr hRo hP hD hS (show lv_has ls 6 [(5, .int (nI (i + 1))), (3, .int (nI (bN (exQ (hLP r u) (i + 1))))), (4, .int (nI (bN (alQ (fun v => ¬ awR r u v) (i + 1))))), (0, .ref (G 3)), (1, .int (nI u)), (2, .int (nI w))] from by rw [show ((.int (nI (bN (exQ (hLP r u) (i + 1)))) : Value)) = .int (nI 1) from by exact congrArg (fun z => Value.int (nI z)) (bN_t (exQ_t ⟨c_32, c_41⟩)), show ((.int (nI (bN (alQ (fun v => ¬ awR r u v) (i + 1)))) : Value)) = .int (nI 1) from by exact congrArg (fun z => Value.int (nI z)) (bN_t (alQ_t c_52 c_62))]; exact lv_sub hl [0, 2, 1, 3, 4, 5] rfl)
  exact L8 _ 0 (Nat.lt_succ_self _) (by omega)   _ _ _ _ hRc hRr hRo hP hD hS (show lv_has ls 6 [(5, .int (nI 0)), (3, .int (nI (bN (exQ (hLP r u) 0)))), (4, .int (nI (bN (alQ (fun v => ¬ awR r u v) 0)))), (0, .ref (G 3)), (1, .int (nI u)), (2, .int (nI w))] from by rw [show ((.int (nI (bN (exQ (hLP r u) 0))) : Value)) = .int (nI 0) from by exact congrArg (fun z => Value.int (nI z)) (bN_f exQ_0), show ((.int (nI (bN (alQ (fun v => ¬ awR r u v) 0))) : Value)) = .int (nI 1) from by exact congrArg (fun z => Value.int (nI z)) (bN_t alQ_0)]; exact lv_sub hl [0, 2, 1, 3, 4, 5] rfl)
set_option maxHeartbeats 4000000 in
set_option maxRecDepth 100000 in
theorem k_X3_raised (l : Launch) (D : va_G) (G : Nat → Nat) (h0 : Nat) (c r : Nat → Nat → Nat) (o : Nat) (hI : IR r) : Met l yX3_raised wsX3_raised ({ frames := 0, cells := 0, slots := 0, locals := 0 } : Room) (va_Pc [.ref (G 3)] (fun U => Pr D G h0 c r o U)) (va_Qi (fun (v9 : Int32) (_ : Unit) => v9 = nI (r_rs r)) (fun _ t => Wr D G h0 c r o t) (fun q => h0 ≤ q)) 0 0 (fun q => h0 ≤ q) := by
  refine Met.ofW (cc := cX3_raised) (maxL := 4) (ret := (some .int)) (by decide) rfl ?_
  intro p e s m args below meth cd s₁ B hml hv
  obtain ⟨rfl, hE, wl, hRc, hRr, hRo, hP, hD⟩ := hv
  have hx := B.exec
  have hb := B.bytes
  have hr := B.returns
  have hts := atoms_spec (ws := wsX3_raised) B.pre
  have hown : s.vm.findClass RX3 = some m.cls := findClass_of_methodNamed B.named
  have hlocks := B.notSynchronized
  have hK := hE.2.1
  have hS : va_S (fun q => h0 ≤ q) s.heap s.heap [] := va_S.rf
  have hl := lv_entry ([.ref (G 3)]) (n := 4) (Nat.le_of_ble_eq_true rfl)
  rw [lg_entry_eq]
  generalize (lg_sl ([.ref (G 3)]) ++ List.replicate (4 - (lg_sl ([.ref (G 3)])).length) Slot.unset).toArray = ls at hl ⊢
  have hl : lv_has ls 4 [(0, .ref (G 3))] := hl
  have inX3 : ∀ w ∈ wsX30, w ∈ wsX3_raised := by decide +kernel
  obtain ⟨Q, hQ⟩ : ∃ Q, Q = MQ below (va_Qi (fun (v9 : Int32) (_ : Unit) => v9 = nI (r_rs r)) (fun _ t => Wr D G h0 c r o t) (fun q => h0 ≤ q)) ([.ref (G 3)] : List Value).toArray s 0 0 (fun q => h0 ≤ q) := ⟨_, rfl⟩
  rw [← hQ]
  have hBr := IR_B hI
  have hn := IR_n hI
  have hs := IR_s hI
  have ho := IR_O hI
  unfold RO at ho
  refine lv_iconst (v := nI 0) hx hb dX3_raised_0 (by decide) ?_
  refine lv_istore_n (lv' := [(1, .int (nI 0)), (0, .ref (G 3))]) hx hb dX3_raised_1 rfl hl (by decide) rfl (fun ls hl => ?_)
  refine lv_iconst (v := nI 0) hx hb dX3_raised_2 (by decide) ?_
  refine lv_istore_n (lv' := [(2, .int (nI 0)), (1, .int (nI 0)), (0, .ref (G 3))]) hx hb dX3_raised_3 rfl hl (by decide) rfl (fun ls hl => ?_)
  have L4 : ∀ (d i : Nat), r 30 0 - i < d → i ≤ r 30 0 → ∀ (H : Heap) (locs : List Loc) (wl : va_W) (ls : Array Slot), Rc G c wl → Rr G r wl → Ro G o wl → va_P D vwCl wl H → va_D (fun q => h0 ≤ q) wl → va_S (fun q => h0 ≤ q) s.heap H locs → lv_has ls 4 [(2, .int (nI i)), (1, .int (nI (sm (r_part r) i))), (0, .ref (G 3))] → W p l e (headSpec wsX3_raised ({ frames := 0, cells := 0, slots := 0, locals := 0 } : Room)).room s m ([.ref (G 3)] : List Value).toArray below meth cd H locs 0 0 Q (F0 m 4 ls []) := by
    intro d4
    induction d4 with
    | zero => intro i hd; exact absurd hd (Nat.not_lt_zero _)
    | succ d4 ih4 =>
      intro i hd hi  H locs wl ls hRc hRr hRo hP hD hS hl
      have hp := rpart_le hI i
      have hsm : sm (r_part r) i ≤ i * 100 := sm_le (fun j _ => rpart_le hI j)
      refine lv_iload_n hx hb dX3_raised_4 rfl (lv_at hl 0 rfl) ?_
      refine lv_aload_n hx hb dX3_raised_5 rfl (lv_at hl 2 rfl) ?_
      refine va_get (D := D) (ci := 4) (v := .int (nI (r 30 0))) (C := RX3) (T := TX3) (N := 23) hx hb hts inX3 hown hK hP 3 (Q_m hRr) rfl 0 (by decide) (hts (.fieldLink RX3 60 "BootStageModel" "units" "I") (by decide +kernel)) (fun _ h9 => h9) rfl dX3_raised_6 ?_
      refine n_icmp_ge (tgt := 96) hx hb dX3_raised_9 (by decide) (by omega) (hBr _ _ (by decide)) (fun c_9 => ?_) (fun c_9 => ?_)
      · refine lv_aload_n hx hb dX3_raised_96 rfl (lv_at hl 2 rfl) ?_
        refine va_get (D := D) (ci := 4) (v := .int (nI (r 30 15))) (C := RX3) (T := TX3) (N := 23) hx hb hts inX3 hown hK hP 3 (Q_m hRr) rfl 15 (by decide) (hts (.fieldLink RX3 102 "BootStageModel" "total" "I") (by decide +kernel)) (fun _ h9 => h9) rfl dX3_raised_97 ?_
        refine n_if_ne (tgt := 109) hx hb dX3_raised_100 (by decide) (hBr _ _ (by decide)) (fun c_100 => ?_) (fun c_100 => ?_)
        · refine lv_sipush (v := nI 1000) hx hb dX3_raised_109 (by decide) ?_
          refine lv_iload_n hx hb dX3_raised_112 rfl (lv_at hl 1 rfl) ?_
          refine n_imul hx hb dX3_raised_113 ?_
          refine lv_aload_n hx hb dX3_raised_114 rfl (lv_at hl 2 rfl) ?_
          refine va_get (D := D) (ci := 4) (v := .int (nI (r 30 15))) (C := RX3) (T := TX3) (N := 23) hx hb hts inX3 hown hK hP 3 (Q_m hRr) rfl 15 (by decide) (hts (.fieldLink RX3 102 "BootStageModel" "total" "I") (by decide +kernel)) (fun _ h9 => h9) rfl dX3_raised_115 ?_
          refine n_idiv hx hb dX3_raised_118 (by omega) (by first | omega | decide | assumption) (hBr _ _ (by decide)) ?_
          refine lv_istore_n (lv' := [(2, .int (nI ((1000 * (sm (r_part r) i)) / (r 30 15)))), (1, .int (nI (sm (r_part r) i))), (0, .ref (G 3))]) hx hb dX3_raised_119 rfl hl (by decide) rfl (fun ls hl => ?_)
          refine lv_iload_n hx hb dX3_raised_120 rfl (lv_at hl 0 rfl) ?_
          refine lv_aload_n hx hb dX3_raised_121 rfl (lv_at hl 2 rfl) ?_
          refine va_get (D := D) (ci := 4) (v := .int (nI (r 30 16))) (C := RX3) (T := TX3) (N := 23) hx hb hts inX3 hown hK hP 3 (Q_m hRr) rfl 16 (by decide) (hts (.fieldLink RX3 105 "BootStageModel" "bar" "I") (by decide +kernel)) (fun _ h9 => h9) rfl dX3_raised_122 ?_
          refine n_icmp_le (tgt := 132) hx hb dX3_raised_125 (by decide) (Nat.lt_of_le_of_lt (Nat.div_le_self _ _) (by omega)) (hBr _ _ (by decide)) (fun c_125 => ?_) (fun c_125 => ?_)
          · refine lv_aload_n hx hb dX3_raised_132 rfl (lv_at hl 2 rfl) ?_
            refine va_get (D := D) (ci := 4) (v := .int (nI (r 30 16))) (C := RX3) (T := TX3) (N := 23) hx hb hts inX3 hown hK hP 3 (Q_m hRr) rfl 16 (by decide) (hts (.fieldLink RX3 105 "BootStageModel" "bar" "I") (by decide +kernel)) (fun _ h9 => h9) rfl dX3_raised_133 ?_
            rw [hQ]
            exact W.iret (v := nI (r 30 16)) hx hb hr (fun t ht hW => ⟨⟨_, (), rfl, (show nI (r 30 16) = nI (r_rs r) from by have e1 : r_its r = 1000 * sm (r_part r) i / r 30 15 := (by unfold r_its; rw [if_neg (by omega), show i = r 30 0 by omega]); exact congrArg nI (show _ = r_rs r by unfold r_rs; rw [if_pos (by rw [e1]; omega)])), Wr_mk hRc hRr hRo hP hD ht⟩, hS.F ht⟩) hS.2.2 dX3_raised_136
          · refine lv_iload_n hx hb dX3_raised_128 rfl (lv_at hl 0 rfl) ?_
            refine lv_goto (tgt := 136) hx hb dX3_raised_129 (by decide) ?_
            rw [hQ]
            exact W.iret (v := nI ((1000 * (sm (r_part r) i)) / (r 30 15))) hx hb hr (fun t ht hW => ⟨⟨_, (), rfl, (show nI ((1000 * (sm (r_part r) i)) / (r 30 15)) = nI (r_rs r) from by have e1 : r_its r = 1000 * sm (r_part r) i / r 30 15 := (by unfold r_its; rw [if_neg (by omega), show i = r 30 0 by omega]); exact congrArg nI (show _ = r_rs r by unfold r_rs; rw [if_neg (by rw [e1]; omega)]; exact e1.symm)), Wr_mk hRc hRr hRo hP hD ht⟩, hS.F ht⟩) hS.2.2 dX3_raised_136
        · refine lv_sipush (v := nI 1000) hx hb dX3_raised_103 (by decide) ?_
          refine lv_goto (tgt := 119) hx hb dX3_raised_106 (by decide) ?_
          refine lv_istore_n (lv' := [(2, .int (nI 1000)), (1, .int (nI (sm (r_part r) i))), (0, .ref (G 3))]) hx hb dX3_raised_119 rfl hl (by decide) rfl (fun ls hl => ?_)
          refine lv_iload_n hx hb dX3_raised_120 rfl (lv_at hl 0 rfl) ?_
          refine lv_aload_n hx hb dX3_raised_121 rfl (lv_at hl 2 rfl) ?_
          refine va_get (D := D) (ci := 4) (v := .int (nI (r 30 16))) (C := RX3) (T := TX3) (N := 23) hx hb hts inX3 hown hK hP 3 (Q_m hRr) rfl 16 (by decide) (hts (.fieldLink RX3 105 "BootStageModel" "bar" "I") (by decide +kernel)) (fun _ h9 => h9) rfl dX3_raised_122 ?_
          refine n_icmp_le (tgt := 132) hx hb dX3_raised_125 (by decide) (by decide) (hBr _ _ (by decide)) (fun c_125 => ?_) (fun c_125 => ?_)
          · refine lv_aload_n hx hb dX3_raised_132 rfl (lv_at hl 2 rfl) ?_
            refine va_get (D := D) (ci := 4) (v := .int (nI (r 30 16))) (C := RX3) (T := TX3) (N := 23) hx hb hts inX3 hown hK hP 3 (Q_m hRr) rfl 16 (by decide) (hts (.fieldLink RX3 105 "BootStageModel" "bar" "I") (by decide +kernel)) (fun _ h9 => h9) rfl dX3_raised_133 ?_
            rw [hQ]
            exact W.iret (v := nI (r 30 16)) hx hb hr (fun t ht hW => ⟨⟨_, (), rfl, (show nI (r 30 16) = nI (r_rs r) from by have e1 : r_its r = 1000 := (by unfold r_its; rw [if_pos c_100]); exact congrArg nI (show _ = r_rs r by unfold r_rs; rw [if_pos (by rw [e1]; omega)])), Wr_mk hRc hRr hRo hP hD ht⟩, hS.F ht⟩) hS.2.2 dX3_raised_136
          · refine lv_iload_n hx hb dX3_raised_128 rfl (lv_at hl 0 rfl) ?_
            refine lv_goto (tgt := 136) hx hb dX3_raised_129 (by decide) ?_
            rw [hQ]
            exact W.iret (v := nI 1000) hx hb hr (fun t ht hW => ⟨⟨_, (), rfl, (show nI 1000 = nI (r_rs r) from by have e1 : r_its r = 1000 := (by unfold r_its; rw [if_pos c_100]); exact congrArg nI (show _ = r_rs r by unfold r_rs; rw [if_neg (by rw [e1]; omega)]; exact e1.symm)), Wr_mk hRc hRr hRo hP hD ht⟩, hS.F ht⟩) hS.2.2 dX3_raised_136
      · refine lv_aload_n hx hb dX3_raised_12 rfl (lv_at hl 2 rfl) ?_
        refine va_get (D := D) (ci := 4) (v := .ref (G 16)) (C := RX3) (T := TX3) (N := 23) hx hb hts inX3 hown hK hP 3 (Q_m hRr) rfl 18 (by decide) (hts (.fieldLink RX3 44 "BootStageModel" "ticks" "[I") (by decide +kernel)) (fun _ h9 => h9) rfl dX3_raised_13 ?_
        refine lv_iload_n hx hb dX3_raised_16 rfl (lv_at hl 0 rfl) ?_
        refine x_iald hx hb hK hP 16 (Q_a18 hRr) (by first | omega | decide | assumption) (by decide) dX3_raised_17 (v := nI (r 18 i)) rfl ?_
        refine lv_aload_n hx hb dX3_raised_18 rfl (lv_at hl 2 rfl) ?_
        refine va_get (D := D) (ci := 4) (v := .ref (G 18)) (C := RX3) (T := TX3) (N := 23) hx hb hts inX3 hown hK hP 3 (Q_m hRr) rfl 20 (by decide) (hts (.fieldLink RX3 50 "BootStageModel" "counted" "[I") (by decide +kernel)) (fun _ h9 => h9) rfl dX3_raised_19 ?_
        refine lv_iload_n hx hb dX3_raised_22 rfl (lv_at hl 0 rfl) ?_
        refine x_iald hx hb hK hP 18 (Q_a20 hRr) (by first | omega | decide | assumption) (by decide) dX3_raised_23 (v := nI (r 20 i)) rfl ?_
        refine n_icmp_ge (tgt := 36) hx hb dX3_raised_24 (by decide) (hBr _ _ (by decide)) (hBr _ _ (by decide)) (fun c_24 => ?_) (fun c_24 => ?_)
        · refine lv_aload_n hx hb dX3_raised_36 rfl (lv_at hl 2 rfl) ?_
          refine va_get (D := D) (ci := 4) (v := .ref (G 18)) (C := RX3) (T := TX3) (N := 23) hx hb hts inX3 hown hK hP 3 (Q_m hRr) rfl 20 (by decide) (hts (.fieldLink RX3 50 "BootStageModel" "counted" "[I") (by decide +kernel)) (fun _ h9 => h9) rfl dX3_raised_37 ?_
          refine lv_iload_n hx hb dX3_raised_40 rfl (lv_at hl 0 rfl) ?_
          refine x_iald hx hb hK hP 18 (Q_a20 hRr) (by first | omega | decide | assumption) (by decide) dX3_raised_41 (v := nI (r 20 i)) rfl ?_
          refine lv_istore_n (lv' := [(3, .int (nI (r 20 i))), (2, .int (nI i)), (1, .int (nI (sm (r_part r) i))), (0, .ref (G 3))]) hx hb dX3_raised_42 rfl hl (by decide) rfl (fun ls hl => ?_)
          refine lv_iload_n hx hb dX3_raised_43 rfl (lv_at hl 2 rfl) ?_
          refine lv_aload_n hx hb dX3_raised_44 rfl (lv_at hl 3 rfl) ?_
          refine va_get (D := D) (ci := 4) (v := .ref (G 15)) (C := RX3) (T := TX3) (N := 23) hx hb hts inX3 hown hK hP 3 (Q_m hRr) rfl 17 (by decide) (hts (.fieldLink RX3 41 "BootStageModel" "states" "[I") (by decide +kernel)) (fun _ h9 => h9) rfl dX3_raised_45 ?_
          refine lv_iload_n hx hb dX3_raised_48 rfl (lv_at hl 1 rfl) ?_
          refine x_iald hx hb hK hP 15 (Q_a17 hRr) (by first | omega | decide | assumption) (by decide) dX3_raised_49 (v := nI (r 17 i)) rfl ?_
          refine lv_iconst (v := nI 2) hx hb dX3_raised_50 (by decide) ?_
          refine n_icmp_eq (tgt := 64) hx hb dX3_raised_51 (by decide) (hBr _ _ (by decide)) (by decide) (fun c_51 => ?_) (fun c_51 => ?_)
          · refine lv_aload_n hx hb dX3_raised_64 rfl (lv_at hl 3 rfl) ?_
            refine va_get (D := D) (ci := 4) (v := .ref (G 18)) (C := RX3) (T := TX3) (N := 23) hx hb hts inX3 hown hK hP 3 (Q_m hRr) rfl 20 (by decide) (hts (.fieldLink RX3 50 "BootStageModel" "counted" "[I") (by decide +kernel)) (fun _ h9 => h9) rfl dX3_raised_65 ?_
            refine lv_iload_n hx hb dX3_raised_68 rfl (lv_at hl 1 rfl) ?_
            refine x_iald hx hb hK hP 18 (Q_a20 hRr) (by first | omega | decide | assumption) (by decide) dX3_raised_69 (v := nI (r 20 i)) rfl ?_
            refine lv_goto (tgt := 88) hx hb dX3_raised_70 (by decide) ?_
            refine n_iadd hx hb dX3_raised_88 ?_
            refine lv_istore_n (lv' := [(1, .int (nI ((sm (r_part r) i) + (r 20 i)))), (3, .int (nI (r 20 i))), (2, .int (nI i)), (0, .ref (G 3))]) hx hb dX3_raised_89 rfl hl (by decide) rfl (fun ls hl => ?_)
            refine lv_iinc (v := nI (i + 1)) (lv' := [(2, .int (nI (i + 1))), (1, .int (nI ((sm (r_part r) i) + (r 20 i)))), (3, .int (nI (r 20 i))), (0, .ref (G 3))]) hx hb dX3_raised_90 hl (k := 2) rfl (nI_add i 1) (by decide) rfl (fun ls hl => ?_)
            refine lv_goto (tgt := 4) hx hb dX3_raised_93 (by decide) ?_
            exact ih4 (i + 1) (by omega) (by omega)   _ _ _ _ hRc hRr hRo hP hD hS (show lv_has ls 4 [(2, .int (nI (i + 1))), (1, .int (nI (sm (r_part r) (i + 1)))), (0, .ref (G 3))] from by rw [show ((.int (nI (sm (r_part r) (i + 1))) : Value)) = .int (nI ((sm (r_part r) i) + (r 20 i))) from by exact congrArg (fun z => Value.int (nI (sm (r_part r) i + z))) (show r_part r i = _ by unfold r_part; rw [if_pos (by omega)])]; exact lv_sub hl [0, 1, 3] rfl)
          · refine lv_aload_n hx hb dX3_raised_54 rfl (lv_at hl 3 rfl) ?_
            refine va_get (D := D) (ci := 4) (v := .ref (G 15)) (C := RX3) (T := TX3) (N := 23) hx hb hts inX3 hown hK hP 3 (Q_m hRr) rfl 17 (by decide) (hts (.fieldLink RX3 41 "BootStageModel" "states" "[I") (by decide +kernel)) (fun _ h9 => h9) rfl dX3_raised_55 ?_
            refine lv_iload_n hx hb dX3_raised_58 rfl (lv_at hl 1 rfl) ?_
            refine x_iald hx hb hK hP 15 (Q_a17 hRr) (by first | omega | decide | assumption) (by decide) dX3_raised_59 (v := nI (r 17 i)) rfl ?_
            refine lv_iconst (v := nI 3) hx hb dX3_raised_60 (by decide) ?_
            refine n_icmp_ne (tgt := 73) hx hb dX3_raised_61 (by decide) (hBr _ _ (by decide)) (by decide) (fun c_61 => ?_) (fun c_61 => ?_)
            · refine lv_aload_n hx hb dX3_raised_73 rfl (lv_at hl 3 rfl) ?_
              refine va_get (D := D) (ci := 4) (v := .ref (G 15)) (C := RX3) (T := TX3) (N := 23) hx hb hts inX3 hown hK hP 3 (Q_m hRr) rfl 17 (by decide) (hts (.fieldLink RX3 41 "BootStageModel" "states" "[I") (by decide +kernel)) (fun _ h9 => h9) rfl dX3_raised_74 ?_
              refine lv_iload_n hx hb dX3_raised_77 rfl (lv_at hl 1 rfl) ?_
              refine x_iald hx hb hK hP 15 (Q_a17 hRr) (by first | omega | decide | assumption) (by decide) dX3_raised_78 (v := nI (r 17 i)) rfl ?_
              refine lv_iconst (v := nI 1) hx hb dX3_raised_79 (by decide) ?_
              refine n_icmp_ne (tgt := 87) hx hb dX3_raised_80 (by decide) (hBr _ _ (by decide)) (by decide) (fun c_80 => ?_) (fun c_80 => ?_)
              · refine lv_iconst (v := nI 0) hx hb dX3_raised_87 (by decide) ?_
                refine n_iadd hx hb dX3_raised_88 ?_
                refine lv_istore_n (lv' := [(1, .int (nI ((sm (r_part r) i) + 0))), (3, .int (nI (r 20 i))), (2, .int (nI i)), (0, .ref (G 3))]) hx hb dX3_raised_89 rfl hl (by decide) rfl (fun ls hl => ?_)
                refine lv_iinc (v := nI (i + 1)) (lv' := [(2, .int (nI (i + 1))), (1, .int (nI ((sm (r_part r) i) + 0))), (3, .int (nI (r 20 i))), (0, .ref (G 3))]) hx hb dX3_raised_90 hl (k := 2) rfl (nI_add i 1) (by decide) rfl (fun ls hl => ?_)
                refine lv_goto (tgt := 4) hx hb dX3_raised_93 (by decide) ?_
                exact ih4 (i + 1) (by omega) (by omega)   _ _ _ _ hRc hRr hRo hP hD hS (show lv_has ls 4 [(2, .int (nI (i + 1))), (1, .int (nI (sm (r_part r) (i + 1)))), (0, .ref (G 3))] from by rw [show ((.int (nI (sm (r_part r) (i + 1))) : Value)) = .int (nI ((sm (r_part r) i) + 0)) from by exact congrArg (fun z => Value.int (nI (sm (r_part r) i + z))) (show r_part r i = _ by unfold r_part; rw [if_neg (by omega), if_neg (by omega)])]; exact lv_sub hl [0, 1, 3] rfl)
              · refine lv_iload_n hx hb dX3_raised_83 rfl (lv_at hl 0 rfl) ?_
                refine lv_goto (tgt := 88) hx hb dX3_raised_84 (by decide) ?_
                refine n_iadd hx hb dX3_raised_88 ?_
                refine lv_istore_n (lv' := [(1, .int (nI ((sm (r_part r) i) + (r 20 i)))), (3, .int (nI (r 20 i))), (2, .int (nI i)), (0, .ref (G 3))]) hx hb dX3_raised_89 rfl hl (by decide) rfl (fun ls hl => ?_)
                refine lv_iinc (v := nI (i + 1)) (lv' := [(2, .int (nI (i + 1))), (1, .int (nI ((sm (r_part r) i) + (r 20 i)))), (3, .int (nI (r 20 i))), (0, .ref (G 3))]) hx hb dX3_raised_90 hl (k := 2) rfl (nI_add i 1) (by decide) rfl (fun ls hl => ?_)
                refine lv_goto (tgt := 4) hx hb dX3_raised_93 (by decide) ?_
                exact ih4 (i + 1) (by omega) (by omega)   _ _ _ _ hRc hRr hRo hP hD hS (show lv_has ls 4 [(2, .int (nI (i + 1))), (1, .int (nI (sm (r_part r) (i + 1)))), (0, .ref (G 3))] from by rw [show ((.int (nI (sm (r_part r) (i + 1))) : Value)) = .int (nI ((sm (r_part r) i) + (r 20 i))) from by exact congrArg (fun z => Value.int (nI (sm (r_part r) i + z))) (show r_part r i = _ by unfold r_part; rw [if_neg (by omega), if_pos (by omega)]; rw [if_neg (by omega)])]; exact lv_sub hl [0, 1, 3] rfl)
            · refine lv_aload_n hx hb dX3_raised_64 rfl (lv_at hl 3 rfl) ?_
              refine va_get (D := D) (ci := 4) (v := .ref (G 18)) (C := RX3) (T := TX3) (N := 23) hx hb hts inX3 hown hK hP 3 (Q_m hRr) rfl 20 (by decide) (hts (.fieldLink RX3 50 "BootStageModel" "counted" "[I") (by decide +kernel)) (fun _ h9 => h9) rfl dX3_raised_65 ?_
              refine lv_iload_n hx hb dX3_raised_68 rfl (lv_at hl 1 rfl) ?_
              refine x_iald hx hb hK hP 18 (Q_a20 hRr) (by first | omega | decide | assumption) (by decide) dX3_raised_69 (v := nI (r 20 i)) rfl ?_
              refine lv_goto (tgt := 88) hx hb dX3_raised_70 (by decide) ?_
              refine n_iadd hx hb dX3_raised_88 ?_
              refine lv_istore_n (lv' := [(1, .int (nI ((sm (r_part r) i) + (r 20 i)))), (3, .int (nI (r 20 i))), (2, .int (nI i)), (0, .ref (G 3))]) hx hb dX3_raised_89 rfl hl (by decide) rfl (fun ls hl => ?_)
              refine lv_iinc (v := nI (i + 1)) (lv' := [(2, .int (nI (i + 1))), (1, .int (nI ((sm (r_part r) i) + (r 20 i)))), (3, .int (nI (r 20 i))), (0, .ref (G 3))]) hx hb dX3_raised_90 hl (k := 2) rfl (nI_add i 1) (by decide) rfl (fun ls hl => ?_)
              refine lv_goto (tgt := 4) hx hb dX3_raised_93 (by decide) ?_
              exact ih4 (i + 1) (by omega) (by omega)   _ _ _ _ hRc hRr hRo hP hD hS (show lv_has ls 4 [(2, .int (nI (i + 1))), (1, .int (nI (sm (r_part r) (i + 1)))), (0, .ref (G 3))] from by rw [show ((.int (nI (sm (r_part r) (i + 1))) : Value)) = .int (nI ((sm (r_part r) i) + (r 20 i))) from by exact congrArg (fun z => Value.int (nI (sm (r_part r) i + z))) (show r_part r i = _ by unfold r_part; rw [if_pos (by omega)])]; exact lv_sub hl [0, 1, 3] rfl)
        · refine lv_aload_n hx hb dX3_raised_27 rfl (lv_at hl 2 rfl) ?_
          refine va_get (D := D) (ci := 4) (v := .ref (G 16)) (C := RX3) (T := TX3) (N := 23) hx hb hts inX3 hown hK hP 3 (Q_m hRr) rfl 18 (by decide) (hts (.fieldLink RX3 44 "BootStageModel" "ticks" "[I") (by decide +kernel)) (fun _ h9 => h9) rfl dX3_raised_28 ?_
          refine lv_iload_n hx hb dX3_raised_31 rfl (lv_at hl 0 rfl) ?_
          refine x_iald hx hb hK hP 16 (Q_a18 hRr) (by first | omega | decide | assumption) (by decide) dX3_raised_32 (v := nI (r 18 i)) rfl ?_
          refine lv_goto (tgt := 42) hx hb dX3_raised_33 (by decide) ?_
          refine lv_istore_n (lv' := [(3, .int (nI (r 18 i))), (2, .int (nI i)), (1, .int (nI (sm (r_part r) i))), (0, .ref (G 3))]) hx hb dX3_raised_42 rfl hl (by decide) rfl (fun ls hl => ?_)
          refine lv_iload_n hx hb dX3_raised_43 rfl (lv_at hl 2 rfl) ?_
          refine lv_aload_n hx hb dX3_raised_44 rfl (lv_at hl 3 rfl) ?_
          refine va_get (D := D) (ci := 4) (v := .ref (G 15)) (C := RX3) (T := TX3) (N := 23) hx hb hts inX3 hown hK hP 3 (Q_m hRr) rfl 17 (by decide) (hts (.fieldLink RX3 41 "BootStageModel" "states" "[I") (by decide +kernel)) (fun _ h9 => h9) rfl dX3_raised_45 ?_
          refine lv_iload_n hx hb dX3_raised_48 rfl (lv_at hl 1 rfl) ?_
          refine x_iald hx hb hK hP 15 (Q_a17 hRr) (by first | omega | decide | assumption) (by decide) dX3_raised_49 (v := nI (r 17 i)) rfl ?_
          refine lv_iconst (v := nI 2) hx hb dX3_raised_50 (by decide) ?_
          refine n_icmp_eq (tgt := 64) hx hb dX3_raised_51 (by decide) (hBr _ _ (by decide)) (by decide) (fun c_51 => ?_) (fun c_51 => ?_)
          · refine lv_aload_n hx hb dX3_raised_64 rfl (lv_at hl 3 rfl) ?_
            refine va_get (D := D) (ci := 4) (v := .ref (G 18)) (C := RX3) (T := TX3) (N := 23) hx hb hts inX3 hown hK hP 3 (Q_m hRr) rfl 20 (by decide) (hts (.fieldLink RX3 50 "BootStageModel" "counted" "[I") (by decide +kernel)) (fun _ h9 => h9) rfl dX3_raised_65 ?_
            refine lv_iload_n hx hb dX3_raised_68 rfl (lv_at hl 1 rfl) ?_
            refine x_iald hx hb hK hP 18 (Q_a20 hRr) (by first | omega | decide | assumption) (by decide) dX3_raised_69 (v := nI (r 20 i)) rfl ?_
            refine lv_goto (tgt := 88) hx hb dX3_raised_70 (by decide) ?_
            refine n_iadd hx hb dX3_raised_88 ?_
            refine lv_istore_n (lv' := [(1, .int (nI ((sm (r_part r) i) + (r 20 i)))), (3, .int (nI (r 18 i))), (2, .int (nI i)), (0, .ref (G 3))]) hx hb dX3_raised_89 rfl hl (by decide) rfl (fun ls hl => ?_)
            refine lv_iinc (v := nI (i + 1)) (lv' := [(2, .int (nI (i + 1))), (1, .int (nI ((sm (r_part r) i) + (r 20 i)))), (3, .int (nI (r 18 i))), (0, .ref (G 3))]) hx hb dX3_raised_90 hl (k := 2) rfl (nI_add i 1) (by decide) rfl (fun ls hl => ?_)
            refine lv_goto (tgt := 4) hx hb dX3_raised_93 (by decide) ?_
            exact ih4 (i + 1) (by omega) (by omega)   _ _ _ _ hRc hRr hRo hP hD hS (show lv_has ls 4 [(2, .int (nI (i + 1))), (1, .int (nI (sm (r_part r) (i + 1)))), (0, .ref (G 3))] from by rw [show ((.int (nI (sm (r_part r) (i + 1))) : Value)) = .int (nI ((sm (r_part r) i) + (r 20 i))) from by exact congrArg (fun z => Value.int (nI (sm (r_part r) i + z))) (show r_part r i = _ by unfold r_part; rw [if_pos (by omega)])]; exact lv_sub hl [0, 1, 3] rfl)
          · refine lv_aload_n hx hb dX3_raised_54 rfl (lv_at hl 3 rfl) ?_
            refine va_get (D := D) (ci := 4) (v := .ref (G 15)) (C := RX3) (T := TX3) (N := 23) hx hb hts inX3 hown hK hP 3 (Q_m hRr) rfl 17 (by decide) (hts (.fieldLink RX3 41 "BootStageModel" "states" "[I") (by decide +kernel)) (fun _ h9 => h9) rfl dX3_raised_55 ?_
            refine lv_iload_n hx hb dX3_raised_58 rfl (lv_at hl 1 rfl) ?_
            refine x_iald hx hb hK hP 15 (Q_a17 hRr) (by first | omega | decide | assumption) (by decide) dX3_raised_59 (v := nI (r 17 i)) rfl ?_
            refine lv_iconst (v := nI 3) hx hb dX3_raised_60 (by decide) ?_
            refine n_icmp_ne (tgt := 73) hx hb dX3_raised_61 (by decide) (hBr _ _ (by decide)) (by decide) (fun c_61 => ?_) (fun c_61 => ?_)
            · refine lv_aload_n hx hb dX3_raised_73 rfl (lv_at hl 3 rfl) ?_
              refine va_get (D := D) (ci := 4) (v := .ref (G 15)) (C := RX3) (T := TX3) (N := 23) hx hb hts inX3 hown hK hP 3 (Q_m hRr) rfl 17 (by decide) (hts (.fieldLink RX3 41 "BootStageModel" "states" "[I") (by decide +kernel)) (fun _ h9 => h9) rfl dX3_raised_74 ?_
              refine lv_iload_n hx hb dX3_raised_77 rfl (lv_at hl 1 rfl) ?_
              refine x_iald hx hb hK hP 15 (Q_a17 hRr) (by first | omega | decide | assumption) (by decide) dX3_raised_78 (v := nI (r 17 i)) rfl ?_
              refine lv_iconst (v := nI 1) hx hb dX3_raised_79 (by decide) ?_
              refine n_icmp_ne (tgt := 87) hx hb dX3_raised_80 (by decide) (hBr _ _ (by decide)) (by decide) (fun c_80 => ?_) (fun c_80 => ?_)
              · refine lv_iconst (v := nI 0) hx hb dX3_raised_87 (by decide) ?_
                refine n_iadd hx hb dX3_raised_88 ?_
                refine lv_istore_n (lv' := [(1, .int (nI ((sm (r_part r) i) + 0))), (3, .int (nI (r 18 i))), (2, .int (nI i)), (0, .ref (G 3))]) hx hb dX3_raised_89 rfl hl (by decide) rfl (fun ls hl => ?_)
                refine lv_iinc (v := nI (i + 1)) (lv' := [(2, .int (nI (i + 1))), (1, .int (nI ((sm (r_part r) i) + 0))), (3, .int (nI (r 18 i))), (0, .ref (G 3))]) hx hb dX3_raised_90 hl (k := 2) rfl (nI_add i 1) (by decide) rfl (fun ls hl => ?_)
                refine lv_goto (tgt := 4) hx hb dX3_raised_93 (by decide) ?_
                exact ih4 (i + 1) (by omega) (by omega)   _ _ _ _ hRc hRr hRo hP hD hS (show lv_has ls 4 [(2, .int (nI (i + 1))), (1, .int (nI (sm (r_part r) (i + 1)))), (0, .ref (G 3))] from by rw [show ((.int (nI (sm (r_part r) (i + 1))) : Value)) = .int (nI ((sm (r_part r) i) + 0)) from by exact congrArg (fun z => Value.int (nI (sm (r_part r) i + z))) (show r_part r i = _ by unfold r_part; rw [if_neg (by omega), if_neg (by omega)])]; exact lv_sub hl [0, 1, 3] rfl)
              · refine lv_iload_n hx hb dX3_raised_83 rfl (lv_at hl 0 rfl) ?_
                refine lv_goto (tgt := 88) hx hb dX3_raised_84 (by decide) ?_
                refine n_iadd hx hb dX3_raised_88 ?_
                refine lv_istore_n (lv' := [(1, .int (nI ((sm (r_part r) i) + (r 18 i)))), (3, .int (nI (r 18 i))), (2, .int (nI i)), (0, .ref (G 3))]) hx hb dX3_raised_89 rfl hl (by decide) rfl (fun ls hl => ?_)
                refine lv_iinc (v := nI (i + 1)) (lv' := [(2, .int (nI (i + 1))), (1, .int (nI ((sm (r_part r) i) + (r 18 i)))), (3, .int (nI (r 18 i))), (0, .ref (G 3))]) hx hb dX3_raised_90 hl (k := 2) rfl (nI_add i 1) (by decide) rfl (fun ls hl => ?_)
                refine lv_goto (tgt := 4) hx hb dX3_raised_93 (by decide) ?_
                exact ih4 (i + 1) (by omega) (by omega)   _ _ _ _ hRc hRr hRo hP hD hS (show lv_has ls 4 [(2, .int (nI (i + 1))), (1, .int (nI (sm (r_part r) (i + 1)))), (0, .ref (G 3))] from by rw [show ((.int (nI (sm (r_part r) (i + 1))) : Value)) = .int (nI ((sm (r_part r) i) + (r 18 i))) from by exact congrArg (fun z => Value.int (nI (sm (r_part r) i + z))) (show r_part r i = _ by unfold r_part; rw [if_neg (by omega), if_pos (by omega)]; rw [if_pos (by omega)])]; exact lv_sub hl [0, 1, 3] rfl)
            · refine lv_aload_n hx hb dX3_raised_64 rfl (lv_at hl 3 rfl) ?_
              refine va_get (D := D) (ci := 4) (v := .ref (G 18)) (C := RX3) (T := TX3) (N := 23) hx hb hts inX3 hown hK hP 3 (Q_m hRr) rfl 20 (by decide) (hts (.fieldLink RX3 50 "BootStageModel" "counted" "[I") (by decide +kernel)) (fun _ h9 => h9) rfl dX3_raised_65 ?_
              refine lv_iload_n hx hb dX3_raised_68 rfl (lv_at hl 1 rfl) ?_
              refine x_iald hx hb hK hP 18 (Q_a20 hRr) (by first | omega | decide | assumption) (by decide) dX3_raised_69 (v := nI (r 20 i)) rfl ?_
              refine lv_goto (tgt := 88) hx hb dX3_raised_70 (by decide) ?_
              refine n_iadd hx hb dX3_raised_88 ?_
              refine lv_istore_n (lv' := [(1, .int (nI ((sm (r_part r) i) + (r 20 i)))), (3, .int (nI (r 18 i))), (2, .int (nI i)), (0, .ref (G 3))]) hx hb dX3_raised_89 rfl hl (by decide) rfl (fun ls hl => ?_)
              refine lv_iinc (v := nI (i + 1)) (lv' := [(2, .int (nI (i + 1))), (1, .int (nI ((sm (r_part r) i) + (r 20 i)))), (3, .int (nI (r 18 i))), (0, .ref (G 3))]) hx hb dX3_raised_90 hl (k := 2) rfl (nI_add i 1) (by decide) rfl (fun ls hl => ?_)
              refine lv_goto (tgt := 4) hx hb dX3_raised_93 (by decide) ?_
              exact ih4 (i + 1) (by omega) (by omega)   _ _ _ _ hRc hRr hRo hP hD hS (show lv_has ls 4 [(2, .int (nI (i + 1))), (1, .int (nI (sm (r_part r) (i + 1)))), (0, .ref (G 3))] from by rw [show ((.int (nI (sm (r_part r) (i + 1))) : Value)) = .int (nI ((sm (r_part r) i) + (r 20 i))) from by exact congrArg (fun z => Value.int (nI (sm (r_part r) i + z))) (show r_part r i = _ by unfold r_part; rw [if_pos (by omega)])]; exact lv_sub hl [0, 1, 3] rfl)
  exact L4 _ 0 (Nat.lt_succ_self _) (by omega)   _ _ _ _ hRc hRr hRo hP hD hS (show lv_has ls 4 [(2, .int (nI 0)), (1, .int (nI (sm (r_part r) 0))), (0, .ref (G 3))] from by rw [show ((.int (nI (sm (r_part r) 0)) : Value)) = .int (nI 0) from by rfl]; exact lv_sub hl [0, 1, 2] rfl)
