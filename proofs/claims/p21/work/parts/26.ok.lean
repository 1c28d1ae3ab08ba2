set_option maxHeartbeats 4000000 in
set_option maxRecDepth 100000 in
theorem k_X2_unitAt_ok (l : Launch) (D : va_G) (G : Nat → Nat) (h0 : Nat) (c r : Nat → Nat → Nat) (o : Nat) (a : Nat) (ha : a < c 20 1) (hn : c 20 1 ≤ 20) : Met l yX2_unitAt wsX2_unitAt ({ frames := 0, cells := 0, slots := 0, locals := 0 } : Room) (va_Pc [.ref (G 0), .int (nI a)] (fun U => Pr D G h0 c r o U)) (va_Qr (fun (_ : Unit) => True) (fun _ a9 t => a9 = G (20 + a) ∧ Wr D G h0 c r o t) (fun q => h0 ≤ q)) 0 0 (fun q => h0 ≤ q) := by
  refine Met.ofW (cc := cX2_unitAt) (maxL := 2) (ret := (some (.object "BootStage$Unit"))) (by decide) rfl ?_
  intro p e s m args below meth cd s₁ B hml hv
  obtain ⟨rfl, hE, wl, hRc, hRr, hRo, hP, hD⟩ := hv
  have hx := B.exec
  have hb := B.bytes
  have hr := B.returns
  have hts := atoms_spec (ws := wsX2_unitAt) B.pre
  have hown : s.vm.findClass RX2 = some m.cls := findClass_of_methodNamed B.named
  have hlocks := B.notSynchronized
  have hK := hE.2.1
  have hS : va_S (fun q => h0 ≤ q) s.heap s.heap [] := va_S.rf
  have hl := lv_entry ([.ref (G 0), .int (nI a)]) (n := 2) (Nat.le_of_ble_eq_true rfl)
  rw [lg_entry_eq]
  generalize (lg_sl ([.ref (G 0), .int (nI a)]) ++ List.replicate (2 - (lg_sl ([.ref (G 0), .int (nI a)])).length) Slot.unset).toArray = ls at hl ⊢
  have hl : lv_has ls 2 [(0, .ref (G 0)), (1, .int (nI a))] := hl
  have inX2 : ∀ w ∈ wsX20, w ∈ wsX2_unitAt := by decide +kernel
  refine lv_iload_n hx hb dX2_unitAt_0 rfl (lv_at hl 1 rfl) ?_
  refine lv_if_lt (tgt := 12) hx hb dX2_unitAt_1 (by decide) (fun c_1 => absurd c_1 (nI_pos (show a < 2 ^ 31 from (by omega)))) (fun c_1 => ?_)
  refine lv_iload_n hx hb dX2_unitAt_4 rfl (lv_at hl 1 rfl) ?_
  refine lv_aload_n hx hb dX2_unitAt_5 rfl (lv_at hl 0 rfl) ?_
  refine va_get (D := D) (ci := 3) (v := .int (nI (c 20 1))) (C := RX2) (T := TX2) (N := 7) hx hb hts inX2 hown hK hP 0 (Q_o hRc) rfl 1 (by decide) (hts (.fieldLink RX2 15 "BootStage" "count" "I") (by decide +kernel)) (fun _ h9 => h9) rfl dX2_unitAt_6 ?_
  refine n_icmp_lt (tgt := 22) hx hb dX2_unitAt_9 (by decide) (by omega) (by omega) (fun c_9 => ?_) (fun c_9 => ?_)
  · refine lv_aload_n hx hb dX2_unitAt_22 rfl (lv_at hl 0 rfl) ?_
    refine va_get (D := D) (ci := 3) (v := .ref (G 1)) (C := RX2) (T := TX2) (N := 7) hx hb hts inX2 hown hK hP 0 (Q_o hRc) rfl 0 (by decide) (hts (.fieldLink RX2 11 "BootStage" "rows" "[LBootStage$Unit;") (by decide +kernel)) (fun _ h9 => h9) rfl dX2_unitAt_23 ?_
    refine lv_iload_n hx hb dX2_unitAt_26 rfl (lv_at hl 1 rfl) ?_
    refine x_row hx hb hK hP hRc (by first | omega | decide | assumption) dX2_unitAt_27 ?_
    exact W.aret (v := .ref (G (20 + a))) (rt := .object "BootStage$Unit") hx hb hr (Or.inl ⟨_, rfl⟩) (Or.inr ⟨_, rfl⟩) (fun t ht hW => ⟨⟨(), _, rfl, trivial, rfl, Wr_mk hRc hRr hRo hP hD ht⟩, hS.F ht⟩) hS.2.2 dX2_unitAt_28
  · exfalso; omega
set_option maxHeartbeats 4000000 in
set_option maxRecDepth 100000 in
theorem k_X2_checkRange_ok (l : Launch) (D : va_G) (G : Nat → Nat) (h0 : Nat) (c r : Nat → Nat → Nat) (o : Nat) (x lo hi : Nat) (h1 : lo ≤ x) (h2 : x ≤ hi) (h3 : hi < 2 ^ 31) : Met l yX2_checkRange wsX2_checkRange ({ frames := 0, cells := 0, slots := 0, locals := 0 } : Room) (va_Pc [.ref (G 0), .int (nI x), .int (nI lo), .int (nI hi)] (fun U => Pr D G h0 c r o U)) (va_Qv (fun (_ : Unit) => True) (fun _ t => Wr D G h0 c r o t) (fun q => h0 ≤ q)) 0 0 (fun q => h0 ≤ q) := by
  refine Met.ofW (cc := cX2_checkRange) (maxL := 4) (ret := none) (by decide) rfl ?_
  intro p e s m args below meth cd s₁ B hml hv
  obtain ⟨rfl, hE, wl, hRc, hRr, hRo, hP, hD⟩ := hv
  have hx := B.exec
  have hb := B.bytes
  have hr := B.returns
  have hts := atoms_spec (ws := wsX2_checkRange) B.pre
  have hown : s.vm.findClass RX2 = some m.cls := findClass_of_methodNamed B.named
  have hlocks := B.notSynchronized
  have hK := hE.2.1
  have hS : va_S (fun q => h0 ≤ q) s.heap s.heap [] := va_S.rf
  have hl := lv_entry ([.ref (G 0), .int (nI x), .int (nI lo), .int (nI hi)]) (n := 4) (Nat.le_of_ble_eq_true rfl)
  rw [lg_entry_eq]
  generalize (lg_sl ([.ref (G 0), .int (nI x), .int (nI lo), .int (nI hi)]) ++ List.replicate (4 - (lg_sl ([.ref (G 0), .int (nI x), .int (nI lo), .int (nI hi)])).length) Slot.unset).toArray = ls at hl ⊢
  have hl : lv_has ls 4 [(0, .ref (G 0)), (1, .int (nI x)), (2, .int (nI lo)), (3, .int (nI hi))] := hl
  refine lv_iload_n hx hb dX2_checkRange_0 rfl (lv_at hl 1 rfl) ?_
  refine lv_iload_n hx hb dX2_checkRange_1 rfl (lv_at hl 2 rfl) ?_
  refine n_icmp_lt (tgt := 10) hx hb dX2_checkRange_2 (by decide) (by omega) (by omega) (fun c_2 => ?_) (fun c_2 => ?_)
  · exfalso; omega
  · refine lv_iload_n hx hb dX2_checkRange_5 rfl (lv_at hl 1 rfl) ?_
    refine lv_iload_n hx hb dX2_checkRange_6 rfl (lv_at hl 3 rfl) ?_
    refine n_icmp_le (tgt := 20) hx hb dX2_checkRange_7 (by decide) (by omega) (by omega) (fun c_7 => ?_) (fun c_7 => ?_)
    · exact W.vret hx hb hr (fun t ht hW => ⟨⟨(), rfl, trivial, Wr_mk hRc hRr hRo hP hD ht⟩, hS.F ht⟩) hS.2.2 dX2_checkRange_20
    · exfalso; omega
set_option maxHeartbeats 4000000 in
set_option maxRecDepth 100000 in
theorem k_X2_checkNoStart_ok (l : Launch) (D : va_G) (G : Nat → Nat) (h0 : Nat) (c r : Nat → Nat → Nat) (o : Nat) (hg : c 20 3 = 0) : Met l yX2_checkNoStart wsX2_checkNoStart ({ frames := 0, cells := 0, slots := 0, locals := 0 } : Room) (va_Pc [.ref (G 0)] (fun U => Pr D G h0 c r o U)) (va_Qv (fun (_ : Unit) => True) (fun _ t => Wr D G h0 c r o t) (fun q => h0 ≤ q)) 0 0 (fun q => h0 ≤ q) := by
  refine Met.ofW (cc := cX2_checkNoStart) (maxL := 1) (ret := none) (by decide) rfl ?_
  intro p e s m args below meth cd s₁ B hml hv
  obtain ⟨rfl, hE, wl, hRc, hRr, hRo, hP, hD⟩ := hv
  have hx := B.exec
  have hb := B.bytes
  have hr := B.returns
  have hts := atoms_spec (ws := wsX2_checkNoStart) B.pre
  have hown : s.vm.findClass RX2 = some m.cls := findClass_of_methodNamed B.named
  have hlocks := B.notSynchronized
  have hK := hE.2.1
  have hS : va_S (fun q => h0 ≤ q) s.heap s.heap [] := va_S.rf
  have hl := lv_entry ([.ref (G 0)]) (n := 1) (Nat.le_of_ble_eq_true rfl)
  rw [lg_entry_eq]
  generalize (lg_sl ([.ref (G 0)]) ++ List.replicate (1 - (lg_sl ([.ref (G 0)])).length) Slot.unset).toArray = ls at hl ⊢
  have hl : lv_has ls 1 [(0, .ref (G 0))] := hl
  have inX2 : ∀ w ∈ wsX20, w ∈ wsX2_checkNoStart := by decide +kernel
  refine lv_aload_n hx hb dX2_checkNoStart_0 rfl (lv_at hl 0 rfl) ?_
  refine va_get (D := D) (ci := 3) (v := .int (nI (c 20 3))) (C := RX2) (T := TX2) (N := 7) hx hb hts inX2 hown hK hP 0 (Q_o hRc) rfl 3 (by decide) (hts (.fieldLink RX2 26 "BootStage" "isGoingOn" "Z") (by decide +kernel)) (fun _ h9 => h9) rfl dX2_checkNoStart_1 ?_
  refine n_if_eq (tgt := 17) hx hb dX2_checkNoStart_4 (by decide) (by omega) (fun c_4 => ?_) (fun c_4 => ?_)
  · exact W.vret hx hb hr (fun t ht hW => ⟨⟨(), rfl, trivial, Wr_mk hRc hRr hRo hP hD ht⟩, hS.F ht⟩) hS.2.2 dX2_checkNoStart_17
  · exfalso; omega
set_option maxHeartbeats 4000000 in
set_option maxRecDepth 100000 in
theorem k_X2_learned_ok (l : Launch) (D : va_G) (G : Nat → Nat) (h0 : Nat) (c r : Nat → Nat → Nat) (o : Nat) (hI : IC c) (a : Nat) (ha : a < c 20 1)  : Met l yX2_learned wsX2_learned ({ frames := 1, cells := 0, slots := 0, locals := 21 } : Room) (va_Pc [.ref (G 0), .int (nI a)] (fun U => Pr D G h0 c r o U)) (va_Qi (fun (v9 : Int32) (_ : Unit) => v9 = nI (c 3 a)) (fun _ t => Wr D G h0 c r o t) (fun q => h0 ≤ q)) 0 0 (fun q => h0 ≤ q) := by
  refine Met.ofW (cc := cX2_learned) (maxL := 2) (ret := (some .int)) (by decide) rfl ?_
  intro p e s m args below meth cd s₁ B hml hv
  obtain ⟨rfl, hE, wl, hRc, hRr, hRo, hP, hD⟩ := hv
  have hx := B.exec
  have hb := B.bytes
  have hr := B.returns
  have hts := atoms_spec (ws := wsX2_learned) B.pre
  have hown : s.vm.findClass RX2 = some m.cls := findClass_of_methodNamed B.named
  have hlocks := B.notSynchronized
  have hK := hE.2.1
  have hS : va_S (fun q => h0 ≤ q) s.heap s.heap [] := va_S.rf
  have hl := lv_entry ([.ref (G 0), .int (nI a)]) (n := 2) (Nat.le_of_ble_eq_true rfl)
  rw [lg_entry_eq]
  generalize (lg_sl ([.ref (G 0), .int (nI a)]) ++ List.replicate (2 - (lg_sl ([.ref (G 0), .int (nI a)])).length) Slot.unset).toArray = ls at hl ⊢
  have hl : lv_has ls 2 [(0, .ref (G 0)), (1, .int (nI a))] := hl
  have inX0 : ∀ w ∈ wsX00, w ∈ wsX2_learned := by decide +kernel
  have hB := IC_B hI
  have hn := IC_n hI
  have hs := IC_s hI
  refine lv_aload_n hx hb dX2_learned_0 rfl (lv_at hl 0 rfl) ?_
  refine lv_iload_n hx hb dX2_learned_1 rfl (lv_at hl 1 rfl) ?_
  refine y_callr (va_runV (As := [.int (nI a)]) (rest := []) ⟨hx, hb, hml, hown, hts⟩ (k_X2_unitAt_ok l D G h0 c r o a (by first | omega | assumption) hn) (cwV 1 hts gX2_learned_X2_unitAt rfl rfl rfl (by decide +kernel) ⟨Nat.le_of_ble_eq_true rfl, Nat.le_of_ble_eq_true rfl⟩) ⟨fun a U g mk q => ⟨q.1, Pr_cg q.2⟩, va_recv (ci := 3) (q0 := 0) hK hP rfl (Q_o hRc), fun U hU hW => ⟨rfl, Pr_mk hE hRc hRr hRo hP hD hS hU hW⟩⟩ rfl rfl hl.1 rfl (lv_room (Nat.le_of_ble_eq_true rfl)) dX2_learned_2 ⟨Nat.le_of_ble_eq_true rfl, Nat.le_of_ble_eq_true rfl⟩) hS (fun _ H locs wl _ hRc hRr hRo hP hD hS => ?_)
  refine va_get (D := D) (ci := 1) (v := .int (nI (c 3 a))) (C := RX0) (T := TX0) (N := 13) hx hb hts inX0 hown hK hP (7 + a) (Q_u hRc (by first | omega | decide | assumption)) rfl 3 (by decide) (hts (.fieldLink RX2 119 "BootStage$Unit" "learned" "I") (by decide +kernel)) (fun _ h9 => h9) rfl dX2_learned_5 ?_
  exact W.iret (v := nI (c 3 a)) hx hb hr (fun t ht hW => ⟨⟨_, (), rfl, (show nI (c 3 a) = nI (c 3 a) from by first | rfl | (apply congrArg nI; omega) | exact congrArg nI (bN_t (by omega)).symm | exact congrArg nI (bN_f (by omega)).symm), Wr_mk hRc hRr hRo hP hD ht⟩, hS.F ht⟩) hS.2.2 dX2_learned_8
set_option maxHeartbeats 4000000 in
set_option maxRecDepth 100000 in
theorem k_X2_faults_ok (l : Launch) (D : va_G) (G : Nat → Nat) (h0 : Nat) (c r : Nat → Nat → Nat) (o : Nat) (hI : IC c) (a : Nat) (ha : a < c 20 1)  : Met l yX2_faults wsX2_faults ({ frames := 1, cells := 0, slots := 0, locals := 21 } : Room) (va_Pc [.ref (G 0), .int (nI a)] (fun U => Pr D G h0 c r o U)) (va_Qi (fun (v9 : Int32) (_ : Unit) => v9 = nI (c 4 a)) (fun _ t => Wr D G h0 c r o t) (fun q => h0 ≤ q)) 0 0 (fun q => h0 ≤ q) := by
  refine Met.ofW (cc := cX2_faults) (maxL := 2) (ret := (some .int)) (by decide) rfl ?_
  intro p e s m args below meth cd s₁ B hml hv
  obtain ⟨rfl, hE, wl, hRc, hRr, hRo, hP, hD⟩ := hv
  have hx := B.exec
  have hb := B.bytes
  have hr := B.returns
  have hts := atoms_spec (ws := wsX2_faults) B.pre
  have hown : s.vm.findClass RX2 = some m.cls := findClass_of_methodNamed B.named
  have hlocks := B.notSynchronized
  have hK := hE.2.1
  have hS : va_S (fun q => h0 ≤ q) s.heap s.heap [] := va_S.rf
  have hl := lv_entry ([.ref (G 0), .int (nI a)]) (n := 2) (Nat.le_of_ble_eq_true rfl)
  rw [lg_entry_eq]
  generalize (lg_sl ([.ref (G 0), .int (nI a)]) ++ List.replicate (2 - (lg_sl ([.ref (G 0), .int (nI a)])).length) Slot.unset).toArray = ls at hl ⊢
  have hl : lv_has ls 2 [(0, .ref (G 0)), (1, .int (nI a))] := hl
  have inX0 : ∀ w ∈ wsX00, w ∈ wsX2_faults := by decide +kernel
  have hB := IC_B hI
  have hn := IC_n hI
  have hs := IC_s hI
  refine lv_aload_n hx hb dX2_faults_0 rfl (lv_at hl 0 rfl) ?_
  refine lv_iload_n hx hb dX2_faults_1 rfl (lv_at hl 1 rfl) ?_
  refine y_callr (va_runV (As := [.int (nI a)]) (rest := []) ⟨hx, hb, hml, hown, hts⟩ (k_X2_unitAt_ok l D G h0 c r o a (by first | omega | assumption) hn) (cwV 1 hts gX2_faults_X2_unitAt rfl rfl rfl (by decide +kernel) ⟨Nat.le_of_ble_eq_true rfl, Nat.le_of_ble_eq_true rfl⟩) ⟨fun a U g mk q => ⟨q.1, Pr_cg q.2⟩, va_recv (ci := 3) (q0 := 0) hK hP rfl (Q_o hRc), fun U hU hW => ⟨rfl, Pr_mk hE hRc hRr hRo hP hD hS hU hW⟩⟩ rfl rfl hl.1 rfl (lv_room (Nat.le_of_ble_eq_true rfl)) dX2_faults_2 ⟨Nat.le_of_ble_eq_true rfl, Nat.le_of_ble_eq_true rfl⟩) hS (fun _ H locs wl _ hRc hRr hRo hP hD hS => ?_)
  refine va_get (D := D) (ci := 1) (v := .int (nI (c 4 a))) (C := RX0) (T := TX0) (N := 13) hx hb hts inX0 hown hK hP (7 + a) (Q_u hRc (by first | omega | decide | assumption)) rfl 4 (by decide) (hts (.fieldLink RX2 116 "BootStage$Unit" "faults" "I") (by decide +kernel)) (fun _ h9 => h9) rfl dX2_faults_5 ?_
  exact W.iret (v := nI (c 4 a)) hx hb hr (fun t ht hW => ⟨⟨_, (), rfl, (show nI (c 4 a) = nI (c 4 a) from by first | rfl | (apply congrArg nI; omega) | exact congrArg nI (bN_t (by omega)).symm | exact congrArg nI (bN_f (by omega)).symm), Wr_mk hRc hRr hRo hP hD ht⟩, hS.F ht⟩) hS.2.2 dX2_faults_8
set_option maxHeartbeats 4000000 in
set_option maxRecDepth 100000 in
theorem k_X2_state_ok (l : Launch) (D : va_G) (G : Nat → Nat) (h0 : Nat) (c r : Nat → Nat → Nat) (o : Nat) (hI : IC c) (a : Nat) (ha : a < c 20 1)  : Met l yX2_state wsX2_state ({ frames := 1, cells := 0, slots := 0, locals := 21 } : Room) (va_Pc [.ref (G 0), .int (nI a)] (fun U => Pr D G h0 c r o U)) (va_Qi (fun (v9 : Int32) (_ : Unit) => v9 = nI (c 9 a)) (fun _ t => Wr D G h0 c r o t) (fun q => h0 ≤ q)) 0 0 (fun q => h0 ≤ q) := by
  refine Met.ofW (cc := cX2_state) (maxL := 2) (ret := (some .int)) (by decide) rfl ?_
  intro p e s m args below meth cd s₁ B hml hv
  obtain ⟨rfl, hE, wl, hRc, hRr, hRo, hP, hD⟩ := hv
  have hx := B.exec
  have hb := B.bytes
  have hr := B.returns
  have hts := atoms_spec (ws := wsX2_state) B.pre
  have hown : s.vm.findClass RX2 = some m.cls := findClass_of_methodNamed B.named
  have hlocks := B.notSynchronized
  have hK := hE.2.1
  have hS : va_S (fun q => h0 ≤ q) s.heap s.heap [] := va_S.rf
  have hl := lv_entry ([.ref (G 0), .int (nI a)]) (n := 2) (Nat.le_of_ble_eq_true rfl)
  rw [lg_entry_eq]
  generalize (lg_sl ([.ref (G 0), .int (nI a)]) ++ List.replicate (2 - (lg_sl ([.ref (G 0), .int (nI a)])).length) Slot.unset).toArray = ls at hl ⊢
  have hl : lv_has ls 2 [(0, .ref (G 0)), (1, .int (nI a))] := hl
  have inX0 : ∀ w ∈ wsX00, w ∈ wsX2_state := by decide +kernel
  have hB := IC_B hI
  have hn := IC_n hI
  have hs := IC_s hI
  refine lv_aload_n hx hb dX2_state_0 rfl (lv_at hl 0 rfl) ?_
  refine lv_iload_n hx hb dX2_state_1 rfl (lv_at hl 1 rfl) ?_
  refine y_callr (va_runV (As := [.int (nI a)]) (rest := []) ⟨hx, hb, hml, hown, hts⟩ (k_X2_unitAt_ok l D G h0 c r o a (by first | omega | assumption) hn) (cwV 1 hts gX2_state_X2_unitAt rfl rfl rfl (by decide +kernel) ⟨Nat.le_of_ble_eq_true rfl, Nat.le_of_ble_eq_true rfl⟩) ⟨fun a U g mk q => ⟨q.1, Pr_cg q.2⟩, va_recv (ci := 3) (q0 := 0) hK hP rfl (Q_o hRc), fun U hU hW => ⟨rfl, Pr_mk hE hRc hRr hRo hP hD hS hU hW⟩⟩ rfl rfl hl.1 rfl (lv_room (Nat.le_of_ble_eq_true rfl)) dX2_state_2 ⟨Nat.le_of_ble_eq_true rfl, Nat.le_of_ble_eq_true rfl⟩) hS (fun _ H locs wl _ hRc hRr hRo hP hD hS => ?_)
  refine va_get (D := D) (ci := 1) (v := .int (nI (c 9 a))) (C := RX0) (T := TX0) (N := 13) hx hb hts inX0 hown hK hP (7 + a) (Q_u hRc (by first | omega | decide | assumption)) rfl 9 (by decide) (hts (.fieldLink RX2 136 "BootStage$Unit" "state" "I") (by decide +kernel)) (fun _ h9 => h9) rfl dX2_state_5 ?_
  exact W.iret (v := nI (c 9 a)) hx hb hr (fun t ht hW => ⟨⟨_, (), rfl, (show nI (c 9 a) = nI (c 9 a) from by first | rfl | (apply congrArg nI; omega) | exact congrArg nI (bN_t (by omega)).symm | exact congrArg nI (bN_f (by omega)).symm), Wr_mk hRc hRr hRo hP hD ht⟩, hS.F ht⟩) hS.2.2 dX2_state_8
set_option maxHeartbeats 4000000 in
set_option maxRecDepth 100000 in
theorem k_X2_waitsFor_ok (l : Launch) (D : va_G) (G : Nat → Nat) (h0 : Nat) (c r : Nat → Nat → Nat) (o : Nat) (hI : IC c) (a : Nat) (ha : a < c 20 1)  : Met l yX2_waitsFor wsX2_waitsFor ({ frames := 3, cells := 0, slots := 0, locals := 66 } : Room) (va_Pc [.ref (G 0), .int (nI a)] (fun U => Pr D G h0 c r o U)) (va_Qi (fun (v9 : Int32) (_ : Unit) => v9 = siI (if c 9 a = 0 then fP (awC c a) (c 20 1) else 0)) (fun _ t => Wr D G h0 c r o t) (fun q => h0 ≤ q)) 0 0 (fun q => h0 ≤ q) := by
  refine Met.ofW (cc := cX2_waitsFor) (maxL := 4) (ret := (some .int)) (by decide) rfl ?_
  intro p e s m args below meth cd s₁ B hml hv
  obtain ⟨rfl, hE, wl, hRc, hRr, hRo, hP, hD⟩ := hv
  have hx := B.exec
  have hb := B.bytes
  have hr := B.returns
  have hts := atoms_spec (ws := wsX2_waitsFor) B.pre
  have hown : s.vm.findClass RX2 = some m.cls := findClass_of_methodNamed B.named
  have hlocks := B.notSynchronized
  have hK := hE.2.1
  have hS : va_S (fun q => h0 ≤ q) s.heap s.heap [] := va_S.rf
  have hl := lv_entry ([.ref (G 0), .int (nI a)]) (n := 4) (Nat.le_of_ble_eq_true rfl)
  rw [lg_entry_eq]
  generalize (lg_sl ([.ref (G 0), .int (nI a)]) ++ List.replicate (4 - (lg_sl ([.ref (G 0), .int (nI a)])).length) Slot.unset).toArray = ls at hl ⊢
  have hl : lv_has ls 4 [(0, .ref (G 0)), (1, .int (nI a))] := hl
  have inX0 : ∀ w ∈ wsX00, w ∈ wsX2_waitsFor := by decide +kernel
  have inX2 : ∀ w ∈ wsX20, w ∈ wsX2_waitsFor := by decide +kernel
  obtain ⟨Q, hQ⟩ : ∃ Q, Q = MQ below (va_Qi (fun (v9 : Int32) (_ : Unit) => v9 = siI (if c 9 a = 0 then fP (awC c a) (c 20 1) else 0)) (fun _ t => Wr D G h0 c r o t) (fun q => h0 ≤ q)) ([.ref (G 0), .int (nI a)] : List Value).toArray s 0 0 (fun q => h0 ≤ q) := ⟨_, rfl⟩
  rw [← hQ]
  have hB := IC_B hI
  have hn := IC_n hI
  have hs := IC_s hI
  refine lv_aload_n hx hb dX2_waitsFor_0 rfl (lv_at hl 0 rfl) ?_
  refine lv_iload_n hx hb dX2_waitsFor_1 rfl (lv_at hl 1 rfl) ?_
  refine y_callr (va_runV (As := [.int (nI a)]) (rest := []) ⟨hx, hb, hml, hown, hts⟩ (k_X2_unitAt_ok l D G h0 c r o a (by first | omega | assumption) hn) (cwV 1 hts gX2_waitsFor_X2_unitAt rfl rfl rfl (by decide +kernel) ⟨Nat.le_of_ble_eq_true rfl, Nat.le_of_ble_eq_true rfl⟩) ⟨fun a U g mk q => ⟨q.1, Pr_cg q.2⟩, va_recv (ci := 3) (q0 := 0) hK hP rfl (Q_o hRc), fun U hU hW => ⟨rfl, Pr_mk hE hRc hRr hRo hP hD hS hU hW⟩⟩ rfl rfl hl.1 rfl (lv_room (Nat.le_of_ble_eq_true rfl)) dX2_waitsFor_2 ⟨Nat.le_of_ble_eq_true rfl, Nat.le_of_ble_eq_true rfl⟩) hS (fun _ H locs wl _ hRc hRr hRo hP hD hS => ?_)
  refine lv_astore_n (lv' := [(2, .ref (G (20 + a))), (0, .ref (G 0)), (1, .int (nI a))]) hx hb dX2_waitsFor_5 rfl hl (by decide) rfl (fun ls hl => ?_)
  refine lv_aload_n hx hb dX2_waitsFor_6 rfl (lv_at hl 0 rfl) ?_
  refine va_get (D := D) (ci := 1) (v := .int (nI (c 9 a))) (C := RX0) (T := TX0) (N := 13) hx hb hts inX0 hown hK hP (7 + a) (Q_u hRc (by first | omega | decide | assumption)) rfl 9 (by decide) (hts (.fieldLink RX2 136 "BootStage$Unit" "state" "I") (by decide +kernel)) (fun _ h9 => h9) rfl dX2_waitsFor_7 ?_
  refine n_if_eq (tgt := 15) hx hb dX2_waitsFor_10 (by decide) (hB _ _ (by decide)) (fun c_10 => ?_) (fun c_10 => ?_)
  · refine lv_iconst (v := nI 0) hx hb dX2_waitsFor_15 (by decide) ?_
    refine lv_istore_n (lv' := [(3, .int (nI 0)), (2, .ref (G (20 + a))), (0, .ref (G 0)), (1, .int (nI a))]) hx hb dX2_waitsFor_16 rfl hl (by decide) rfl (fun ls hl => ?_)
    have L17 : ∀ (d i : Nat), c 20 1 - i < d → i ≤ c 20 1 → (fP (awC c a) i = 0) → ∀ (H : Heap) (locs : List Loc) (wl : va_W) (ls : Array Slot), Rc G c wl → Rr G r wl → Ro G o wl → va_P D vwCl wl H → va_D (fun q => h0 ≤ q) wl → va_S (fun q => h0 ≤ q) s.heap H locs → lv_has ls 4 [(3, .int (nI i)), (0, .ref (G 0)), (2, .ref (G (20 + a)))] → W p l e (headSpec wsX2_waitsFor ({ frames := 3, cells := 0, slots := 0, locals := 66 } : Room)).room s m ([.ref (G 0), .int (nI a)] : List Value).toArray below meth cd H locs 0 0 Q (F0 m 17 ls []) := by
      intro d17
      induction d17 with
      | zero => intro i hd; exact absurd hd (Nat.not_lt_zero _)
      | succ d17 ih17 =>
        intro i hd hi hf0 H locs wl ls hRc hRr hRo hP hD hS hl
        refine lv_iload_n hx hb dX2_waitsFor_17 rfl (lv_at hl 0 rfl) ?_
        refine lv_aload_n hx hb dX2_waitsFor_18 rfl (lv_at hl 1 rfl) ?_
        refine va_get (D := D) (ci := 3) (v := .int (nI (c 20 1))) (C := RX2) (T := TX2) (N := 7) hx hb hts inX2 hown hK hP 0 (Q_o hRc) rfl 1 (by decide) (hts (.fieldLink RX2 15 "BootStage" "count" "I") (by decide +kernel)) (fun _ h9 => h9) rfl dX2_waitsFor_19 ?_
        refine n_icmp_ge (tgt := 47) hx hb dX2_waitsFor_22 (by decide) (by omega) (hB _ _ (by decide)) (fun c_22 => ?_) (fun c_22 => ?_)
        · refine lv_iconst (v := (-1)) hx hb dX2_waitsFor_47 (by decide) ?_
          rw [hQ]
          exact W.iret (v := (-1)) hx hb hr (fun t ht hW => ⟨⟨_, (), rfl, (show (-1) = siI (if c 9 a = 0 then fP (awC c a) (c 20 1) else 0) from by rw [if_pos c_10, show c 20 1 = i by omega, hf0]; exact siI_0.symm), Wr_mk hRc hRr hRo hP hD ht⟩, hS.F ht⟩) hS.2.2 dX2_waitsFor_48
        · refine lv_aload_n hx hb dX2_waitsFor_25 rfl (lv_at hl 1 rfl) ?_
          refine lv_aload_n hx hb dX2_waitsFor_26 rfl (lv_at hl 1 rfl) ?_
          refine va_get (D := D) (ci := 3) (v := .ref (G 1)) (C := RX2) (T := TX2) (N := 7) hx hb hts inX2 hown hK hP 0 (Q_o hRc) rfl 0 (by decide) (hts (.fieldLink RX2 11 "BootStage" "rows" "[LBootStage$Unit;") (by decide +kernel)) (fun _ h9 => h9) rfl dX2_waitsFor_27 ?_
          refine lv_iload_n hx hb dX2_waitsFor_30 rfl (lv_at hl 0 rfl) ?_
          refine x_row hx hb hK hP hRc (by first | omega | decide | assumption) dX2_waitsFor_31 ?_
          refine lv_aload_n hx hb dX2_waitsFor_32 rfl (lv_at hl 2 rfl) ?_
          refine y_calli (va_runV (As := [.ref (G (20 + i)), .ref (G (20 + a))]) (rest := []) ⟨hx, hb, hml, hown, hts⟩ (k_X2_isAwaited l D G h0 c r o hI i a (by first | omega | assumption) (by first | omega | assumption)) (cwV 2 hts gX2_waitsFor_X2_isAwaited rfl rfl rfl (by decide +kernel) ⟨Nat.le_of_ble_eq_true rfl, Nat.le_of_ble_eq_true rfl⟩) ⟨fun a U g mk q => ⟨q.1, Pr_cg q.2⟩, va_recv (ci := 3) (q0 := 0) hK hP rfl (Q_o hRc), fun U hU hW => ⟨rfl, Pr_mk hE hRc hRr hRo hP hD hS hU hW⟩⟩ rfl rfl hl.1 rfl (lv_room (Nat.le_of_ble_eq_true rfl)) dX2_waitsFor_33 ⟨Nat.le_of_ble_eq_true rfl, Nat.le_of_ble_eq_true rfl⟩) hS (fun v9 _ H locs wl hv9 hRc hRr hRo hP hD hS => ?_)
          refine n_top (y := .int (nI (bN (awC c a i)))) (congrArg Value.int hv9) ?_
          clear hv9 v9
          refine n_ifb_eq (tgt := 41) hx hb dX2_waitsFor_36 (by decide) (fun c_36 => ?_) (fun c_36 => ?_)
          · refine lv_iinc (v := nI (i + 1)) (lv' := [(3, .int (nI (i + 1))), (0, .ref (G 0)), (2, .ref (G (20 + a)))]) hx hb dX2_waitsFor_41 hl (k := 0) rfl (nI_add i 1) (by decide) rfl (fun ls hl => ?_)
            refine lv_goto (tgt := 17) hx hb dX2_waitsFor_44 (by decide) ?_
            exact ih17 (i + 1) (by omega) (by omega)  (by exact fP_miss hf0 c_36) _ _ _ _ hRc hRr hRo hP hD hS (lv_sub hl [0, 1, 2] rfl)
          · refine lv_iload_n hx hb dX2_waitsFor_39 rfl (lv_at hl 0 rfl) ?_
            rw [hQ]
            exact W.iret (v := nI i) hx hb hr (fun t ht hW => ⟨⟨_, (), rfl, (show nI i = siI (if c 9 a = 0 then fP (awC c a) (c 20 1) else 0) from by rw [if_pos c_10, fP_hit hf0 c_36 (by omega)]; exact (siI_s _).symm), Wr_mk hRc hRr hRo hP hD ht⟩, hS.F ht⟩) hS.2.2 dX2_waitsFor_40
    exact L17 _ 0 (Nat.lt_succ_self _) (by omega)  (by rfl) _ _ _ _ hRc hRr hRo hP hD hS (lv_sub hl [0, 2, 1] rfl)
  · refine lv_iconst (v := (-1)) hx hb dX2_waitsFor_13 (by decide) ?_
    rw [hQ]
    exact W.iret (v := (-1)) hx hb hr (fun t ht hW => ⟨⟨_, (), rfl, (show (-1) = siI (if c 9 a = 0 then fP (awC c a) (c 20 1) else 0) from by rw [if_neg (by omega)]; exact siI_0.symm), Wr_mk hRc hRr hRo hP hD ht⟩, hS.F ht⟩) hS.2.2 dX2_waitsFor_14
set_option maxHeartbeats 4000000 in
set_option maxRecDepth 100000 in
theorem k_X2_tick_ok (l : Launch) (D : va_G) (G : Nat → Nat) (h0 : Nat) (c r : Nat → Nat → Nat) (o : Nat) (hI : IC c) (hg : c 20 3 ≠ 0) : Met l yX2_tick wsX2_tick ({ frames := 5, cells := 0, slots := 0, locals := 107 } : Room) (va_Pc [.ref (G 0), .int (nI 1)] (fun U => Pr D G h0 c r o U)) (va_Qi (fun (v9 : Int32) (_ : Unit) => v9 = nI 1) (fun _ t => Wr D G h0 (c_tick1 c) r o t) (fun q => h0 ≤ q)) 0 0 (fun q => h0 ≤ q) := by
  refine Met.ofW (cc := cX2_tick) (maxL := 3) (ret := (some .int)) (by decide) rfl ?_
  intro p e s m args below meth cd s₁ B hml hv
  obtain ⟨rfl, hE, wl, hRc, hRr, hRo, hP, hD⟩ := hv
  have hx := B.exec
  have hb := B.bytes
  have hr := B.returns
  have hts := atoms_spec (ws := wsX2_tick) B.pre
  have hown : s.vm.findClass RX2 = some m.cls := findClass_of_methodNamed B.named
  have hlocks := B.notSynchronized
  have hK := hE.2.1
  have hS : va_S (fun q => h0 ≤ q) s.heap s.heap [] := va_S.rf
  have hl := lv_entry ([.ref (G 0), .int (nI 1)]) (n := 3) (Nat.le_of_ble_eq_true rfl)
  rw [lg_entry_eq]
  generalize (lg_sl ([.ref (G 0), .int (nI 1)]) ++ List.replicate (3 - (lg_sl ([.ref (G 0), .int (nI 1)])).length) Slot.unset).toArray = ls at hl ⊢
  have hl : lv_has ls 3 [(0, .ref (G 0)), (1, .int (nI 1))] := hl
  have inX2 : ∀ w ∈ wsX20, w ∈ wsX2_tick := by decide +kernel
  have hB := IC_B hI
  have hn := IC_n hI
  have hs := IC_s hI
  refine lv_aload_n hx hb dX2_tick_0 rfl (lv_at hl 0 rfl) ?_
  refine lv_iload_n hx hb dX2_tick_1 rfl (lv_at hl 1 rfl) ?_
  refine lv_iconst (v := nI 1) hx hb dX2_tick_2 (by decide) ?_
  refine lv_sipush (v := nI 200) hx hb dX2_tick_3 (by decide) ?_
  refine y_callv (va_runV (As := [.int (nI 1), .int (nI 1), .int (nI 200)]) (rest := []) ⟨hx, hb, hml, hown, hts⟩ (k_X2_checkRange_ok l D G h0 c r o 1 1 200 (by omega) (by omega) (by decide)) (cwV 3 hts gX2_tick_X2_checkRange rfl rfl rfl (by decide +kernel) ⟨Nat.le_of_ble_eq_true rfl, Nat.le_of_ble_eq_true rfl⟩) ⟨fun a U g mk q => ⟨q.1, Pr_cg q.2⟩, va_recv (ci := 3) (q0 := 0) hK hP rfl (Q_o hRc), fun U hU hW => ⟨rfl, Pr_mk hE hRc hRr hRo hP hD hS hU hW⟩⟩ rfl rfl hl.1 rfl (lv_room (Nat.le_of_ble_eq_true rfl)) dX2_tick_6 ⟨Nat.le_of_ble_eq_true rfl, Nat.le_of_ble_eq_true rfl⟩) hS (fun _ H locs wl _ hRc hRr hRo hP hD hS => ?_)
  refine lv_aload_n hx hb dX2_tick_9 rfl (lv_at hl 0 rfl) ?_
  refine va_get (D := D) (ci := 3) (v := .int (nI (c 20 3))) (C := RX2) (T := TX2) (N := 7) hx hb hts inX2 hown hK hP 0 (Q_o hRc) rfl 3 (by decide) (hts (.fieldLink RX2 26 "BootStage" "isGoingOn" "Z") (by decide +kernel)) (fun _ h9 => h9) rfl dX2_tick_10 ?_
  refine n_if_ne (tgt := 26) hx hb dX2_tick_13 (by decide) (hB _ _ (by decide)) (fun c_13 => ?_) (fun c_13 => ?_)
  · refine lv_iconst (v := nI 0) hx hb dX2_tick_26 (by decide) ?_
    refine lv_istore_n (lv' := [(2, .int (nI 0)), (0, .ref (G 0)), (1, .int (nI 1))]) hx hb dX2_tick_27 rfl hl (by decide) rfl (fun ls hl => ?_)
    refine lv_iload_n hx hb dX2_tick_28 rfl (lv_at hl 0 rfl) ?_
    refine lv_iload_n hx hb dX2_tick_29 rfl (lv_at hl 2 rfl) ?_
    refine n_icmp_ge (tgt := 50) hx hb dX2_tick_30 (by decide) (by decide) (by decide) (fun c_30 => absurd c_30 (by decide)) (fun c_30 => ?_)
    refine lv_aload_n hx hb dX2_tick_33 rfl (lv_at hl 1 rfl) ?_
    refine va_get (D := D) (ci := 3) (v := .int (nI (c 20 3))) (C := RX2) (T := TX2) (N := 7) hx hb hts inX2 hown hK hP 0 (Q_o hRc) rfl 3 (by decide) (hts (.fieldLink RX2 26 "BootStage" "isGoingOn" "Z") (by decide +kernel)) (fun _ h9 => h9) rfl dX2_tick_34 ?_
    refine n_if_eq (tgt := 50) hx hb dX2_tick_37 (by decide) (hB _ _ (by decide)) (fun c_37 => ?_) (fun c_37 => ?_)
    · exfalso; omega
    · refine lv_aload_n hx hb dX2_tick_40 rfl (lv_at hl 1 rfl) ?_
      refine y_callv (va_runV (As := []) (rest := []) ⟨hx, hb, hml, hown, hts⟩ (k_X2_passOneTick l D G h0 c r o hI) (cwV 0 hts gX2_tick_X2_passOneTick rfl rfl rfl (by decide +kernel) ⟨Nat.le_of_ble_eq_true rfl, Nat.le_of_ble_eq_true rfl⟩) ⟨fun a U g mk q => ⟨q.1, Pr_cg q.2⟩, va_recv (ci := 3) (q0 := 0) hK hP rfl (Q_o hRc), fun U hU hW => ⟨rfl, Pr_mk hE hRc hRr hRo hP hD hS hU hW⟩⟩ rfl rfl hl.1 rfl (lv_room (Nat.le_of_ble_eq_true rfl)) dX2_tick_41 ⟨Nat.le_of_ble_eq_true rfl, Nat.le_of_ble_eq_true rfl⟩) hS (fun _ H locs wl _ hRc hRr hRo hP hD hS => ?_)
      refine lv_iinc (v := nI 1) (lv' := [(2, .int (nI 1)), (0, .ref (G 0)), (1, .int (nI 1))]) hx hb dX2_tick_44 hl (k := 0) rfl (nI_add 0 1) (by decide) rfl (fun ls hl => ?_)
      refine lv_goto (tgt := 28) hx hb dX2_tick_47 (by decide) ?_
      refine lv_iload_n hx hb dX2_tick_28 rfl (lv_at hl 0 rfl) ?_
      refine lv_iload_n hx hb dX2_tick_29 rfl (lv_at hl 2 rfl) ?_
      refine n_icmp_ge (tgt := 50) hx hb dX2_tick_30 (by decide) (by decide) (by decide) (fun c_30 => ?_) (fun c_30 => absurd c_30 (by decide))
      refine lv_iload_n hx hb dX2_tick_50 rfl (lv_at hl 0 rfl) ?_
      exact W.iret (v := nI 1) hx hb hr (fun t ht hW => ⟨⟨_, (), rfl, (show nI 1 = nI 1 from by first | rfl | (apply congrArg nI; omega) | exact congrArg nI (bN_t (by omega)).symm | exact congrArg nI (bN_f (by omega)).symm), Wr_mk hRc hRr hRo hP hD ht⟩, hS.F ht⟩) hS.2.2 dX2_tick_51
  · exfalso; omega
set_option maxHeartbeats 4000000 in
set_option maxRecDepth 100000 in
theorem k_X2_begin_ok (l : Launch) (D : va_G) (G : Nat → Nat) (h0 : Nat) (c r : Nat → Nat → Nat) (o : Nat) (hI : IC c) (hW5 : c 30 0 ≤ 512) (b : Nat) (hb1 : 1 ≤ b) (hb2 : b ≤ 20) (hg : c 20 3 = 0) : Met l yX2_begin wsX2_begin ({ frames := 5, cells := 0, slots := 0, locals := 110 } : Room) (va_Pc [.ref (G 0), .int (nI b)] (fun U => Pr D G h0 c r o U)) (va_Qi (fun (v9 : Int32) (_ : Unit) => v9 = nI (cutC (up2 c 20 4 b)).2) (fun _ t => Wr D G h0 (c_begin c b) r o t) (fun q => h0 ≤ q)) 0 0 (fun q => h0 ≤ q) := by
  refine Met.ofW (cc := cX2_begin) (maxL := 4) (ret := (some .int)) (by decide) rfl ?_
  intro p e s m args below meth cd s₁ B hml hv
  obtain ⟨rfl, hE, wl, hRc, hRr, hRo, hP, hD⟩ := hv
  have hx := B.exec
  have hb := B.bytes
  have hr := B.returns
  have hts := atoms_spec (ws := wsX2_begin) B.pre
  have hown : s.vm.findClass RX2 = some m.cls := findClass_of_methodNamed B.named
  have hlocks := B.notSynchronized
  have hK := hE.2.1
  have hS : va_S (fun q => h0 ≤ q) s.heap s.heap [] := va_S.rf
  have hl := lv_entry ([.ref (G 0), .int (nI b)]) (n := 4) (Nat.le_of_ble_eq_true rfl)
  rw [lg_entry_eq]
  generalize (lg_sl ([.ref (G 0), .int (nI b)]) ++ List.replicate (4 - (lg_sl ([.ref (G 0), .int (nI b)])).length) Slot.unset).toArray = ls at hl ⊢
  have hl : lv_has ls 4 [(0, .ref (G 0)), (1, .int (nI b))] := hl
  have inX2 : ∀ w ∈ wsX20, w ∈ wsX2_begin := by decide +kernel
  obtain ⟨Q, hQ⟩ : ∃ Q, Q = MQ below (va_Qi (fun (v9 : Int32) (_ : Unit) => v9 = nI (cutC (up2 c 20 4 b)).2) (fun _ t => Wr D G h0 (c_begin c b) r o t) (fun q => h0 ≤ q)) ([.ref (G 0), .int (nI b)] : List Value).toArray s 0 0 (fun q => h0 ≤ q) := ⟨_, rfl⟩
  rw [← hQ]
  have hB := IC_B hI
  have hn := IC_n hI
  have hs := IC_s hI
  refine lv_aload_n hx hb dX2_begin_0 rfl (lv_at hl 0 rfl) ?_
  refine lv_iload_n hx hb dX2_begin_1 rfl (lv_at hl 1 rfl) ?_
  refine lv_iconst (v := nI 1) hx hb dX2_begin_2 (by decide) ?_
  refine lv_bipush (v := nI 20) hx hb dX2_begin_3 (by decide) ?_
  refine y_callv (va_runV (As := [.int (nI b), .int (nI 1), .int (nI 20)]) (rest := []) ⟨hx, hb, hml, hown, hts⟩ (k_X2_checkRange_ok l D G h0 c r o b 1 20 (by omega) (by omega) (by decide)) (cwV 3 hts gX2_begin_X2_checkRange rfl rfl rfl (by decide +kernel) ⟨Nat.le_of_ble_eq_true rfl, Nat.le_of_ble_eq_true rfl⟩) ⟨fun a U g mk q => ⟨q.1, Pr_cg q.2⟩, va_recv (ci := 3) (q0 := 0) hK hP rfl (Q_o hRc), fun U hU hW => ⟨rfl, Pr_mk hE hRc hRr hRo hP hD hS hU hW⟩⟩ rfl rfl hl.1 rfl (lv_room (Nat.le_of_ble_eq_true rfl)) dX2_begin_5 ⟨Nat.le_of_ble_eq_true rfl, Nat.le_of_ble_eq_true rfl⟩) hS (fun _ H locs wl _ hRc hRr hRo hP hD hS => ?_)
  refine lv_aload_n hx hb dX2_begin_8 rfl (lv_at hl 0 rfl) ?_
  refine y_callv (va_runV (As := []) (rest := []) ⟨hx, hb, hml, hown, hts⟩ (k_X2_checkNoStart_ok l D G h0 c r o hg) (cwV 0 hts gX2_begin_X2_checkNoStart rfl rfl rfl (by decide +kernel) ⟨Nat.le_of_ble_eq_true rfl, Nat.le_of_ble_eq_true rfl⟩) ⟨fun a U g mk q => ⟨q.1, Pr_cg q.2⟩, va_recv (ci := 3) (q0 := 0) hK hP rfl (Q_o hRc), fun U hU hW => ⟨rfl, Pr_mk hE hRc hRr hRo hP hD hS hU hW⟩⟩ rfl rfl hl.1 rfl (lv_room (Nat.le_of_ble_eq_true rfl)) dX2_begin_9 ⟨Nat.le_of_ble_eq_true rfl, Nat.le_of_ble_eq_true rfl⟩) hS (fun _ H locs wl _ hRc hRr hRo hP hD hS => ?_)
  refine lv_aload_n hx hb dX2_begin_12 rfl (lv_at hl 0 rfl) ?_
  refine lv_iload_n hx hb dX2_begin_13 rfl (lv_at hl 1 rfl) ?_
  refine x_put (D := D) (G := G) (ci := 3) (ty := .int) (C := RX2) (T := TX2) (N := 7) (Z := fun wl => Rc G (up2 c 20 4 b) wl ∧ Rr G r wl ∧ Ro G o wl) hx hb hts inX2 tyX2 tyX2_ok nmX2 hown hK hP hD hS 0 (Q_o hRc) rfl 4 (by decide) (hts (.fieldLink RX2 30 "BootStage" "bound" "I") (by decide +kernel)) (fun _ h9 => h9) rfl (by decide +kernel) rfl rfl (Nat.le_of_ble_eq_true rfl) dX2_begin_14 ⟨P_o4 b hRc, Rr_fr hRr (by decide), Ro_fr hRo (by decide)⟩ (fun H locs wl hZ hP hD hS => ?_)
  obtain ⟨hRc, hRr, hRo⟩ := hZ
  refine lv_aload_n hx hb dX2_begin_17 rfl (lv_at hl 0 rfl) ?_
  refine y_calli (va_runV (As := []) (rest := []) ⟨hx, hb, hml, hown, hts⟩ (k_X2_cutLoops l D G h0 (up2 c 20 4 b) r o (IC_obj hI (Or.inr (Or.inl ⟨rfl, by omega⟩))) hW5) (cwV 0 hts gX2_begin_X2_cutLoops rfl rfl rfl (by decide +kernel) ⟨Nat.le_of_ble_eq_true rfl, Nat.le_of_ble_eq_true rfl⟩) ⟨fun a U g mk q => ⟨q.1, Pr_cg q.2⟩, va_recv (ci := 3) (q0 := 0) hK hP rfl (Q_o hRc), fun U hU hW => ⟨rfl, Pr_mk hE hRc hRr hRo hP hD hS hU hW⟩⟩ rfl rfl hl.1 rfl (lv_room (Nat.le_of_ble_eq_true rfl)) dX2_begin_18 ⟨Nat.le_of_ble_eq_true rfl, Nat.le_of_ble_eq_true rfl⟩) hS (fun v9 _ H locs wl hv9 hRc hRr hRo hP hD hS => ?_)
  refine n_top (y := .int (nI ((cutC (up2 c 20 4 b)).2))) (congrArg Value.int hv9) ?_
  clear hv9 v9
  refine lv_istore_n (lv' := [(2, .int (nI ((cutC (up2 c 20 4 b)).2))), (0, .ref (G 0)), (1, .int (nI b))]) hx hb dX2_begin_21 rfl hl (by decide) rfl (fun ls hl => ?_)
  refine lv_aload_n hx hb dX2_begin_22 rfl (lv_at hl 1 rfl) ?_
  refine lv_iconst (v := nI 0) hx hb dX2_begin_23 (by decide) ?_
  refine x_put (D := D) (G := G) (ci := 3) (ty := .int) (C := RX2) (T := TX2) (N := 7) (Z := fun wl => Rc G (up2 ((cutC (up2 c 20 4 b)).1) 20 5 0) wl ∧ Rr G r wl ∧ Ro G o wl) hx hb hts inX2 tyX2 tyX2_ok nmX2 hown hK hP hD hS 0 (Q_o hRc) rfl 5 (by decide) (hts (.fieldLink RX2 33 "BootStage" "total" "I") (by decide +kernel)) (fun _ h9 => h9) rfl (by decide +kernel) rfl rfl (Nat.le_of_ble_eq_true rfl) dX2_begin_24 ⟨P_o5 0 hRc, Rr_fr hRr (by decide), Ro_fr hRo (by decide)⟩ (fun H locs wl hZ hP hD hS => ?_)
  obtain ⟨hRc, hRr, hRo⟩ := hZ
  refine lv_iconst (v := nI 0) hx hb dX2_begin_27 (by decide) ?_
  refine lv_istore_n (lv' := [(3, .int (nI 0)), (2, .int (nI ((cutC (up2 c 20 4 b)).2))), (0, .ref (G 0)), (1, .int (nI b))]) hx hb dX2_begin_28 rfl hl (by decide) rfl (fun ls hl => ?_)
  have L29 : ∀ (d i : Nat), c 20 1 - i < d → i ≤ c 20 1 → ∀ (c1 : Nat → Nat → Nat), (c1 = c_bgI (c_bg0 c b) i) → ∀ (H : Heap) (locs : List Loc) (wl : va_W) (ls : Array Slot), Rc G c1 wl → Rr G r wl → Ro G o wl → va_P D vwCl wl H → va_D (fun q => h0 ≤ q) wl → va_S (fun q => h0 ≤ q) s.heap H locs → lv_has ls 4 [(3, .int (nI i)), (2, .int (nI ((cutC (up2 c 20 4 b)).2))), (0, .ref (G 0))] → W p l e (headSpec wsX2_begin ({ frames := 5, cells := 0, slots := 0, locals := 110 } : Room)).room s m ([.ref (G 0), .int (nI b)] : List Value).toArray below meth cd H locs 0 0 Q (F0 m 29 ls []) := by
    intro d29
    induction d29 with
    | zero => intro i hd; exact absurd hd (Nat.not_lt_zero _)
    | succ d29 ih29 =>
      intro i hd hi c1  hc1 H locs wl ls hRc hRr hRo hP hD hS hl
      have h01 : (c_bg0 c b) 20 1 = c 20 1 := (up2_i (by decide)).trans ((cutC_n _ 20 1 (by decide)).trans (up2_i (by decide)))
      have hI1 : IC c1 := by rw [hc1]; exact (IC_bgI (IC_bg0 hI (by omega)) (up2_s ..) i (by omega)).1
      have hB1 := IC_B hI1
      have hn1 := IC_n hI1
      have hk1 : c1 20 1 = c 20 1 := by rw [hc1]; exact (bgI_n (c_bg0 c b) 20 1 (by omega) i).trans h01
      refine lv_iload_n hx hb dX2_begin_29 rfl (lv_at hl 0 rfl) ?_
      refine lv_aload_n hx hb dX2_begin_30 rfl (lv_at hl 2 rfl) ?_
      refine va_get (D := D) (ci := 3) (v := .int (nI (c1 20 1))) (C := RX2) (T := TX2) (N := 7) hx hb hts inX2 hown hK hP 0 (Q_o hRc) rfl 1 (by decide) (hts (.fieldLink RX2 15 "BootStage" "count" "I") (by decide +kernel)) (fun _ h9 => h9) rfl dX2_begin_31 ?_
      refine n_icmp_ge (tgt := 61) hx hb dX2_begin_34 (by decide) (by omega) (hB1 _ _ (by decide)) (fun c_34 => ?_) (fun c_34 => ?_)
      · have hIN : IC (up2 (up2 c1 20 3 1) 20 6 0) := by have h9 := IC_bgN (b := b) hI (by omega); rw [h01, show c 20 1 = i by omega, ← hc1] at h9; exact h9
        refine lv_aload_n hx hb dX2_begin_61 rfl (lv_at hl 2 rfl) ?_
        refine lv_iconst (v := nI 1) hx hb dX2_begin_62 (by decide) ?_
        refine x_put (D := D) (G := G) (ci := 3) (ty := .boolean) (C := RX2) (T := TX2) (N := 7) (Z := fun wl => Rc G (up2 c1 20 3 1) wl ∧ Rr G r wl ∧ Ro G o wl) hx hb hts inX2 tyX2 tyX2_ok nmX2 hown hK hP hD hS 0 (Q_o hRc) rfl 3 (by decide) (hts (.fieldLink RX2 26 "BootStage" "isGoingOn" "Z") (by decide +kernel)) (fun _ h9 => h9) rfl (by decide +kernel) (nb_le (by first | exact bN_le _ | decide | omega | assumption)) (nb_ft (by first | exact bN_le _ | decide | omega | assumption)) (Nat.le_of_ble_eq_true rfl) dX2_begin_63 ⟨P_o3 1 hRc, Rr_fr hRr (by decide), Ro_fr hRo (by decide)⟩ (fun H locs wl hZ hP hD hS => ?_)
        obtain ⟨hRc, hRr, hRo⟩ := hZ
        refine lv_aload_n hx hb dX2_begin_66 rfl (lv_at hl 2 rfl) ?_
        refine lv_iconst (v := nI 0) hx hb dX2_begin_67 (by decide) ?_
        refine x_put (D := D) (G := G) (ci := 3) (ty := .int) (C := RX2) (T := TX2) (N := 7) (Z := fun wl => Rc G (up2 (up2 c1 20 3 1) 20 6 0) wl ∧ Rr G r wl ∧ Ro G o wl) hx hb hts inX2 tyX2 tyX2_ok nmX2 hown hK hP hD hS 0 (Q_o hRc) rfl 6 (by decide) (hts (.fieldLink RX2 36 "BootStage" "reachedBar" "I") (by decide +kernel)) (fun _ h9 => h9) rfl (by decide +kernel) rfl rfl (Nat.le_of_ble_eq_true rfl) dX2_begin_68 ⟨P_o6 0 hRc, Rr_fr hRr (by decide), Ro_fr hRo (by decide)⟩ (fun H locs wl hZ hP hD hS => ?_)
        obtain ⟨hRc, hRr, hRo⟩ := hZ
        refine lv_aload_n hx hb dX2_begin_71 rfl (lv_at hl 2 rfl) ?_
        refine y_callv (va_runV (As := []) (rest := []) ⟨hx, hb, hml, hown, hts⟩ (k_X2_raiseBar l D G h0 (up2 (up2 c1 20 3 1) 20 6 0) r o hIN) (cwV 0 hts gX2_begin_X2_raiseBar rfl rfl rfl (by decide +kernel) ⟨Nat.le_of_ble_eq_true rfl, Nat.le_of_ble_eq_true rfl⟩) ⟨fun a U g mk q => ⟨q.1, Pr_cg q.2⟩, va_recv (ci := 3) (q0 := 0) hK hP rfl (Q_o hRc), fun U hU hW => ⟨rfl, Pr_mk hE hRc hRr hRo hP hD hS hU hW⟩⟩ rfl rfl hl.1 rfl (lv_room (Nat.le_of_ble_eq_true rfl)) dX2_begin_72 ⟨Nat.le_of_ble_eq_true rfl, Nat.le_of_ble_eq_true rfl⟩) hS (fun _ H locs wl _ hRc hRr hRo hP hD hS => ?_)
        refine lv_iload_n hx hb dX2_begin_75 rfl (lv_at hl 1 rfl) ?_
        rw [hQ]
        exact W.iret (v := nI ((cutC (up2 c 20 4 b)).2)) hx hb hr (fun t ht hW => ⟨⟨_, (), rfl, (show nI ((cutC (up2 c 20 4 b)).2) = nI (cutC (up2 c 20 4 b)).2 from by first | rfl | (apply congrArg nI; omega) | exact congrArg nI (bN_t (by omega)).symm | exact congrArg nI (bN_f (by omega)).symm), Wr_mk (show Rc G (c_begin c b) wl from by rw [show (c_begin c b) = c_bar (up2 (up2 c1 20 3 1) 20 6 0) from by unfold c_begin; rw [h01, show c 20 1 = i by omega, ← hc1]]; exact hRc) hRr hRo hP hD ht⟩, hS.F ht⟩) hS.2.2 dX2_begin_76
      · refine lv_aload_n hx hb dX2_begin_37 rfl (lv_at hl 2 rfl) ?_
        refine lv_dup hx hb dX2_begin_38 rfl ?_
        refine va_get (D := D) (ci := 3) (v := .int (nI (c1 20 5))) (C := RX2) (T := TX2) (N := 7) hx hb hts inX2 hown hK hP 0 (Q_o hRc) rfl 5 (by decide) (hts (.fieldLink RX2 33 "BootStage" "total" "I") (by decide +kernel)) (fun _ h9 => h9) rfl dX2_begin_39 ?_
        refine lv_aload_n hx hb dX2_begin_42 rfl (lv_at hl 2 rfl) ?_
        refine va_get (D := D) (ci := 3) (v := .ref (G 1)) (C := RX2) (T := TX2) (N := 7) hx hb hts inX2 hown hK hP 0 (Q_o hRc) rfl 0 (by decide) (hts (.fieldLink RX2 11 "BootStage" "rows" "[LBootStage$Unit;") (by decide +kernel)) (fun _ h9 => h9) rfl dX2_begin_43 ?_
        refine lv_iload_n hx hb dX2_begin_46 rfl (lv_at hl 0 rfl) ?_
        refine x_row hx hb hK hP hRc (by first | omega | decide | assumption) dX2_begin_47 ?_
        refine y_calli (va_runV (As := []) (rest := [.int (nI (c1 20 5)), .ref (G 0)]) ⟨hx, hb, hml, hown, hts⟩ (k_X0_resetForStart l D G h0 c1 r o i (by first | omega | assumption) hB1) (cwV 0 hts gX2_begin_X0_resetForStart rfl rfl rfl (by decide +kernel) ⟨Nat.le_of_ble_eq_true rfl, Nat.le_of_ble_eq_true rfl⟩) ⟨fun a U g mk q => ⟨q.1, Pr_cg q.2⟩, va_recv (ci := 1) (q0 := 7 + i) hK hP rfl (Q_u hRc (by first | omega | decide | assumption)), fun U hU hW => ⟨rfl, Pr_mk hE hRc hRr hRo hP hD hS hU hW⟩⟩ rfl rfl hl.1 rfl (lv_room (Nat.le_of_ble_eq_true rfl)) dX2_begin_48 ⟨Nat.le_of_ble_eq_true rfl, Nat.le_of_ble_eq_true rfl⟩) hS (fun v9 _ H locs wl hv9 hRc hRr hRo hP hD hS => ?_)
        refine n_top (y := .int (nI (if c1 5 i = 0 then c1 3 i else 0))) (congrArg Value.int hv9) ?_
        clear hv9 v9
        refine n_iadd hx hb dX2_begin_51 ?_
        refine x_put (D := D) (G := G) (ci := 3) (ty := .int) (C := RX2) (T := TX2) (N := 7) (Z := fun wl => Rc G (up2 (c_reset c1 i) 20 5 ((c1 20 5) + (if c1 5 i = 0 then c1 3 i else 0))) wl ∧ Rr G r wl ∧ Ro G o wl) hx hb hts inX2 tyX2 tyX2_ok nmX2 hown hK hP hD hS 0 (Q_o hRc) rfl 5 (by decide) (hts (.fieldLink RX2 33 "BootStage" "total" "I") (by decide +kernel)) (fun _ h9 => h9) rfl (by decide +kernel) rfl rfl (Nat.le_of_ble_eq_true rfl) dX2_begin_52 ⟨P_o5 ((c1 20 5) + (if c1 5 i = 0 then c1 3 i else 0)) hRc, Rr_fr hRr (by decide), Ro_fr hRo (by decide)⟩ (fun H locs wl hZ hP hD hS => ?_)
        obtain ⟨hRc, hRr, hRo⟩ := hZ
        refine lv_iinc (v := nI (i + 1)) (lv' := [(3, .int (nI (i + 1))), (2, .int (nI ((cutC (up2 c 20 4 b)).2))), (0, .ref (G 0))]) hx hb dX2_begin_55 hl (k := 0) rfl (nI_add i 1) (by decide) rfl (fun ls hl => ?_)
        refine lv_goto (tgt := 29) hx hb dX2_begin_58 (by decide) ?_
        exact ih29 (i + 1) (by omega) (by omega) (up2 (c_reset c1 i) 20 5 ((c1 20 5) + (if c1 5 i = 0 then c1 3 i else 0))) (by show _ = c_bg1 (c_bgI (c_bg0 c b) i) i; rw [← hc1]; rfl) _ _ _ _ hRc hRr hRo hP hD hS (lv_sub hl [0, 1, 2] rfl)
  exact L29 _ 0 (Nat.lt_succ_self _) (by omega) (up2 ((cutC (up2 c 20 4 b)).1) 20 5 0) (by rfl) _ _ _ _ hRc hRr hRo hP hD hS (lv_sub hl [0, 1, 2] rfl)
