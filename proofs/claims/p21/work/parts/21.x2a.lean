set_option maxHeartbeats 4000000 in
set_option maxRecDepth 100000 in
theorem k_X2_contains (l : Launch) (D : va_G) (G : Nat → Nat) (h0 : Nat) (c r : Nat → Nat → Nat) (o : Nat) (f u : Nat) (hu : u < 20) : Met l yX2_contains wsX2_contains ({ frames := 1, cells := 0, slots := 0, locals := 20 } : Room) (va_Pc [.ref (G 0), .int (nI f), .ref (G (20 + u))] (fun U => Pr D G h0 c r o U)) (va_Qi (fun (v9 : Int32) (_ : Unit) => v9 = nI (bN (f.testBit u = true))) (fun _ t => Wr D G h0 c r o t) (fun q => h0 ≤ q)) 0 0 (fun q => h0 ≤ q) := by
  refine Met.ofW (cc := cX2_contains) (maxL := 3) (ret := (some .boolean)) (by decide) rfl ?_
  intro p e s m args below meth cd s₁ B hml hv
  obtain ⟨rfl, hE, wl, hRc, hRr, hRo, hP, hD⟩ := hv
  have hx := B.exec
  have hb := B.bytes
  have hr := B.returns
  have hts := atoms_spec (ws := wsX2_contains) B.pre
  have hown : s.vm.findClass RX2 = some m.cls := findClass_of_methodNamed B.named
  have hlocks := B.notSynchronized
  have hK := hE.2.1
  have hS : va_S (fun q => h0 ≤ q) s.heap s.heap [] := va_S.rf
  have hl := lv_entry ([.ref (G 0), .int (nI f), .ref (G (20 + u))]) (n := 3) (Nat.le_of_ble_eq_true rfl)
  rw [lg_entry_eq]
  generalize (lg_sl ([.ref (G 0), .int (nI f), .ref (G (20 + u))]) ++ List.replicate (3 - (lg_sl ([.ref (G 0), .int (nI f), .ref (G (20 + u))])).length) Slot.unset).toArray = ls at hl ⊢
  have hl : lv_has ls 3 [(0, .ref (G 0)), (1, .int (nI f)), (2, .ref (G (20 + u)))] := hl
  refine lv_iload_n hx hb dX2_contains_0 rfl (lv_at hl 1 rfl) ?_
  refine lv_aload_n hx hb dX2_contains_1 rfl (lv_at hl 2 rfl) ?_
  refine y_calli (va_runV (As := []) (rest := [.int (nI f)]) ⟨hx, hb, hml, hown, hts⟩ (k_X0_bit l D G h0 c r o u (by first | omega | assumption)) (cwV 0 hts gX2_contains_X0_bit rfl rfl rfl (by decide +kernel) ⟨Nat.le_of_ble_eq_true rfl, Nat.le_of_ble_eq_true rfl⟩) ⟨fun a U g mk q => ⟨q.1, Pr_cg q.2⟩, va_recv (ci := 1) (q0 := 7 + u) hK hP rfl (Q_u hRc (by first | omega | decide | assumption)), fun U hU hW => ⟨rfl, Pr_mk hE hRc hRr hRo hP hD hS hU hW⟩⟩ rfl rfl hl.1 rfl (lv_room (Nat.le_of_ble_eq_true rfl)) dX2_contains_2 ⟨Nat.le_of_ble_eq_true rfl, Nat.le_of_ble_eq_true rfl⟩) hS (fun v9 _ H locs wl hv9 hRc hRr hRo hP hD hS => ?_)
  refine n_top (y := .int (nI (2 ^ u))) (congrArg Value.int hv9) ?_
  clear hv9 v9
  refine n_iand hx hb dX2_contains_5 ?_
  refine n_if_eq (tgt := 13) hx hb dX2_contains_6 (by decide) (Nat.lt_of_le_of_lt Nat.and_le_right (Nat.pow_lt_pow_right (by decide) (by omega))) (fun c_6 => ?_) (fun c_6 => ?_)
  · refine lv_iconst (v := nI 0) hx hb dX2_contains_13 (by decide) ?_
    exact W.zret (v := nI 0) (ty := .boolean) hx hb hr (nb_le (by first | exact bN_le _ | decide | omega | assumption)) (fun t ht hW => ⟨⟨_, (), rfl, (show nI 0 = nI (bN (f.testBit u = true)) from by exact congrArg nI (bN_f (and_bit.mp c_6)).symm), Wr_mk hRc hRr hRo hP hD ht⟩, hS.F ht⟩) hS.2.2 dX2_contains_14
  · refine lv_iconst (v := nI 1) hx hb dX2_contains_9 (by decide) ?_
    refine lv_goto (tgt := 14) hx hb dX2_contains_10 (by decide) ?_
    exact W.zret (v := nI 1) (ty := .boolean) hx hb hr (nb_le (by first | exact bN_le _ | decide | omega | assumption)) (fun t ht hW => ⟨⟨_, (), rfl, (show nI 1 = nI (bN (f.testBit u = true)) from by exact congrArg nI (bN_t (Classical.byContradiction (fun z => absurd (and_bit.mpr z) (by omega)))).symm), Wr_mk hRc hRr hRo hP hD ht⟩, hS.F ht⟩) hS.2.2 dX2_contains_14
set_option maxHeartbeats 4000000 in
set_option maxRecDepth 100000 in
theorem k_X2_countStarting (l : Launch) (D : va_G) (G : Nat → Nat) (h0 : Nat) (c r : Nat → Nat → Nat) (o : Nat) (hI : IC c) : Met l yX2_countStarting wsX2_countStarting ({ frames := 0, cells := 0, slots := 0, locals := 0 } : Room) (va_Pc [.ref (G 0)] (fun U => Pr D G h0 c r o U)) (va_Qi (fun (v9 : Int32) (_ : Unit) => v9 = nI (ct (fun w => c 9 w = 1) (c 20 1))) (fun _ t => Wr D G h0 c r o t) (fun q => h0 ≤ q)) 0 0 (fun q => h0 ≤ q) := by
  refine Met.ofW (cc := cX2_countStarting) (maxL := 3) (ret := (some .int)) (by decide) rfl ?_
  intro p e s m args below meth cd s₁ B hml hv
  obtain ⟨rfl, hE, wl, hRc, hRr, hRo, hP, hD⟩ := hv
  have hx := B.exec
  have hb := B.bytes
  have hr := B.returns
  have hts := atoms_spec (ws := wsX2_countStarting) B.pre
  have hown : s.vm.findClass RX2 = some m.cls := findClass_of_methodNamed B.named
  have hlocks := B.notSynchronized
  have hK := hE.2.1
  have hS : va_S (fun q => h0 ≤ q) s.heap s.heap [] := va_S.rf
  have hl := lv_entry ([.ref (G 0)]) (n := 3) (Nat.le_of_ble_eq_true rfl)
  rw [lg_entry_eq]
  generalize (lg_sl ([.ref (G 0)]) ++ List.replicate (3 - (lg_sl ([.ref (G 0)])).length) Slot.unset).toArray = ls at hl ⊢
  have hl : lv_has ls 3 [(0, .ref (G 0))] := hl
  have inX0 : ∀ w ∈ wsX00, w ∈ wsX2_countStarting := by decide +kernel
  have inX2 : ∀ w ∈ wsX20, w ∈ wsX2_countStarting := by decide +kernel
  obtain ⟨Q, hQ⟩ : ∃ Q, Q = MQ below (va_Qi (fun (v9 : Int32) (_ : Unit) => v9 = nI (ct (fun w => c 9 w = 1) (c 20 1))) (fun _ t => Wr D G h0 c r o t) (fun q => h0 ≤ q)) ([.ref (G 0)] : List Value).toArray s 0 0 (fun q => h0 ≤ q) := ⟨_, rfl⟩
  rw [← hQ]
  have hB := IC_B hI
  have hn := IC_n hI
  have hs := IC_s hI
  refine lv_iconst (v := nI 0) hx hb dX2_countStarting_0 (by decide) ?_
  refine lv_istore_n (lv' := [(1, .int (nI 0)), (0, .ref (G 0))]) hx hb dX2_countStarting_1 rfl hl (by decide) rfl (fun ls hl => ?_)
  refine lv_iconst (v := nI 0) hx hb dX2_countStarting_2 (by decide) ?_
  refine lv_istore_n (lv' := [(2, .int (nI 0)), (1, .int (nI 0)), (0, .ref (G 0))]) hx hb dX2_countStarting_3 rfl hl (by decide) rfl (fun ls hl => ?_)
  have L4 : ∀ (d i : Nat), c 20 1 - i < d → i ≤ c 20 1 → ∀ (H : Heap) (locs : List Loc) (wl : va_W) (ls : Array Slot), Rc G c wl → Rr G r wl → Ro G o wl → va_P D vwCl wl H → va_D (fun q => h0 ≤ q) wl → va_S (fun q => h0 ≤ q) s.heap H locs → lv_has ls 3 [(2, .int (nI i)), (1, .int (nI (ct (fun w => c 9 w = 1) i))), (0, .ref (G 0))] → W p l e (headSpec wsX2_countStarting ({ frames := 0, cells := 0, slots := 0, locals := 0 } : Room)).room s m ([.ref (G 0)] : List Value).toArray below meth cd H locs 0 0 Q (F0 m 4 ls []) := by
    intro d4
    induction d4 with
    | zero => intro i hd; exact absurd hd (Nat.not_lt_zero _)
    | succ d4 ih4 =>
      intro i hd hi  H locs wl ls hRc hRr hRo hP hD hS hl
      refine lv_iload_n hx hb dX2_countStarting_4 rfl (lv_at hl 0 rfl) ?_
      refine lv_aload_n hx hb dX2_countStarting_5 rfl (lv_at hl 2 rfl) ?_
      refine va_get (D := D) (ci := 3) (v := .int (nI (c 20 1))) (C := RX2) (T := TX2) (N := 7) hx hb hts inX2 hown hK hP 0 (Q_o hRc) rfl 1 (by decide) (hts (.fieldLink RX2 15 "BootStage" "count" "I") (by decide +kernel)) (fun _ h9 => h9) rfl dX2_countStarting_6 ?_
      refine n_icmp_ge (tgt := 39) hx hb dX2_countStarting_9 (by decide) (by omega) (hB _ _ (by decide)) (fun c_9 => ?_) (fun c_9 => ?_)
      · refine lv_iload_n hx hb dX2_countStarting_39 rfl (lv_at hl 1 rfl) ?_
        rw [hQ]
        exact W.iret (v := nI (ct (fun w => c 9 w = 1) i)) hx hb hr (fun t ht hW => ⟨⟨_, (), rfl, (show nI (ct (fun w => c 9 w = 1) i) = nI (ct (fun w => c 9 w = 1) (c 20 1)) from by rw [show i = c 20 1 by omega]), Wr_mk hRc hRr hRo hP hD ht⟩, hS.F ht⟩) hS.2.2 dX2_countStarting_40
      · refine lv_iload_n hx hb dX2_countStarting_12 rfl (lv_at hl 1 rfl) ?_
        refine lv_aload_n hx hb dX2_countStarting_13 rfl (lv_at hl 2 rfl) ?_
        refine va_get (D := D) (ci := 3) (v := .ref (G 1)) (C := RX2) (T := TX2) (N := 7) hx hb hts inX2 hown hK hP 0 (Q_o hRc) rfl 0 (by decide) (hts (.fieldLink RX2 11 "BootStage" "rows" "[LBootStage$Unit;") (by decide +kernel)) (fun _ h9 => h9) rfl dX2_countStarting_14 ?_
        refine lv_iload_n hx hb dX2_countStarting_17 rfl (lv_at hl 0 rfl) ?_
        refine x_row hx hb hK hP hRc (by first | omega | decide | assumption) dX2_countStarting_18 ?_
        refine va_get (D := D) (ci := 1) (v := .int (nI (c 9 i))) (C := RX0) (T := TX0) (N := 13) hx hb hts inX0 hown hK hP (7 + i) (Q_u hRc (by first | omega | decide | assumption)) rfl 9 (by decide) (hts (.fieldLink RX2 136 "BootStage$Unit" "state" "I") (by decide +kernel)) (fun _ h9 => h9) rfl dX2_countStarting_19 ?_
        refine lv_iconst (v := nI 1) hx hb dX2_countStarting_22 (by decide) ?_
        refine n_icmp_ne (tgt := 30) hx hb dX2_countStarting_23 (by decide) (hB _ _ (by decide)) (by decide) (fun c_23 => ?_) (fun c_23 => ?_)
        · refine lv_iconst (v := nI 0) hx hb dX2_countStarting_30 (by decide) ?_
          refine n_iadd hx hb dX2_countStarting_31 ?_
          refine lv_istore_n (lv' := [(1, .int (nI ((ct (fun w => c 9 w = 1) i) + 0))), (2, .int (nI i)), (0, .ref (G 0))]) hx hb dX2_countStarting_32 rfl hl (by decide) rfl (fun ls hl => ?_)
          refine lv_iinc (v := nI (i + 1)) (lv' := [(2, .int (nI (i + 1))), (1, .int (nI ((ct (fun w => c 9 w = 1) i) + 0))), (0, .ref (G 0))]) hx hb dX2_countStarting_33 hl (k := 1) rfl (nI_add i 1) (by decide) rfl (fun ls hl => ?_)
          refine lv_goto (tgt := 4) hx hb dX2_countStarting_36 (by decide) ?_
          exact ih4 (i + 1) (by omega) (by omega)   _ _ _ _ hRc hRr hRo hP hD hS (show lv_has ls 3 [(2, .int (nI (i + 1))), (1, .int (nI (ct (fun w => c 9 w = 1) (i + 1)))), (0, .ref (G 0))] from by rw [show ((.int (nI (ct (fun w => c 9 w = 1) (i + 1))) : Value)) = .int (nI ((ct (fun w => c 9 w = 1) i) + 0)) from by first | exact congrArg (fun z => Value.int (nI z)) (ct_t (by assumption)) | exact congrArg (fun z => Value.int (nI z)) (ct_f (by assumption))]; exact lv_sub hl [0, 1, 2] rfl)
        · refine lv_iconst (v := nI 1) hx hb dX2_countStarting_26 (by decide) ?_
          refine lv_goto (tgt := 31) hx hb dX2_countStarting_27 (by decide) ?_
          refine n_iadd hx hb dX2_countStarting_31 ?_
          refine lv_istore_n (lv' := [(1, .int (nI ((ct (fun w => c 9 w = 1) i) + 1))), (2, .int (nI i)), (0, .ref (G 0))]) hx hb dX2_countStarting_32 rfl hl (by decide) rfl (fun ls hl => ?_)
          refine lv_iinc (v := nI (i + 1)) (lv' := [(2, .int (nI (i + 1))), (1, .int (nI ((ct (fun w => c 9 w = 1) i) + 1))), (0, .ref (G 0))]) hx hb dX2_countStarting_33 hl (k := 1) rfl (nI_add i 1) (by decide) rfl (fun ls hl => ?_)
          refine lv_goto (tgt := 4) hx hb dX2_countStarting_36 (by decide) ?_
          exact ih4 (i + 1) (by omega) (by omega)   _ _ _ _ hRc hRr hRo hP hD hS (show lv_has ls 3 [(2, .int (nI (i + 1))), (1, .int (nI (ct (fun w => c 9 w = 1) (i + 1)))), (0, .ref (G 0))] from by rw [show ((.int (nI (ct (fun w => c 9 w = 1) (i + 1))) : Value)) = .int (nI ((ct (fun w => c 9 w = 1) i) + 1)) from by first | exact congrArg (fun z => Value.int (nI z)) (ct_t (by assumption)) | exact congrArg (fun z => Value.int (nI z)) (ct_f (by assumption))]; exact lv_sub hl [0, 1, 2] rfl)
  exact L4 _ 0 (Nat.lt_succ_self _) (by omega)   _ _ _ _ hRc hRr hRo hP hD hS (show lv_has ls 3 [(2, .int (nI 0)), (1, .int (nI (ct (fun w => c 9 w = 1) 0))), (0, .ref (G 0))] from by rw [show ((.int (nI (ct (fun w => c 9 w = 1) 0)) : Value)) = .int (nI 0) from by rfl]; exact lv_sub hl [0, 1, 2] rfl)
set_option maxHeartbeats 4000000 in
set_option maxRecDepth 100000 in
theorem k_X2_metNeeds (l : Launch) (D : va_G) (G : Nat → Nat) (h0 : Nat) (c r : Nat → Nat → Nat) (o : Nat) (hI : IC c) : Met l yX2_metNeeds wsX2_metNeeds ({ frames := 2, cells := 0, slots := 0, locals := 40 } : Room) (va_Pc [.ref (G 0)] (fun U => Pr D G h0 c r o U)) (va_Qi (fun (v9 : Int32) (_ : Unit) => v9 = nI (mk (metP (c 9) (c 6)) (c 20 1))) (fun _ t => Wr D G h0 c r o t) (fun q => h0 ≤ q)) 0 0 (fun q => h0 ≤ q) := by
  refine Met.ofW (cc := cX2_metNeeds) (maxL := 3) (ret := (some .int)) (by decide) rfl ?_
  intro p e s m args below meth cd s₁ B hml hv
  obtain ⟨rfl, hE, wl, hRc, hRr, hRo, hP, hD⟩ := hv
  have hx := B.exec
  have hb := B.bytes
  have hr := B.returns
  have hts := atoms_spec (ws := wsX2_metNeeds) B.pre
  have hown : s.vm.findClass RX2 = some m.cls := findClass_of_methodNamed B.named
  have hlocks := B.notSynchronized
  have hK := hE.2.1
  have hS : va_S (fun q => h0 ≤ q) s.heap s.heap [] := va_S.rf
  have hl := lv_entry ([.ref (G 0)]) (n := 3) (Nat.le_of_ble_eq_true rfl)
  rw [lg_entry_eq]
  generalize (lg_sl ([.ref (G 0)]) ++ List.replicate (3 - (lg_sl ([.ref (G 0)])).length) Slot.unset).toArray = ls at hl ⊢
  have hl : lv_has ls 3 [(0, .ref (G 0))] := hl
  have inX2 : ∀ w ∈ wsX20, w ∈ wsX2_metNeeds := by decide +kernel
  obtain ⟨Q, hQ⟩ : ∃ Q, Q = MQ below (va_Qi (fun (v9 : Int32) (_ : Unit) => v9 = nI (mk (metP (c 9) (c 6)) (c 20 1))) (fun _ t => Wr D G h0 c r o t) (fun q => h0 ≤ q)) ([.ref (G 0)] : List Value).toArray s 0 0 (fun q => h0 ≤ q) := ⟨_, rfl⟩
  rw [← hQ]
  have hB := IC_B hI
  have hn := IC_n hI
  have hs := IC_s hI
  refine lv_iconst (v := nI 0) hx hb dX2_metNeeds_0 (by decide) ?_
  refine lv_istore_n (lv' := [(1, .int (nI 0)), (0, .ref (G 0))]) hx hb dX2_metNeeds_1 rfl hl (by decide) rfl (fun ls hl => ?_)
  refine lv_iconst (v := nI 0) hx hb dX2_metNeeds_2 (by decide) ?_
  refine lv_istore_n (lv' := [(2, .int (nI 0)), (1, .int (nI 0)), (0, .ref (G 0))]) hx hb dX2_metNeeds_3 rfl hl (by decide) rfl (fun ls hl => ?_)
  have L4 : ∀ (d i : Nat), c 20 1 - i < d → i ≤ c 20 1 → ∀ (H : Heap) (locs : List Loc) (wl : va_W) (ls : Array Slot), Rc G c wl → Rr G r wl → Ro G o wl → va_P D vwCl wl H → va_D (fun q => h0 ≤ q) wl → va_S (fun q => h0 ≤ q) s.heap H locs → lv_has ls 3 [(2, .int (nI i)), (1, .int (nI (mk (metP (c 9) (c 6)) i))), (0, .ref (G 0))] → W p l e (headSpec wsX2_metNeeds ({ frames := 2, cells := 0, slots := 0, locals := 40 } : Room)).room s m ([.ref (G 0)] : List Value).toArray below meth cd H locs 0 0 Q (F0 m 4 ls []) := by
    intro d4
    induction d4 with
    | zero => intro i hd; exact absurd hd (Nat.not_lt_zero _)
    | succ d4 ih4 =>
      intro i hd hi  H locs wl ls hRc hRr hRo hP hD hS hl
      refine lv_iload_n hx hb dX2_metNeeds_4 rfl (lv_at hl 0 rfl) ?_
      refine lv_aload_n hx hb dX2_metNeeds_5 rfl (lv_at hl 2 rfl) ?_
      refine va_get (D := D) (ci := 3) (v := .int (nI (c 20 1))) (C := RX2) (T := TX2) (N := 7) hx hb hts inX2 hown hK hP 0 (Q_o hRc) rfl 1 (by decide) (hts (.fieldLink RX2 15 "BootStage" "count" "I") (by decide +kernel)) (fun _ h9 => h9) rfl dX2_metNeeds_6 ?_
      refine n_icmp_ge (tgt := 46) hx hb dX2_metNeeds_9 (by decide) (by omega) (hB _ _ (by decide)) (fun c_9 => ?_) (fun c_9 => ?_)
      · refine lv_iload_n hx hb dX2_metNeeds_46 rfl (lv_at hl 1 rfl) ?_
        rw [hQ]
        exact W.iret (v := nI (mk (metP (c 9) (c 6)) i)) hx hb hr (fun t ht hW => ⟨⟨_, (), rfl, (show nI (mk (metP (c 9) (c 6)) i) = nI (mk (metP (c 9) (c 6)) (c 20 1)) from by rw [show i = c 20 1 by omega]), Wr_mk hRc hRr hRo hP hD ht⟩, hS.F ht⟩) hS.2.2 dX2_metNeeds_47
      · refine lv_iload_n hx hb dX2_metNeeds_12 rfl (lv_at hl 1 rfl) ?_
        refine lv_aload_n hx hb dX2_metNeeds_13 rfl (lv_at hl 2 rfl) ?_
        refine va_get (D := D) (ci := 3) (v := .ref (G 1)) (C := RX2) (T := TX2) (N := 7) hx hb hts inX2 hown hK hP 0 (Q_o hRc) rfl 0 (by decide) (hts (.fieldLink RX2 11 "BootStage" "rows" "[LBootStage$Unit;") (by decide +kernel)) (fun _ h9 => h9) rfl dX2_metNeeds_14 ?_
        refine lv_iload_n hx hb dX2_metNeeds_17 rfl (lv_at hl 0 rfl) ?_
        refine x_row hx hb hK hP hRc (by first | omega | decide | assumption) dX2_metNeeds_18 ?_
        refine y_calli (va_runV (As := []) (rest := [.int (nI (mk (metP (c 9) (c 6)) i))]) ⟨hx, hb, hml, hown, hts⟩ (k_X0_isNeedMet l D G h0 c r o i (by first | omega | assumption) hB hs) (cwV 0 hts gX2_metNeeds_X0_isNeedMet rfl rfl rfl (by decide +kernel) ⟨Nat.le_of_ble_eq_true rfl, Nat.le_of_ble_eq_true rfl⟩) ⟨fun a U g mk q => ⟨q.1, Pr_cg q.2⟩, va_recv (ci := 1) (q0 := 7 + i) hK hP rfl (Q_u hRc (by first | omega | decide | assumption)), fun U hU hW => ⟨rfl, Pr_mk hE hRc hRr hRo hP hD hS hU hW⟩⟩ rfl rfl hl.1 rfl (lv_room (Nat.le_of_ble_eq_true rfl)) dX2_metNeeds_19 ⟨Nat.le_of_ble_eq_true rfl, Nat.le_of_ble_eq_true rfl⟩) hS (fun v9 _ H locs wl hv9 hRc hRr hRo hP hD hS => ?_)
        refine n_top (y := .int (nI (bN (metP (c 9) (c 6) i)))) (congrArg Value.int hv9) ?_
        clear hv9 v9
        refine n_ifb_eq (tgt := 37) hx hb dX2_metNeeds_22 (by decide) (fun c_22 => ?_) (fun c_22 => ?_)
        · refine lv_iconst (v := nI 0) hx hb dX2_metNeeds_37 (by decide) ?_
          refine n_ior hx hb dX2_metNeeds_38 ?_
          refine lv_istore_n (lv' := [(1, .int (nI ((mk (metP (c 9) (c 6)) i) ||| 0))), (2, .int (nI i)), (0, .ref (G 0))]) hx hb dX2_metNeeds_39 rfl hl (by decide) rfl (fun ls hl => ?_)
          refine lv_iinc (v := nI (i + 1)) (lv' := [(2, .int (nI (i + 1))), (1, .int (nI ((mk (metP (c 9) (c 6)) i) ||| 0))), (0, .ref (G 0))]) hx hb dX2_metNeeds_40 hl (k := 1) rfl (nI_add i 1) (by decide) rfl (fun ls hl => ?_)
          refine lv_goto (tgt := 4) hx hb dX2_metNeeds_43 (by decide) ?_
          exact ih4 (i + 1) (by omega) (by omega)   _ _ _ _ hRc hRr hRo hP hD hS (show lv_has ls 3 [(2, .int (nI (i + 1))), (1, .int (nI (mk (metP (c 9) (c 6)) (i + 1)))), (0, .ref (G 0))] from by rw [show ((.int (nI (mk (metP (c 9) (c 6)) (i + 1))) : Value)) = .int (nI ((mk (metP (c 9) (c 6)) i) ||| 0)) from by first | exact congrArg (fun z => Value.int (nI z)) (mk_t (by assumption)) | exact congrArg (fun z => Value.int (nI z)) ((mk_f (by assumption)).trans (Nat.or_zero _).symm)]; exact lv_sub hl [0, 1, 2] rfl)
        · refine lv_aload_n hx hb dX2_metNeeds_25 rfl (lv_at hl 2 rfl) ?_
          refine va_get (D := D) (ci := 3) (v := .ref (G 1)) (C := RX2) (T := TX2) (N := 7) hx hb hts inX2 hown hK hP 0 (Q_o hRc) rfl 0 (by decide) (hts (.fieldLink RX2 11 "BootStage" "rows" "[LBootStage$Unit;") (by decide +kernel)) (fun _ h9 => h9) rfl dX2_metNeeds_26 ?_
          refine lv_iload_n hx hb dX2_metNeeds_29 rfl (lv_at hl 0 rfl) ?_
          refine x_row hx hb hK hP hRc (by first | omega | decide | assumption) dX2_metNeeds_30 ?_
          refine y_calli (va_runV (As := []) (rest := [.int (nI (mk (metP (c 9) (c 6)) i))]) ⟨hx, hb, hml, hown, hts⟩ (k_X0_bit l D G h0 c r o i (by first | omega | assumption)) (cwV 0 hts gX2_metNeeds_X0_bit rfl rfl rfl (by decide +kernel) ⟨Nat.le_of_ble_eq_true rfl, Nat.le_of_ble_eq_true rfl⟩) ⟨fun a U g mk q => ⟨q.1, Pr_cg q.2⟩, va_recv (ci := 1) (q0 := 7 + i) hK hP rfl (Q_u hRc (by first | omega | decide | assumption)), fun U hU hW => ⟨rfl, Pr_mk hE hRc hRr hRo hP hD hS hU hW⟩⟩ rfl rfl hl.1 rfl (lv_room (Nat.le_of_ble_eq_true rfl)) dX2_metNeeds_31 ⟨Nat.le_of_ble_eq_true rfl, Nat.le_of_ble_eq_true rfl⟩) hS (fun v9 _ H locs wl hv9 hRc hRr hRo hP hD hS => ?_)
          refine n_top (y := .int (nI (2 ^ i))) (congrArg Value.int hv9) ?_
          clear hv9 v9
          refine lv_goto (tgt := 38) hx hb dX2_metNeeds_34 (by decide) ?_
          refine n_ior hx hb dX2_metNeeds_38 ?_
          refine lv_istore_n (lv' := [(1, .int (nI ((mk (metP (c 9) (c 6)) i) ||| (2 ^ i)))), (2, .int (nI i)), (0, .ref (G 0))]) hx hb dX2_metNeeds_39 rfl hl (by decide) rfl (fun ls hl => ?_)
          refine lv_iinc (v := nI (i + 1)) (lv' := [(2, .int (nI (i + 1))), (1, .int (nI ((mk (metP (c 9) (c 6)) i) ||| (2 ^ i)))), (0, .ref (G 0))]) hx hb dX2_metNeeds_40 hl (k := 1) rfl (nI_add i 1) (by decide) rfl (fun ls hl => ?_)
          refine lv_goto (tgt := 4) hx hb dX2_metNeeds_43 (by decide) ?_
          exact ih4 (i + 1) (by omega) (by omega)   _ _ _ _ hRc hRr hRo hP hD hS (show lv_has ls 3 [(2, .int (nI (i + 1))), (1, .int (nI (mk (metP (c 9) (c 6)) (i + 1)))), (0, .ref (G 0))] from by rw [show ((.int (nI (mk (metP (c 9) (c 6)) (i + 1))) : Value)) = .int (nI ((mk (metP (c 9) (c 6)) i) ||| (2 ^ i))) from by first | exact congrArg (fun z => Value.int (nI z)) (mk_t (by assumption)) | exact congrArg (fun z => Value.int (nI z)) ((mk_f (by assumption)).trans (Nat.or_zero _).symm)]; exact lv_sub hl [0, 1, 2] rfl)
  exact L4 _ 0 (Nat.lt_succ_self _) (by omega)   _ _ _ _ hRc hRr hRo hP hD hS (show lv_has ls 3 [(2, .int (nI 0)), (1, .int (nI (mk (metP (c 9) (c 6)) 0))), (0, .ref (G 0))] from by rw [show ((.int (nI (mk (metP (c 9) (c 6)) 0)) : Value)) = .int (nI 0) from by rfl]; exact lv_sub hl [0, 1, 2] rfl)
set_option maxHeartbeats 4000000 in
set_option maxRecDepth 100000 in
theorem k_X2_lostNeeds (l : Launch) (D : va_G) (G : Nat → Nat) (h0 : Nat) (c r : Nat → Nat → Nat) (o : Nat) (hI : IC c) : Met l yX2_lostNeeds wsX2_lostNeeds ({ frames := 2, cells := 0, slots := 0, locals := 40 } : Room) (va_Pc [.ref (G 0)] (fun U => Pr D G h0 c r o U)) (va_Qi (fun (v9 : Int32) (_ : Unit) => v9 = nI (mk (lostP (c 9) (c 6)) (c 20 1))) (fun _ t => Wr D G h0 c r o t) (fun q => h0 ≤ q)) 0 0 (fun q => h0 ≤ q) := by
  refine Met.ofW (cc := cX2_lostNeeds) (maxL := 3) (ret := (some .int)) (by decide) rfl ?_
  intro p e s m args below meth cd s₁ B hml hv
  obtain ⟨rfl, hE, wl, hRc, hRr, hRo, hP, hD⟩ := hv
  have hx := B.exec
  have hb := B.bytes
  have hr := B.returns
  have hts := atoms_spec (ws := wsX2_lostNeeds) B.pre
  have hown : s.vm.findClass RX2 = some m.cls := findClass_of_methodNamed B.named
  have hlocks := B.notSynchronized
  have hK := hE.2.1
  have hS : va_S (fun q => h0 ≤ q) s.heap s.heap [] := va_S.rf
  have hl := lv_entry ([.ref (G 0)]) (n := 3) (Nat.le_of_ble_eq_true rfl)
  rw [lg_entry_eq]
  generalize (lg_sl ([.ref (G 0)]) ++ List.replicate (3 - (lg_sl ([.ref (G 0)])).length) Slot.unset).toArray = ls at hl ⊢
  have hl : lv_has ls 3 [(0, .ref (G 0))] := hl
  have inX2 : ∀ w ∈ wsX20, w ∈ wsX2_lostNeeds := by decide +kernel
  obtain ⟨Q, hQ⟩ : ∃ Q, Q = MQ below (va_Qi (fun (v9 : Int32) (_ : Unit) => v9 = nI (mk (lostP (c 9) (c 6)) (c 20 1))) (fun _ t => Wr D G h0 c r o t) (fun q => h0 ≤ q)) ([.ref (G 0)] : List Value).toArray s 0 0 (fun q => h0 ≤ q) := ⟨_, rfl⟩
  rw [← hQ]
  have hB := IC_B hI
  have hn := IC_n hI
  have hs := IC_s hI
  refine lv_iconst (v := nI 0) hx hb dX2_lostNeeds_0 (by decide) ?_
  refine lv_istore_n (lv' := [(1, .int (nI 0)), (0, .ref (G 0))]) hx hb dX2_lostNeeds_1 rfl hl (by decide) rfl (fun ls hl => ?_)
  refine lv_iconst (v := nI 0) hx hb dX2_lostNeeds_2 (by decide) ?_
  refine lv_istore_n (lv' := [(2, .int (nI 0)), (1, .int (nI 0)), (0, .ref (G 0))]) hx hb dX2_lostNeeds_3 rfl hl (by decide) rfl (fun ls hl => ?_)
  have L4 : ∀ (d i : Nat), c 20 1 - i < d → i ≤ c 20 1 → ∀ (H : Heap) (locs : List Loc) (wl : va_W) (ls : Array Slot), Rc G c wl → Rr G r wl → Ro G o wl → va_P D vwCl wl H → va_D (fun q => h0 ≤ q) wl → va_S (fun q => h0 ≤ q) s.heap H locs → lv_has ls 3 [(2, .int (nI i)), (1, .int (nI (mk (lostP (c 9) (c 6)) i))), (0, .ref (G 0))] → W p l e (headSpec wsX2_lostNeeds ({ frames := 2, cells := 0, slots := 0, locals := 40 } : Room)).room s m ([.ref (G 0)] : List Value).toArray below meth cd H locs 0 0 Q (F0 m 4 ls []) := by
    intro d4
    induction d4 with
    | zero => intro i hd; exact absurd hd (Nat.not_lt_zero _)
    | succ d4 ih4 =>
      intro i hd hi  H locs wl ls hRc hRr hRo hP hD hS hl
      refine lv_iload_n hx hb dX2_lostNeeds_4 rfl (lv_at hl 0 rfl) ?_
      refine lv_aload_n hx hb dX2_lostNeeds_5 rfl (lv_at hl 2 rfl) ?_
      refine va_get (D := D) (ci := 3) (v := .int (nI (c 20 1))) (C := RX2) (T := TX2) (N := 7) hx hb hts inX2 hown hK hP 0 (Q_o hRc) rfl 1 (by decide) (hts (.fieldLink RX2 15 "BootStage" "count" "I") (by decide +kernel)) (fun _ h9 => h9) rfl dX2_lostNeeds_6 ?_
      refine n_icmp_ge (tgt := 46) hx hb dX2_lostNeeds_9 (by decide) (by omega) (hB _ _ (by decide)) (fun c_9 => ?_) (fun c_9 => ?_)
      · refine lv_iload_n hx hb dX2_lostNeeds_46 rfl (lv_at hl 1 rfl) ?_
        rw [hQ]
        exact W.iret (v := nI (mk (lostP (c 9) (c 6)) i)) hx hb hr (fun t ht hW => ⟨⟨_, (), rfl, (show nI (mk (lostP (c 9) (c 6)) i) = nI (mk (lostP (c 9) (c 6)) (c 20 1)) from by rw [show i = c 20 1 by omega]), Wr_mk hRc hRr hRo hP hD ht⟩, hS.F ht⟩) hS.2.2 dX2_lostNeeds_47
      · refine lv_iload_n hx hb dX2_lostNeeds_12 rfl (lv_at hl 1 rfl) ?_
        refine lv_aload_n hx hb dX2_lostNeeds_13 rfl (lv_at hl 2 rfl) ?_
        refine va_get (D := D) (ci := 3) (v := .ref (G 1)) (C := RX2) (T := TX2) (N := 7) hx hb hts inX2 hown hK hP 0 (Q_o hRc) rfl 0 (by decide) (hts (.fieldLink RX2 11 "BootStage" "rows" "[LBootStage$Unit;") (by decide +kernel)) (fun _ h9 => h9) rfl dX2_lostNeeds_14 ?_
        refine lv_iload_n hx hb dX2_lostNeeds_17 rfl (lv_at hl 0 rfl) ?_
        refine x_row hx hb hK hP hRc (by first | omega | decide | assumption) dX2_lostNeeds_18 ?_
        refine y_calli (va_runV (As := []) (rest := [.int (nI (mk (lostP (c 9) (c 6)) i))]) ⟨hx, hb, hml, hown, hts⟩ (k_X0_isNeedLost l D G h0 c r o i (by first | omega | assumption) hB hs) (cwV 0 hts gX2_lostNeeds_X0_isNeedLost rfl rfl rfl (by decide +kernel) ⟨Nat.le_of_ble_eq_true rfl, Nat.le_of_ble_eq_true rfl⟩) ⟨fun a U g mk q => ⟨q.1, Pr_cg q.2⟩, va_recv (ci := 1) (q0 := 7 + i) hK hP rfl (Q_u hRc (by first | omega | decide | assumption)), fun U hU hW => ⟨rfl, Pr_mk hE hRc hRr hRo hP hD hS hU hW⟩⟩ rfl rfl hl.1 rfl (lv_room (Nat.le_of_ble_eq_true rfl)) dX2_lostNeeds_19 ⟨Nat.le_of_ble_eq_true rfl, Nat.le_of_ble_eq_true rfl⟩) hS (fun v9 _ H locs wl hv9 hRc hRr hRo hP hD hS => ?_)
        refine n_top (y := .int (nI (bN (lostP (c 9) (c 6) i)))) (congrArg Value.int hv9) ?_
        clear hv9 v9
        refine n_ifb_eq (tgt := 37) hx hb dX2_lostNeeds_22 (by decide) (fun c_22 => ?_) (fun c_22 => ?_)
        · refine lv_iconst (v := nI 0) hx hb dX2_lostNeeds_37 (by decide) ?_
          refine n_ior hx hb dX2_lostNeeds_38 ?_
          refine lv_istore_n (lv' := [(1, .int (nI ((mk (lostP (c 9) (c 6)) i) ||| 0))), (2, .int (nI i)), (0, .ref (G 0))]) hx hb dX2_lostNeeds_39 rfl hl (by decide) rfl (fun ls hl => ?_)
          refine lv_iinc (v := nI (i + 1)) (lv' := [(2, .int (nI (i + 1))), (1, .int (nI ((mk (lostP (c 9) (c 6)) i) ||| 0))), (0, .ref (G 0))]) hx hb dX2_lostNeeds_40 hl (k := 1) rfl (nI_add i 1) (by decide) rfl (fun ls hl => ?_)
          refine lv_goto (tgt := 4) hx hb dX2_lostNeeds_43 (by decide) ?_
          exact ih4 (i + 1) (by omega) (by omega)   _ _ _ _ hRc hRr hRo hP hD hS (show lv_has ls 3 [(2, .int (nI (i + 1))), (1, .int (nI (mk (lostP (c 9) (c 6)) (i + 1)))), (0, .ref (G 0))] from by rw [show ((.int (nI (mk (lostP (c 9) (c 6)) (i + 1))) : Value)) = .int (nI ((mk (lostP (c 9) (c 6)) i) ||| 0)) from by first | exact congrArg (fun z => Value.int (nI z)) (mk_t (by assumption)) | exact congrArg (fun z => Value.int (nI z)) ((mk_f (by assumption)).trans (Nat.or_zero _).symm)]; exact lv_sub hl [0, 1, 2] rfl)
        · refine lv_aload_n hx hb dX2_lostNeeds_25 rfl (lv_at hl 2 rfl) ?_
          refine va_get (D := D) (ci := 3) (v := .ref (G 1)) (C := RX2) (T := TX2) (N := 7) hx hb hts inX2 hown hK hP 0 (Q_o hRc) rfl 0 (by decide) (hts (.fieldLink RX2 11 "BootStage" "rows" "[LBootStage$Unit;") (by decide +kernel)) (fun _ h9 => h9) rfl dX2_lostNeeds_26 ?_
          refine lv_iload_n hx hb dX2_lostNeeds_29 rfl (lv_at hl 0 rfl) ?_
          refine x_row hx hb hK hP hRc (by first | omega | decide | assumption) dX2_lostNeeds_30 ?_
          refine y_calli (va_runV (As := []) (rest := [.int (nI (mk (lostP (c 9) (c 6)) i))]) ⟨hx, hb, hml, hown, hts⟩ (k_X0_bit l D G h0 c r o i (by first | omega | assumption)) (cwV 0 hts gX2_lostNeeds_X0_bit rfl rfl rfl (by decide +kernel) ⟨Nat.le_of_ble_eq_true rfl, Nat.le_of_ble_eq_true rfl⟩) ⟨fun a U g mk q => ⟨q.1, Pr_cg q.2⟩, va_recv (ci := 1) (q0 := 7 + i) hK hP rfl (Q_u hRc (by first | omega | decide | assumption)), fun U hU hW => ⟨rfl, Pr_mk hE hRc hRr hRo hP hD hS hU hW⟩⟩ rfl rfl hl.1 rfl (lv_room (Nat.le_of_ble_eq_true rfl)) dX2_lostNeeds_31 ⟨Nat.le_of_ble_eq_true rfl, Nat.le_of_ble_eq_true rfl⟩) hS (fun v9 _ H locs wl hv9 hRc hRr hRo hP hD hS => ?_)
          refine n_top (y := .int (nI (2 ^ i))) (congrArg Value.int hv9) ?_
          clear hv9 v9
          refine lv_goto (tgt := 38) hx hb dX2_lostNeeds_34 (by decide) ?_
          refine n_ior hx hb dX2_lostNeeds_38 ?_
          refine lv_istore_n (lv' := [(1, .int (nI ((mk (lostP (c 9) (c 6)) i) ||| (2 ^ i)))), (2, .int (nI i)), (0, .ref (G 0))]) hx hb dX2_lostNeeds_39 rfl hl (by decide) rfl (fun ls hl => ?_)
          refine lv_iinc (v := nI (i + 1)) (lv' := [(2, .int (nI (i + 1))), (1, .int (nI ((mk (lostP (c 9) (c 6)) i) ||| (2 ^ i)))), (0, .ref (G 0))]) hx hb dX2_lostNeeds_40 hl (k := 1) rfl (nI_add i 1) (by decide) rfl (fun ls hl => ?_)
          refine lv_goto (tgt := 4) hx hb dX2_lostNeeds_43 (by decide) ?_
          exact ih4 (i + 1) (by omega) (by omega)   _ _ _ _ hRc hRr hRo hP hD hS (show lv_has ls 3 [(2, .int (nI (i + 1))), (1, .int (nI (mk (lostP (c 9) (c 6)) (i + 1)))), (0, .ref (G 0))] from by rw [show ((.int (nI (mk (lostP (c 9) (c 6)) (i + 1))) : Value)) = .int (nI ((mk (lostP (c 9) (c 6)) i) ||| (2 ^ i))) from by first | exact congrArg (fun z => Value.int (nI z)) (mk_t (by assumption)) | exact congrArg (fun z => Value.int (nI z)) ((mk_f (by assumption)).trans (Nat.or_zero _).symm)]; exact lv_sub hl [0, 1, 2] rfl)
  exact L4 _ 0 (Nat.lt_succ_self _) (by omega)   _ _ _ _ hRc hRr hRo hP hD hS (show lv_has ls 3 [(2, .int (nI 0)), (1, .int (nI (mk (lostP (c 9) (c 6)) 0))), (0, .ref (G 0))] from by rw [show ((.int (nI (mk (lostP (c 9) (c 6)) 0)) : Value)) = .int (nI 0) from by rfl]; exact lv_sub hl [0, 1, 2] rfl)
set_option maxHeartbeats 4000000 in
set_option maxRecDepth 100000 in
theorem k_X2_doneWishes (l : Launch) (D : va_G) (G : Nat → Nat) (h0 : Nat) (c r : Nat → Nat → Nat) (o : Nat) (hI : IC c) : Met l yX2_doneWishes wsX2_doneWishes ({ frames := 2, cells := 0, slots := 0, locals := 40 } : Room) (va_Pc [.ref (G 0)] (fun U => Pr D G h0 c r o U)) (va_Qi (fun (v9 : Int32) (_ : Unit) => v9 = nI (mk (doneP (c 9)) (c 20 1))) (fun _ t => Wr D G h0 c r o t) (fun q => h0 ≤ q)) 0 0 (fun q => h0 ≤ q) := by
  refine Met.ofW (cc := cX2_doneWishes) (maxL := 3) (ret := (some .int)) (by decide) rfl ?_
  intro p e s m args below meth cd s₁ B hml hv
  obtain ⟨rfl, hE, wl, hRc, hRr, hRo, hP, hD⟩ := hv
  have hx := B.exec
  have hb := B.bytes
  have hr := B.returns
  have hts := atoms_spec (ws := wsX2_doneWishes) B.pre
  have hown : s.vm.findClass RX2 = some m.cls := findClass_of_methodNamed B.named
  have hlocks := B.notSynchronized
  have hK := hE.2.1
  have hS : va_S (fun q => h0 ≤ q) s.heap s.heap [] := va_S.rf
  have hl := lv_entry ([.ref (G 0)]) (n := 3) (Nat.le_of_ble_eq_true rfl)
  rw [lg_entry_eq]
  generalize (lg_sl ([.ref (G 0)]) ++ List.replicate (3 - (lg_sl ([.ref (G 0)])).length) Slot.unset).toArray = ls at hl ⊢
  have hl : lv_has ls 3 [(0, .ref (G 0))] := hl
  have inX2 : ∀ w ∈ wsX20, w ∈ wsX2_doneWishes := by decide +kernel
  obtain ⟨Q, hQ⟩ : ∃ Q, Q = MQ below (va_Qi (fun (v9 : Int32) (_ : Unit) => v9 = nI (mk (doneP (c 9)) (c 20 1))) (fun _ t => Wr D G h0 c r o t) (fun q => h0 ≤ q)) ([.ref (G 0)] : List Value).toArray s 0 0 (fun q => h0 ≤ q) := ⟨_, rfl⟩
  rw [← hQ]
  have hB := IC_B hI
  have hn := IC_n hI
  have hs := IC_s hI
  refine lv_iconst (v := nI 0) hx hb dX2_doneWishes_0 (by decide) ?_
  refine lv_istore_n (lv' := [(1, .int (nI 0)), (0, .ref (G 0))]) hx hb dX2_doneWishes_1 rfl hl (by decide) rfl (fun ls hl => ?_)
  refine lv_iconst (v := nI 0) hx hb dX2_doneWishes_2 (by decide) ?_
  refine lv_istore_n (lv' := [(2, .int (nI 0)), (1, .int (nI 0)), (0, .ref (G 0))]) hx hb dX2_doneWishes_3 rfl hl (by decide) rfl (fun ls hl => ?_)
  have L4 : ∀ (d i : Nat), c 20 1 - i < d → i ≤ c 20 1 → ∀ (H : Heap) (locs : List Loc) (wl : va_W) (ls : Array Slot), Rc G c wl → Rr G r wl → Ro G o wl → va_P D vwCl wl H → va_D (fun q => h0 ≤ q) wl → va_S (fun q => h0 ≤ q) s.heap H locs → lv_has ls 3 [(2, .int (nI i)), (1, .int (nI (mk (doneP (c 9)) i))), (0, .ref (G 0))] → W p l e (headSpec wsX2_doneWishes ({ frames := 2, cells := 0, slots := 0, locals := 40 } : Room)).room s m ([.ref (G 0)] : List Value).toArray below meth cd H locs 0 0 Q (F0 m 4 ls []) := by
    intro d4
    induction d4 with
    | zero => intro i hd; exact absurd hd (Nat.not_lt_zero _)
    | succ d4 ih4 =>
      intro i hd hi  H locs wl ls hRc hRr hRo hP hD hS hl
      refine lv_iload_n hx hb dX2_doneWishes_4 rfl (lv_at hl 0 rfl) ?_
      refine lv_aload_n hx hb dX2_doneWishes_5 rfl (lv_at hl 2 rfl) ?_
      refine va_get (D := D) (ci := 3) (v := .int (nI (c 20 1))) (C := RX2) (T := TX2) (N := 7) hx hb hts inX2 hown hK hP 0 (Q_o hRc) rfl 1 (by decide) (hts (.fieldLink RX2 15 "BootStage" "count" "I") (by decide +kernel)) (fun _ h9 => h9) rfl dX2_doneWishes_6 ?_
      refine n_icmp_ge (tgt := 46) hx hb dX2_doneWishes_9 (by decide) (by omega) (hB _ _ (by decide)) (fun c_9 => ?_) (fun c_9 => ?_)
      · refine lv_iload_n hx hb dX2_doneWishes_46 rfl (lv_at hl 1 rfl) ?_
        rw [hQ]
        exact W.iret (v := nI (mk (doneP (c 9)) i)) hx hb hr (fun t ht hW => ⟨⟨_, (), rfl, (show nI (mk (doneP (c 9)) i) = nI (mk (doneP (c 9)) (c 20 1)) from by rw [show i = c 20 1 by omega]), Wr_mk hRc hRr hRo hP hD ht⟩, hS.F ht⟩) hS.2.2 dX2_doneWishes_47
      · refine lv_iload_n hx hb dX2_doneWishes_12 rfl (lv_at hl 1 rfl) ?_
        refine lv_aload_n hx hb dX2_doneWishes_13 rfl (lv_at hl 2 rfl) ?_
        refine va_get (D := D) (ci := 3) (v := .ref (G 1)) (C := RX2) (T := TX2) (N := 7) hx hb hts inX2 hown hK hP 0 (Q_o hRc) rfl 0 (by decide) (hts (.fieldLink RX2 11 "BootStage" "rows" "[LBootStage$Unit;") (by decide +kernel)) (fun _ h9 => h9) rfl dX2_doneWishes_14 ?_
        refine lv_iload_n hx hb dX2_doneWishes_17 rfl (lv_at hl 0 rfl) ?_
        refine x_row hx hb hK hP hRc (by first | omega | decide | assumption) dX2_doneWishes_18 ?_
        refine y_calli (va_runV (As := []) (rest := [.int (nI (mk (doneP (c 9)) i))]) ⟨hx, hb, hml, hown, hts⟩ (k_X0_isWishDone l D G h0 c r o i (by first | omega | assumption) hB) (cwV 0 hts gX2_doneWishes_X0_isWishDone rfl rfl rfl (by decide +kernel) ⟨Nat.le_of_ble_eq_true rfl, Nat.le_of_ble_eq_true rfl⟩) ⟨fun a U g mk q => ⟨q.1, Pr_cg q.2⟩, va_recv (ci := 1) (q0 := 7 + i) hK hP rfl (Q_u hRc (by first | omega | decide | assumption)), fun U hU hW => ⟨rfl, Pr_mk hE hRc hRr hRo hP hD hS hU hW⟩⟩ rfl rfl hl.1 rfl (lv_room (Nat.le_of_ble_eq_true rfl)) dX2_doneWishes_19 ⟨Nat.le_of_ble_eq_true rfl, Nat.le_of_ble_eq_true rfl⟩) hS (fun v9 _ H locs wl hv9 hRc hRr hRo hP hD hS => ?_)
        refine n_top (y := .int (nI (bN (doneP (c 9) i)))) (congrArg Value.int hv9) ?_
        clear hv9 v9
        refine n_ifb_eq (tgt := 37) hx hb dX2_doneWishes_22 (by decide) (fun c_22 => ?_) (fun c_22 => ?_)
        · refine lv_iconst (v := nI 0) hx hb dX2_doneWishes_37 (by decide) ?_
          refine n_ior hx hb dX2_doneWishes_38 ?_
          refine lv_istore_n (lv' := [(1, .int (nI ((mk (doneP (c 9)) i) ||| 0))), (2, .int (nI i)), (0, .ref (G 0))]) hx hb dX2_doneWishes_39 rfl hl (by decide) rfl (fun ls hl => ?_)
          refine lv_iinc (v := nI (i + 1)) (lv' := [(2, .int (nI (i + 1))), (1, .int (nI ((mk (doneP (c 9)) i) ||| 0))), (0, .ref (G 0))]) hx hb dX2_doneWishes_40 hl (k := 1) rfl (nI_add i 1) (by decide) rfl (fun ls hl => ?_)
          refine lv_goto (tgt := 4) hx hb dX2_doneWishes_43 (by decide) ?_
          exact ih4 (i + 1) (by omega) (by omega)   _ _ _ _ hRc hRr hRo hP hD hS (show lv_has ls 3 [(2, .int (nI (i + 1))), (1, .int (nI (mk (doneP (c 9)) (i + 1)))), (0, .ref (G 0))] from by rw [show ((.int (nI (mk (doneP (c 9)) (i + 1))) : Value)) = .int (nI ((mk (doneP (c 9)) i) ||| 0)) from by first | exact congrArg (fun z => Value.int (nI z)) (mk_t (by assumption)) | exact congrArg (fun z => Value.int (nI z)) ((mk_f (by assumption)).trans (Nat.or_zero _).symm)]; exact lv_sub hl [0, 1, 2] rfl)
        · refine lv_aload_n hx hb dX2_doneWishes_25 rfl (lv_at hl 2 rfl) ?_
          refine va_get (D := D) (ci := 3) (v := .ref (G 1)) (C := RX2) (T := TX2) (N := 7) hx hb hts inX2 hown hK hP 0 (Q_o hRc) rfl 0 (by decide) (hts (.fieldLink RX2 11 "BootStage" "rows" "[LBootStage$Unit;") (by decide +kernel)) (fun _ h9 => h9) rfl dX2_doneWishes_26 ?_
          refine lv_iload_n hx hb dX2_doneWishes_29 rfl (lv_at hl 0 rfl) ?_
          refine x_row hx hb hK hP hRc (by first | omega | decide | assumption) dX2_doneWishes_30 ?_
          refine y_calli (va_runV (As := []) (rest := [.int (nI (mk (doneP (c 9)) i))]) ⟨hx, hb, hml, hown, hts⟩ (k_X0_bit l D G h0 c r o i (by first | omega | assumption)) (cwV 0 hts gX2_doneWishes_X0_bit rfl rfl rfl (by decide +kernel) ⟨Nat.le_of_ble_eq_true rfl, Nat.le_of_ble_eq_true rfl⟩) ⟨fun a U g mk q => ⟨q.1, Pr_cg q.2⟩, va_recv (ci := 1) (q0 := 7 + i) hK hP rfl (Q_u hRc (by first | omega | decide | assumption)), fun U hU hW => ⟨rfl, Pr_mk hE hRc hRr hRo hP hD hS hU hW⟩⟩ rfl rfl hl.1 rfl (lv_room (Nat.le_of_ble_eq_true rfl)) dX2_doneWishes_31 ⟨Nat.le_of_ble_eq_true rfl, Nat.le_of_ble_eq_true rfl⟩) hS (fun v9 _ H locs wl hv9 hRc hRr hRo hP hD hS => ?_)
          refine n_top (y := .int (nI (2 ^ i))) (congrArg Value.int hv9) ?_
          clear hv9 v9
          refine lv_goto (tgt := 38) hx hb dX2_doneWishes_34 (by decide) ?_
          refine n_ior hx hb dX2_doneWishes_38 ?_
          refine lv_istore_n (lv' := [(1, .int (nI ((mk (doneP (c 9)) i) ||| (2 ^ i)))), (2, .int (nI i)), (0, .ref (G 0))]) hx hb dX2_doneWishes_39 rfl hl (by decide) rfl (fun ls hl => ?_)
          refine lv_iinc (v := nI (i + 1)) (lv' := [(2, .int (nI (i + 1))), (1, .int (nI ((mk (doneP (c 9)) i) ||| (2 ^ i)))), (0, .ref (G 0))]) hx hb dX2_doneWishes_40 hl (k := 1) rfl (nI_add i 1) (by decide) rfl (fun ls hl => ?_)
          refine lv_goto (tgt := 4) hx hb dX2_doneWishes_43 (by decide) ?_
          exact ih4 (i + 1) (by omega) (by omega)   _ _ _ _ hRc hRr hRo hP hD hS (show lv_has ls 3 [(2, .int (nI (i + 1))), (1, .int (nI (mk (doneP (c 9)) (i + 1)))), (0, .ref (G 0))] from by rw [show ((.int (nI (mk (doneP (c 9)) (i + 1))) : Value)) = .int (nI ((mk (doneP (c 9)) i) ||| (2 ^ i))) from by first | exact congrArg (fun z => Value.int (nI z)) (mk_t (by assumption)) | exact congrArg (fun z => Value.int (nI z)) ((mk_f (by assumption)).trans (Nat.or_zero _).symm)]; exact lv_sub hl [0, 1, 2] rfl)
  exact L4 _ 0 (Nat.lt_succ_self _) (by omega)   _ _ _ _ hRc hRr hRo hP hD hS (show lv_has ls 3 [(2, .int (nI 0)), (1, .int (nI (mk (doneP (c 9)) 0))), (0, .ref (G 0))] from by rw [show ((.int (nI (mk (doneP (c 9)) 0)) : Value)) = .int (nI 0) from by rfl]; exact lv_sub hl [0, 1, 2] rfl)
set_option maxHeartbeats 4000000 in
set_option maxRecDepth 100000 in
theorem k_X2_timeDone (l : Launch) (D : va_G) (G : Nat → Nat) (h0 : Nat) (c r : Nat → Nat → Nat) (o : Nat) (hI : IC c) : Met l yX2_timeDone wsX2_timeDone ({ frames := 2, cells := 0, slots := 0, locals := 41 } : Room) (va_Pc [.ref (G 0)] (fun U => Pr D G h0 c r o U)) (va_Qi (fun (v9 : Int32) (_ : Unit) => v9 = nI (sm (c_part c) (c 20 1))) (fun _ t => Wr D G h0 c r o t) (fun q => h0 ≤ q)) 0 0 (fun q => h0 ≤ q) := by
  refine Met.ofW (cc := cX2_timeDone) (maxL := 3) (ret := (some .int)) (by decide) rfl ?_
  intro p e s m args below meth cd s₁ B hml hv
  obtain ⟨rfl, hE, wl, hRc, hRr, hRo, hP, hD⟩ := hv
  have hx := B.exec
  have hb := B.bytes
  have hr := B.returns
  have hts := atoms_spec (ws := wsX2_timeDone) B.pre
  have hown : s.vm.findClass RX2 = some m.cls := findClass_of_methodNamed B.named
  have hlocks := B.notSynchronized
  have hK := hE.2.1
  have hS : va_S (fun q => h0 ≤ q) s.heap s.heap [] := va_S.rf
  have hl := lv_entry ([.ref (G 0)]) (n := 3) (Nat.le_of_ble_eq_true rfl)
  rw [lg_entry_eq]
  generalize (lg_sl ([.ref (G 0)]) ++ List.replicate (3 - (lg_sl ([.ref (G 0)])).length) Slot.unset).toArray = ls at hl ⊢
  have hl : lv_has ls 3 [(0, .ref (G 0))] := hl
  have inX2 : ∀ w ∈ wsX20, w ∈ wsX2_timeDone := by decide +kernel
  obtain ⟨Q, hQ⟩ : ∃ Q, Q = MQ below (va_Qi (fun (v9 : Int32) (_ : Unit) => v9 = nI (sm (c_part c) (c 20 1))) (fun _ t => Wr D G h0 c r o t) (fun q => h0 ≤ q)) ([.ref (G 0)] : List Value).toArray s 0 0 (fun q => h0 ≤ q) := ⟨_, rfl⟩
  rw [← hQ]
  have hB := IC_B hI
  have hn := IC_n hI
  have hs := IC_s hI
  refine lv_iconst (v := nI 0) hx hb dX2_timeDone_0 (by decide) ?_
  refine lv_istore_n (lv' := [(1, .int (nI 0)), (0, .ref (G 0))]) hx hb dX2_timeDone_1 rfl hl (by decide) rfl (fun ls hl => ?_)
  refine lv_iconst (v := nI 0) hx hb dX2_timeDone_2 (by decide) ?_
  refine lv_istore_n (lv' := [(2, .int (nI 0)), (1, .int (nI 0)), (0, .ref (G 0))]) hx hb dX2_timeDone_3 rfl hl (by decide) rfl (fun ls hl => ?_)
  have L4 : ∀ (d i : Nat), c 20 1 - i < d → i ≤ c 20 1 → ∀ (H : Heap) (locs : List Loc) (wl : va_W) (ls : Array Slot), Rc G c wl → Rr G r wl → Ro G o wl → va_P D vwCl wl H → va_D (fun q => h0 ≤ q) wl → va_S (fun q => h0 ≤ q) s.heap H locs → lv_has ls 3 [(2, .int (nI i)), (1, .int (nI (sm (c_part c) i))), (0, .ref (G 0))] → W p l e (headSpec wsX2_timeDone ({ frames := 2, cells := 0, slots := 0, locals := 41 } : Room)).room s m ([.ref (G 0)] : List Value).toArray below meth cd H locs 0 0 Q (F0 m 4 ls []) := by
    intro d4
    induction d4 with
    | zero => intro i hd; exact absurd hd (Nat.not_lt_zero _)
    | succ d4 ih4 =>
      intro i hd hi  H locs wl ls hRc hRr hRo hP hD hS hl
      refine lv_iload_n hx hb dX2_timeDone_4 rfl (lv_at hl 0 rfl) ?_
      refine lv_aload_n hx hb dX2_timeDone_5 rfl (lv_at hl 2 rfl) ?_
      refine va_get (D := D) (ci := 3) (v := .int (nI (c 20 1))) (C := RX2) (T := TX2) (N := 7) hx hb hts inX2 hown hK hP 0 (Q_o hRc) rfl 1 (by decide) (hts (.fieldLink RX2 15 "BootStage" "count" "I") (by decide +kernel)) (fun _ h9 => h9) rfl dX2_timeDone_6 ?_
      refine n_icmp_ge (tgt := 30) hx hb dX2_timeDone_9 (by decide) (by omega) (hB _ _ (by decide)) (fun c_9 => ?_) (fun c_9 => ?_)
      · refine lv_iload_n hx hb dX2_timeDone_30 rfl (lv_at hl 1 rfl) ?_
        rw [hQ]
        exact W.iret (v := nI (sm (c_part c) i)) hx hb hr (fun t ht hW => ⟨⟨_, (), rfl, (show nI (sm (c_part c) i) = nI (sm (c_part c) (c 20 1)) from by rw [show i = c 20 1 by omega]), Wr_mk hRc hRr hRo hP hD ht⟩, hS.F ht⟩) hS.2.2 dX2_timeDone_31
      · refine lv_iload_n hx hb dX2_timeDone_12 rfl (lv_at hl 1 rfl) ?_
        refine lv_aload_n hx hb dX2_timeDone_13 rfl (lv_at hl 2 rfl) ?_
        refine va_get (D := D) (ci := 3) (v := .ref (G 1)) (C := RX2) (T := TX2) (N := 7) hx hb hts inX2 hown hK hP 0 (Q_o hRc) rfl 0 (by decide) (hts (.fieldLink RX2 11 "BootStage" "rows" "[LBootStage$Unit;") (by decide +kernel)) (fun _ h9 => h9) rfl dX2_timeDone_14 ?_
        refine lv_iload_n hx hb dX2_timeDone_17 rfl (lv_at hl 0 rfl) ?_
        refine x_row hx hb hK hP hRc (by first | omega | decide | assumption) dX2_timeDone_18 ?_
        refine y_calli (va_runV (As := []) (rest := [.int (nI (sm (c_part c) i))]) ⟨hx, hb, hml, hown, hts⟩ (k_X0_timeDone l D G h0 c r o i (by first | omega | assumption) hB) (cwV 0 hts gX2_timeDone_X0_timeDone rfl rfl rfl (by decide +kernel) ⟨Nat.le_of_ble_eq_true rfl, Nat.le_of_ble_eq_true rfl⟩) ⟨fun a U g mk q => ⟨q.1, Pr_cg q.2⟩, va_recv (ci := 1) (q0 := 7 + i) hK hP rfl (Q_u hRc (by first | omega | decide | assumption)), fun U hU hW => ⟨rfl, Pr_mk hE hRc hRr hRo hP hD hS hU hW⟩⟩ rfl rfl hl.1 rfl (lv_room (Nat.le_of_ble_eq_true rfl)) dX2_timeDone_19 ⟨Nat.le_of_ble_eq_true rfl, Nat.le_of_ble_eq_true rfl⟩) hS (fun v9 _ H locs wl hv9 hRc hRr hRo hP hD hS => ?_)
        refine n_top (y := .int (nI (c_part c i))) (congrArg Value.int hv9) ?_
        clear hv9 v9
        refine n_iadd hx hb dX2_timeDone_22 ?_
        refine lv_istore_n (lv' := [(1, .int (nI ((sm (c_part c) i) + (c_part c i)))), (2, .int (nI i)), (0, .ref (G 0))]) hx hb dX2_timeDone_23 rfl hl (by decide) rfl (fun ls hl => ?_)
        refine lv_iinc (v := nI (i + 1)) (lv' := [(2, .int (nI (i + 1))), (1, .int (nI ((sm (c_part c) i) + (c_part c i)))), (0, .ref (G 0))]) hx hb dX2_timeDone_24 hl (k := 1) rfl (nI_add i 1) (by decide) rfl (fun ls hl => ?_)
        refine lv_goto (tgt := 4) hx hb dX2_timeDone_27 (by decide) ?_
        exact ih4 (i + 1) (by omega) (by omega)   _ _ _ _ hRc hRr hRo hP hD hS (show lv_has ls 3 [(2, .int (nI (i + 1))), (1, .int (nI (sm (c_part c) (i + 1)))), (0, .ref (G 0))] from by rw [show ((.int (nI (sm (c_part c) (i + 1))) : Value)) = .int (nI ((sm (c_part c) i) + (c_part c i))) from by rfl]; exact lv_sub hl [0, 1, 2] rfl)
  exact L4 _ 0 (Nat.lt_succ_self _) (by omega)   _ _ _ _ hRc hRr hRo hP hD hS (show lv_has ls 3 [(2, .int (nI 0)), (1, .int (nI (sm (c_part c) 0))), (0, .ref (G 0))] from by rw [show ((.int (nI (sm (c_part c) 0)) : Value)) = .int (nI 0) from by rfl]; exact lv_sub hl [0, 1, 2] rfl)
set_option maxHeartbeats 4000000 in
set_option maxRecDepth 100000 in
theorem k_X2_ready (l : Launch) (D : va_G) (G : Nat → Nat) (h0 : Nat) (c r : Nat → Nat → Nat) (o : Nat) (hI : IC c) : Met l yX2_ready wsX2_ready ({ frames := 1, cells := 0, slots := 0, locals := 20 } : Room) (va_Pc [.ref (G 0)] (fun U => Pr D G h0 c r o U)) (va_Qi (fun (v9 : Int32) (_ : Unit) => v9 = nI (mk (fun w => c 9 w = 2) (c 20 1))) (fun _ t => Wr D G h0 c r o t) (fun q => h0 ≤ q)) 0 0 (fun q => h0 ≤ q) := by
  refine Met.ofW (cc := cX2_ready) (maxL := 3) (ret := (some .int)) (by decide) rfl ?_
  intro p e s m args below meth cd s₁ B hml hv
  obtain ⟨rfl, hE, wl, hRc, hRr, hRo, hP, hD⟩ := hv
  have hx := B.exec
  have hb := B.bytes
  have hr := B.returns
  have hts := atoms_spec (ws := wsX2_ready) B.pre
  have hown : s.vm.findClass RX2 = some m.cls := findClass_of_methodNamed B.named
  have hlocks := B.notSynchronized
  have hK := hE.2.1
  have hS : va_S (fun q => h0 ≤ q) s.heap s.heap [] := va_S.rf
  have hl := lv_entry ([.ref (G 0)]) (n := 3) (Nat.le_of_ble_eq_true rfl)
  rw [lg_entry_eq]
  generalize (lg_sl ([.ref (G 0)]) ++ List.replicate (3 - (lg_sl ([.ref (G 0)])).length) Slot.unset).toArray = ls at hl ⊢
  have hl : lv_has ls 3 [(0, .ref (G 0))] := hl
  have inX0 : ∀ w ∈ wsX00, w ∈ wsX2_ready := by decide +kernel
  have inX2 : ∀ w ∈ wsX20, w ∈ wsX2_ready := by decide +kernel
  obtain ⟨Q, hQ⟩ : ∃ Q, Q = MQ below (va_Qi (fun (v9 : Int32) (_ : Unit) => v9 = nI (mk (fun w => c 9 w = 2) (c 20 1))) (fun _ t => Wr D G h0 c r o t) (fun q => h0 ≤ q)) ([.ref (G 0)] : List Value).toArray s 0 0 (fun q => h0 ≤ q) := ⟨_, rfl⟩
  rw [← hQ]
  have hB := IC_B hI
  have hn := IC_n hI
  have hs := IC_s hI
  refine lv_iconst (v := nI 0) hx hb dX2_ready_0 (by decide) ?_
  refine lv_istore_n (lv' := [(1, .int (nI 0)), (0, .ref (G 0))]) hx hb dX2_ready_1 rfl hl (by decide) rfl (fun ls hl => ?_)
  refine lv_iconst (v := nI 0) hx hb dX2_ready_2 (by decide) ?_
  refine lv_istore_n (lv' := [(2, .int (nI 0)), (1, .int (nI 0)), (0, .ref (G 0))]) hx hb dX2_ready_3 rfl hl (by decide) rfl (fun ls hl => ?_)
  have L4 : ∀ (d i : Nat), c 20 1 - i < d → i ≤ c 20 1 → ∀ (H : Heap) (locs : List Loc) (wl : va_W) (ls : Array Slot), Rc G c wl → Rr G r wl → Ro G o wl → va_P D vwCl wl H → va_D (fun q => h0 ≤ q) wl → va_S (fun q => h0 ≤ q) s.heap H locs → lv_has ls 3 [(2, .int (nI i)), (1, .int (nI (mk (fun w => c 9 w = 2) i))), (0, .ref (G 0))] → W p l e (headSpec wsX2_ready ({ frames := 1, cells := 0, slots := 0, locals := 20 } : Room)).room s m ([.ref (G 0)] : List Value).toArray below meth cd H locs 0 0 Q (F0 m 4 ls []) := by
    intro d4
    induction d4 with
    | zero => intro i hd; exact absurd hd (Nat.not_lt_zero _)
    | succ d4 ih4 =>
      intro i hd hi  H locs wl ls hRc hRr hRo hP hD hS hl
      refine lv_iload_n hx hb dX2_ready_4 rfl (lv_at hl 0 rfl) ?_
      refine lv_aload_n hx hb dX2_ready_5 rfl (lv_at hl 2 rfl) ?_
      refine va_get (D := D) (ci := 3) (v := .int (nI (c 20 1))) (C := RX2) (T := TX2) (N := 7) hx hb hts inX2 hown hK hP 0 (Q_o hRc) rfl 1 (by decide) (hts (.fieldLink RX2 15 "BootStage" "count" "I") (by decide +kernel)) (fun _ h9 => h9) rfl dX2_ready_6 ?_
      refine n_icmp_ge (tgt := 47) hx hb dX2_ready_9 (by decide) (by omega) (hB _ _ (by decide)) (fun c_9 => ?_) (fun c_9 => ?_)
      · refine lv_iload_n hx hb dX2_ready_47 rfl (lv_at hl 1 rfl) ?_
        rw [hQ]
        exact W.iret (v := nI (mk (fun w => c 9 w = 2) i)) hx hb hr (fun t ht hW => ⟨⟨_, (), rfl, (show nI (mk (fun w => c 9 w = 2) i) = nI (mk (fun w => c 9 w = 2) (c 20 1)) from by rw [show i = c 20 1 by omega]), Wr_mk hRc hRr hRo hP hD ht⟩, hS.F ht⟩) hS.2.2 dX2_ready_48
      · refine lv_iload_n hx hb dX2_ready_12 rfl (lv_at hl 1 rfl) ?_
        refine lv_aload_n hx hb dX2_ready_13 rfl (lv_at hl 2 rfl) ?_
        refine va_get (D := D) (ci := 3) (v := .ref (G 1)) (C := RX2) (T := TX2) (N := 7) hx hb hts inX2 hown hK hP 0 (Q_o hRc) rfl 0 (by decide) (hts (.fieldLink RX2 11 "BootStage" "rows" "[LBootStage$Unit;") (by decide +kernel)) (fun _ h9 => h9) rfl dX2_ready_14 ?_
        refine lv_iload_n hx hb dX2_ready_17 rfl (lv_at hl 0 rfl) ?_
        refine x_row hx hb hK hP hRc (by first | omega | decide | assumption) dX2_ready_18 ?_
        refine va_get (D := D) (ci := 1) (v := .int (nI (c 9 i))) (C := RX0) (T := TX0) (N := 13) hx hb hts inX0 hown hK hP (7 + i) (Q_u hRc (by first | omega | decide | assumption)) rfl 9 (by decide) (hts (.fieldLink RX2 136 "BootStage$Unit" "state" "I") (by decide +kernel)) (fun _ h9 => h9) rfl dX2_ready_19 ?_
        refine lv_iconst (v := nI 2) hx hb dX2_ready_22 (by decide) ?_
        refine n_icmp_ne (tgt := 38) hx hb dX2_ready_23 (by decide) (hB _ _ (by decide)) (by decide) (fun c_23 => ?_) (fun c_23 => ?_)
        · refine lv_iconst (v := nI 0) hx hb dX2_ready_38 (by decide) ?_
          refine n_ior hx hb dX2_ready_39 ?_
          refine lv_istore_n (lv' := [(1, .int (nI ((mk (fun w => c 9 w = 2) i) ||| 0))), (2, .int (nI i)), (0, .ref (G 0))]) hx hb dX2_ready_40 rfl hl (by decide) rfl (fun ls hl => ?_)
          refine lv_iinc (v := nI (i + 1)) (lv' := [(2, .int (nI (i + 1))), (1, .int (nI ((mk (fun w => c 9 w = 2) i) ||| 0))), (0, .ref (G 0))]) hx hb dX2_ready_41 hl (k := 1) rfl (nI_add i 1) (by decide) rfl (fun ls hl => ?_)
          refine lv_goto (tgt := 4) hx hb dX2_ready_44 (by decide) ?_
          exact ih4 (i + 1) (by omega) (by omega)   _ _ _ _ hRc hRr hRo hP hD hS (show lv_has ls 3 [(2, .int (nI (i + 1))), (1, .int (nI (mk (fun w => c 9 w = 2) (i + 1)))), (0, .ref (G 0))] from by rw [show ((.int (nI (mk (fun w => c 9 w = 2) (i + 1))) : Value)) = .int (nI ((mk (fun w => c 9 w = 2) i) ||| 0)) from by first | exact congrArg (fun z => Value.int (nI z)) (mk_t (by assumption)) | exact congrArg (fun z => Value.int (nI z)) ((mk_f (by assumption)).trans (Nat.or_zero _).symm)]; exact lv_sub hl [0, 1, 2] rfl)
        · refine lv_aload_n hx hb dX2_ready_26 rfl (lv_at hl 2 rfl) ?_
          refine va_get (D := D) (ci := 3) (v := .ref (G 1)) (C := RX2) (T := TX2) (N := 7) hx hb hts inX2 hown hK hP 0 (Q_o hRc) rfl 0 (by decide) (hts (.fieldLink RX2 11 "BootStage" "rows" "[LBootStage$Unit;") (by decide +kernel)) (fun _ h9 => h9) rfl dX2_ready_27 ?_
          refine lv_iload_n hx hb dX2_ready_30 rfl (lv_at hl 0 rfl) ?_
          refine x_row hx hb hK hP hRc (by first | omega | decide | assumption) dX2_ready_31 ?_
          refine y_calli (va_runV (As := []) (rest := [.int (nI (mk (fun w => c 9 w = 2) i))]) ⟨hx, hb, hml, hown, hts⟩ (k_X0_bit l D G h0 c r o i (by first | omega | assumption)) (cwV 0 hts gX2_ready_X0_bit rfl rfl rfl (by decide +kernel) ⟨Nat.le_of_ble_eq_true rfl, Nat.le_of_ble_eq_true rfl⟩) ⟨fun a U g mk q => ⟨q.1, Pr_cg q.2⟩, va_recv (ci := 1) (q0 := 7 + i) hK hP rfl (Q_u hRc (by first | omega | decide | assumption)), fun U hU hW => ⟨rfl, Pr_mk hE hRc hRr hRo hP hD hS hU hW⟩⟩ rfl rfl hl.1 rfl (lv_room (Nat.le_of_ble_eq_true rfl)) dX2_ready_32 ⟨Nat.le_of_ble_eq_true rfl, Nat.le_of_ble_eq_true rfl⟩) hS (fun v9 _ H locs wl hv9 hRc hRr hRo hP hD hS => ?_)
          refine n_top (y := .int (nI (2 ^ i))) (congrArg Value.int hv9) ?_
          clear hv9 v9
          refine lv_goto (tgt := 39) hx hb dX2_ready_35 (by decide) ?_
          refine n_ior hx hb dX2_ready_39 ?_
          refine lv_istore_n (lv' := [(1, .int (nI ((mk (fun w => c 9 w = 2) i) ||| (2 ^ i)))), (2, .int (nI i)), (0, .ref (G 0))]) hx hb dX2_ready_40 rfl hl (by decide) rfl (fun ls hl => ?_)
          refine lv_iinc (v := nI (i + 1)) (lv' := [(2, .int (nI (i + 1))), (1, .int (nI ((mk (fun w => c 9 w = 2) i) ||| (2 ^ i)))), (0, .ref (G 0))]) hx hb dX2_ready_41 hl (k := 1) rfl (nI_add i 1) (by decide) rfl (fun ls hl => ?_)
          refine lv_goto (tgt := 4) hx hb dX2_ready_44 (by decide) ?_
          exact ih4 (i + 1) (by omega) (by omega)   _ _ _ _ hRc hRr hRo hP hD hS (show lv_has ls 3 [(2, .int (nI (i + 1))), (1, .int (nI (mk (fun w => c 9 w = 2) (i + 1)))), (0, .ref (G 0))] from by rw [show ((.int (nI (mk (fun w => c 9 w = 2) (i + 1))) : Value)) = .int (nI ((mk (fun w => c 9 w = 2) i) ||| (2 ^ i))) from by first | exact congrArg (fun z => Value.int (nI z)) (mk_t (by assumption)) | exact congrArg (fun z => Value.int (nI z)) ((mk_f (by assumption)).trans (Nat.or_zero _).symm)]; exact lv_sub hl [0, 1, 2] rfl)
  exact L4 _ 0 (Nat.lt_succ_self _) (by omega)   _ _ _ _ hRc hRr hRo hP hD hS (show lv_has ls 3 [(2, .int (nI 0)), (1, .int (nI (mk (fun w => c 9 w = 2) 0))), (0, .ref (G 0))] from by rw [show ((.int (nI (mk (fun w => c 9 w = 2) 0)) : Value)) = .int (nI 0) from by rfl]; exact lv_sub hl [0, 1, 2] rfl)
set_option maxHeartbeats 4000000 in
set_option maxRecDepth 100000 in
theorem k_X2_ableAlone (l : Launch) (D : va_G) (G : Nat → Nat) (h0 : Nat) (c r : Nat → Nat → Nat) (o : Nat) (hI : IC c) : Met l yX2_ableAlone wsX2_ableAlone ({ frames := 1, cells := 0, slots := 0, locals := 20 } : Room) (va_Pc [.ref (G 0)] (fun U => Pr D G h0 c r o U)) (va_Qi (fun (v9 : Int32) (_ : Unit) => v9 = nI (mk (fun w => c 5 w = 0 ∧ c 4 w ≤ c 2 w) (c 20 1))) (fun _ t => Wr D G h0 c r o t) (fun q => h0 ≤ q)) 0 0 (fun q => h0 ≤ q) := by
  refine Met.ofW (cc := cX2_ableAlone) (maxL := 4) (ret := (some .int)) (by decide) rfl ?_
  intro p e s m args below meth cd s₁ B hml hv
  obtain ⟨rfl, hE, wl, hRc, hRr, hRo, hP, hD⟩ := hv
  have hx := B.exec
  have hb := B.bytes
  have hr := B.returns
  have hts := atoms_spec (ws := wsX2_ableAlone) B.pre
  have hown : s.vm.findClass RX2 = some m.cls := findClass_of_methodNamed B.named
  have hlocks := B.notSynchronized
  have hK := hE.2.1
  have hS : va_S (fun q => h0 ≤ q) s.heap s.heap [] := va_S.rf
  have hl := lv_entry ([.ref (G 0)]) (n := 4) (Nat.le_of_ble_eq_true rfl)
  rw [lg_entry_eq]
  generalize (lg_sl ([.ref (G 0)]) ++ List.replicate (4 - (lg_sl ([.ref (G 0)])).length) Slot.unset).toArray = ls at hl ⊢
  have hl : lv_has ls 4 [(0, .ref (G 0))] := hl
  have inX0 : ∀ w ∈ wsX00, w ∈ wsX2_ableAlone := by decide +kernel
  have inX2 : ∀ w ∈ wsX20, w ∈ wsX2_ableAlone := by decide +kernel
  obtain ⟨Q, hQ⟩ : ∃ Q, Q = MQ below (va_Qi (fun (v9 : Int32) (_ : Unit) => v9 = nI (mk (fun w => c 5 w = 0 ∧ c 4 w ≤ c 2 w) (c 20 1))) (fun _ t => Wr D G h0 c r o t) (fun q => h0 ≤ q)) ([.ref (G 0)] : List Value).toArray s 0 0 (fun q => h0 ≤ q) := ⟨_, rfl⟩
  rw [← hQ]
  have hB := IC_B hI
  have hn := IC_n hI
  have hs := IC_s hI
  refine lv_iconst (v := nI 0) hx hb dX2_ableAlone_0 (by decide) ?_
  refine lv_istore_n (lv' := [(1, .int (nI 0)), (0, .ref (G 0))]) hx hb dX2_ableAlone_1 rfl hl (by decide) rfl (fun ls hl => ?_)
  refine lv_iconst (v := nI 0) hx hb dX2_ableAlone_2 (by decide) ?_
  refine lv_istore_n (lv' := [(2, .int (nI 0)), (1, .int (nI 0)), (0, .ref (G 0))]) hx hb dX2_ableAlone_3 rfl hl (by decide) rfl (fun ls hl => ?_)
  have L4 : ∀ (d i : Nat), c 20 1 - i < d → i ≤ c 20 1 → ∀ (H : Heap) (locs : List Loc) (wl : va_W) (ls : Array Slot), Rc G c wl → Rr G r wl → Ro G o wl → va_P D vwCl wl H → va_D (fun q => h0 ≤ q) wl → va_S (fun q => h0 ≤ q) s.heap H locs → lv_has ls 4 [(2, .int (nI i)), (1, .int (nI (mk (fun w => c 5 w = 0 ∧ c 4 w ≤ c 2 w) i))), (0, .ref (G 0))] → W p l e (headSpec wsX2_ableAlone ({ frames := 1, cells := 0, slots := 0, locals := 20 } : Room)).room s m ([.ref (G 0)] : List Value).toArray below meth cd H locs 0 0 Q (F0 m 4 ls []) := by
    intro d4
    induction d4 with
    | zero => intro i hd; exact absurd hd (Nat.not_lt_zero _)
    | succ d4 ih4 =>
      intro i hd hi  H locs wl ls hRc hRr hRo hP hD hS hl
      refine lv_iload_n hx hb dX2_ableAlone_4 rfl (lv_at hl 0 rfl) ?_
      refine lv_aload_n hx hb dX2_ableAlone_5 rfl (lv_at hl 2 rfl) ?_
      refine va_get (D := D) (ci := 3) (v := .int (nI (c 20 1))) (C := RX2) (T := TX2) (N := 7) hx hb hts inX2 hown hK hP 0 (Q_o hRc) rfl 1 (by decide) (hts (.fieldLink RX2 15 "BootStage" "count" "I") (by decide +kernel)) (fun _ h9 => h9) rfl dX2_ableAlone_6 ?_
      refine n_icmp_ge (tgt := 54) hx hb dX2_ableAlone_9 (by decide) (by omega) (hB _ _ (by decide)) (fun c_9 => ?_) (fun c_9 => ?_)
      · refine lv_iload_n hx hb dX2_ableAlone_54 rfl (lv_at hl 1 rfl) ?_
        rw [hQ]
        exact W.iret (v := nI (mk (fun w => c 5 w = 0 ∧ c 4 w ≤ c 2 w) i)) hx hb hr (fun t ht hW => ⟨⟨_, (), rfl, (show nI (mk (fun w => c 5 w = 0 ∧ c 4 w ≤ c 2 w) i) = nI (mk (fun w => c 5 w = 0 ∧ c 4 w ≤ c 2 w) (c 20 1)) from by rw [show i = c 20 1 by omega]), Wr_mk hRc hRr hRo hP hD ht⟩, hS.F ht⟩) hS.2.2 dX2_ableAlone_55
      · refine lv_aload_n hx hb dX2_ableAlone_12 rfl (lv_at hl 2 rfl) ?_
        refine va_get (D := D) (ci := 3) (v := .ref (G 1)) (C := RX2) (T := TX2) (N := 7) hx hb hts inX2 hown hK hP 0 (Q_o hRc) rfl 0 (by decide) (hts (.fieldLink RX2 11 "BootStage" "rows" "[LBootStage$Unit;") (by decide +kernel)) (fun _ h9 => h9) rfl dX2_ableAlone_13 ?_
        refine lv_iload_n hx hb dX2_ableAlone_16 rfl (lv_at hl 0 rfl) ?_
        refine x_row hx hb hK hP hRc (by first | omega | decide | assumption) dX2_ableAlone_17 ?_
        refine lv_astore_n (lv' := [(3, .ref (G (20 + i))), (2, .int (nI i)), (1, .int (nI (mk (fun w => c 5 w = 0 ∧ c 4 w ≤ c 2 w) i))), (0, .ref (G 0))]) hx hb dX2_ableAlone_18 rfl hl (by decide) rfl (fun ls hl => ?_)
        refine lv_iload_n hx hb dX2_ableAlone_19 rfl (lv_at hl 2 rfl) ?_
        refine lv_aload_n hx hb dX2_ableAlone_20 rfl (lv_at hl 0 rfl) ?_
        refine va_get (D := D) (ci := 1) (v := .int (nI (c 5 i))) (C := RX0) (T := TX0) (N := 13) hx hb hts inX0 hown hK hP (7 + i) (Q_u hRc (by first | omega | decide | assumption)) rfl 5 (by decide) (hts (.fieldLink RX2 113 "BootStage$Unit" "isHeld" "Z") (by decide +kernel)) (fun _ h9 => h9) rfl dX2_ableAlone_21 ?_
        refine n_if_ne (tgt := 45) hx hb dX2_ableAlone_24 (by decide) (hB _ _ (by decide)) (fun c_24 => ?_) (fun c_24 => ?_)
        · refine lv_iconst (v := nI 0) hx hb dX2_ableAlone_45 (by decide) ?_
          refine n_ior hx hb dX2_ableAlone_46 ?_
          refine lv_istore_n (lv' := [(1, .int (nI ((mk (fun w => c 5 w = 0 ∧ c 4 w ≤ c 2 w) i) ||| 0))), (3, .ref (G (20 + i))), (2, .int (nI i)), (0, .ref (G 0))]) hx hb dX2_ableAlone_47 rfl hl (by decide) rfl (fun ls hl => ?_)
          refine lv_iinc (v := nI (i + 1)) (lv' := [(2, .int (nI (i + 1))), (1, .int (nI ((mk (fun w => c 5 w = 0 ∧ c 4 w ≤ c 2 w) i) ||| 0))), (3, .ref (G (20 + i))), (0, .ref (G 0))]) hx hb dX2_ableAlone_48 hl (k := 2) rfl (nI_add i 1) (by decide) rfl (fun ls hl => ?_)
          refine lv_goto (tgt := 4) hx hb dX2_ableAlone_51 (by decide) ?_
          exact ih4 (i + 1) (by omega) (by omega)   _ _ _ _ hRc hRr hRo hP hD hS (show lv_has ls 4 [(2, .int (nI (i + 1))), (1, .int (nI (mk (fun w => c 5 w = 0 ∧ c 4 w ≤ c 2 w) (i + 1)))), (0, .ref (G 0))] from by rw [show ((.int (nI (mk (fun w => c 5 w = 0 ∧ c 4 w ≤ c 2 w) (i + 1))) : Value)) = .int (nI ((mk (fun w => c 5 w = 0 ∧ c 4 w ≤ c 2 w) i) ||| 0)) from by first | exact congrArg (fun z => Value.int (nI z)) (mk_t ⟨by assumption, by assumption⟩) | exact congrArg (fun z => Value.int (nI z)) ((mk_f (fun z => absurd z.1 (by omega))).trans (Nat.or_zero _).symm) | exact congrArg (fun z => Value.int (nI z)) ((mk_f (fun z => absurd z.2 (by omega))).trans (Nat.or_zero _).symm)]; exact lv_sub hl [0, 1, 3] rfl)
        · refine lv_aload_n hx hb dX2_ableAlone_27 rfl (lv_at hl 0 rfl) ?_
          refine va_get (D := D) (ci := 1) (v := .int (nI (c 4 i))) (C := RX0) (T := TX0) (N := 13) hx hb hts inX0 hown hK hP (7 + i) (Q_u hRc (by first | omega | decide | assumption)) rfl 4 (by decide) (hts (.fieldLink RX2 116 "BootStage$Unit" "faults" "I") (by decide +kernel)) (fun _ h9 => h9) rfl dX2_ableAlone_28 ?_
          refine lv_aload_n hx hb dX2_ableAlone_31 rfl (lv_at hl 0 rfl) ?_
          refine va_get (D := D) (ci := 1) (v := .int (nI (c 2 i))) (C := RX0) (T := TX0) (N := 13) hx hb hts inX0 hown hK hP (7 + i) (Q_u hRc (by first | omega | decide | assumption)) rfl 2 (by decide) (hts (.fieldLink RX2 59 "BootStage$Unit" "retries" "I") (by decide +kernel)) (fun _ h9 => h9) rfl dX2_ableAlone_32 ?_
          refine n_icmp_gt (tgt := 45) hx hb dX2_ableAlone_35 (by decide) (hB _ _ (by decide)) (hB _ _ (by decide)) (fun c_35 => ?_) (fun c_35 => ?_)
          · refine lv_iconst (v := nI 0) hx hb dX2_ableAlone_45 (by decide) ?_
            refine n_ior hx hb dX2_ableAlone_46 ?_
            refine lv_istore_n (lv' := [(1, .int (nI ((mk (fun w => c 5 w = 0 ∧ c 4 w ≤ c 2 w) i) ||| 0))), (3, .ref (G (20 + i))), (2, .int (nI i)), (0, .ref (G 0))]) hx hb dX2_ableAlone_47 rfl hl (by decide) rfl (fun ls hl => ?_)
            refine lv_iinc (v := nI (i + 1)) (lv' := [(2, .int (nI (i + 1))), (1, .int (nI ((mk (fun w => c 5 w = 0 ∧ c 4 w ≤ c 2 w) i) ||| 0))), (3, .ref (G (20 + i))), (0, .ref (G 0))]) hx hb dX2_ableAlone_48 hl (k := 2) rfl (nI_add i 1) (by decide) rfl (fun ls hl => ?_)
            refine lv_goto (tgt := 4) hx hb dX2_ableAlone_51 (by decide) ?_
            exact ih4 (i + 1) (by omega) (by omega)   _ _ _ _ hRc hRr hRo hP hD hS (show lv_has ls 4 [(2, .int (nI (i + 1))), (1, .int (nI (mk (fun w => c 5 w = 0 ∧ c 4 w ≤ c 2 w) (i + 1)))), (0, .ref (G 0))] from by rw [show ((.int (nI (mk (fun w => c 5 w = 0 ∧ c 4 w ≤ c 2 w) (i + 1))) : Value)) = .int (nI ((mk (fun w => c 5 w = 0 ∧ c 4 w ≤ c 2 w) i) ||| 0)) from by first | exact congrArg (fun z => Value.int (nI z)) (mk_t ⟨by assumption, by assumption⟩) | exact congrArg (fun z => Value.int (nI z)) ((mk_f (fun z => absurd z.1 (by omega))).trans (Nat.or_zero _).symm) | exact congrArg (fun z => Value.int (nI z)) ((mk_f (fun z => absurd z.2 (by omega))).trans (Nat.or_zero _).symm)]; exact lv_sub hl [0, 1, 3] rfl)
          · refine lv_aload_n hx hb dX2_ableAlone_38 rfl (lv_at hl 0 rfl) ?_
            refine y_calli (va_runV (As := []) (rest := [.int (nI (mk (fun w => c 5 w = 0 ∧ c 4 w ≤ c 2 w) i))]) ⟨hx, hb, hml, hown, hts⟩ (k_X0_bit l D G h0 c r o i (by first | omega | assumption)) (cwV 0 hts gX2_ableAlone_X0_bit rfl rfl rfl (by decide +kernel) ⟨Nat.le_of_ble_eq_true rfl, Nat.le_of_ble_eq_true rfl⟩) ⟨fun a U g mk q => ⟨q.1, Pr_cg q.2⟩, va_recv (ci := 1) (q0 := 7 + i) hK hP rfl (Q_u hRc (by first | omega | decide | assumption)), fun U hU hW => ⟨rfl, Pr_mk hE hRc hRr hRo hP hD hS hU hW⟩⟩ rfl rfl hl.1 rfl (lv_room (Nat.le_of_ble_eq_true rfl)) dX2_ableAlone_39 ⟨Nat.le_of_ble_eq_true rfl, Nat.le_of_ble_eq_true rfl⟩) hS (fun v9 _ H locs wl hv9 hRc hRr hRo hP hD hS => ?_)
            refine n_top (y := .int (nI (2 ^ i))) (congrArg Value.int hv9) ?_
            clear hv9 v9
            refine lv_goto (tgt := 46) hx hb dX2_ableAlone_42 (by decide) ?_
            refine n_ior hx hb dX2_ableAlone_46 ?_
            refine lv_istore_n (lv' := [(1, .int (nI ((mk (fun w => c 5 w = 0 ∧ c 4 w ≤ c 2 w) i) ||| (2 ^ i)))), (3, .ref (G (20 + i))), (2, .int (nI i)), (0, .ref (G 0))]) hx hb dX2_ableAlone_47 rfl hl (by decide) rfl (fun ls hl => ?_)
            refine lv_iinc (v := nI (i + 1)) (lv' := [(2, .int (nI (i + 1))), (1, .int (nI ((mk (fun w => c 5 w = 0 ∧ c 4 w ≤ c 2 w) i) ||| (2 ^ i)))), (3, .ref (G (20 + i))), (0, .ref (G 0))]) hx hb dX2_ableAlone_48 hl (k := 2) rfl (nI_add i 1) (by decide) rfl (fun ls hl => ?_)
            refine lv_goto (tgt := 4) hx hb dX2_ableAlone_51 (by decide) ?_
            exact ih4 (i + 1) (by omega) (by omega)   _ _ _ _ hRc hRr hRo hP hD hS (show lv_has ls 4 [(2, .int (nI (i + 1))), (1, .int (nI (mk (fun w => c 5 w = 0 ∧ c 4 w ≤ c 2 w) (i + 1)))), (0, .ref (G 0))] from by rw [show ((.int (nI (mk (fun w => c 5 w = 0 ∧ c 4 w ≤ c 2 w) (i + 1))) : Value)) = .int (nI ((mk (fun w => c 5 w = 0 ∧ c 4 w ≤ c 2 w) i) ||| (2 ^ i))) from by first | exact congrArg (fun z => Value.int (nI z)) (mk_t ⟨by assumption, by assumption⟩) | exact congrArg (fun z => Value.int (nI z)) ((mk_f (fun z => absurd z.1 (by omega))).trans (Nat.or_zero _).symm) | exact congrArg (fun z => Value.int (nI z)) ((mk_f (fun z => absurd z.2 (by omega))).trans (Nat.or_zero _).symm)]; exact lv_sub hl [0, 1, 3] rfl)
  exact L4 _ 0 (Nat.lt_succ_self _) (by omega)   _ _ _ _ hRc hRr hRo hP hD hS (show lv_has ls 4 [(2, .int (nI 0)), (1, .int (nI (mk (fun w => c 5 w = 0 ∧ c 4 w ≤ c 2 w) 0))), (0, .ref (G 0))] from by rw [show ((.int (nI (mk (fun w => c 5 w = 0 ∧ c 4 w ≤ c 2 w) 0)) : Value)) = .int (nI 0) from by rfl]; exact lv_sub hl [0, 1, 2] rfl)
set_option maxHeartbeats 4000000 in
set_option maxRecDepth 100000 in
theorem k_X2_reaches (l : Launch) (D : va_G) (G : Nat → Nat) (h0 : Nat) (c r : Nat → Nat → Nat) (o : Nat) (hI : IC c) (a b fl : Nat) (ha : a < c 20 1) (hb2 : b < 20) (hf : fl < 2 ^ 31) : Met l yX2_reaches wsX2_reaches ({ frames := 2, cells := 0, slots := 0, locals := 42 } : Room) (va_Pc [.ref (G 0), .ref (G (20 + a)), .ref (G (20 + b)), .int (nI fl)] (fun U => Pr D G h0 c r o U)) (va_Qi (fun (v9 : Int32) (_ : Unit) => v9 = nI (bN (Rch (eC c fl) a b))) (fun _ t => Wr D G h0 c r o t) (fun q => h0 ≤ q)) 0 0 (fun q => h0 ≤ q) := by
  refine Met.ofW (cc := cX2_reaches) (maxL := 8) (ret := (some .boolean)) (by decide) rfl ?_
  intro p e s m args below meth cd s₁ B hml hv
  obtain ⟨rfl, hE, wl, hRc, hRr, hRo, hP, hD⟩ := hv
  have hx := B.exec
  have hb := B.bytes
  have hr := B.returns
  have hts := atoms_spec (ws := wsX2_reaches) B.pre
  have hown : s.vm.findClass RX2 = some m.cls := findClass_of_methodNamed B.named
  have hlocks := B.notSynchronized
  have hK := hE.2.1
  have hS : va_S (fun q => h0 ≤ q) s.heap s.heap [] := va_S.rf
  have hl := lv_entry ([.ref (G 0), .ref (G (20 + a)), .ref (G (20 + b)), .int (nI fl)]) (n := 8) (Nat.le_of_ble_eq_true rfl)
  rw [lg_entry_eq]
  generalize (lg_sl ([.ref (G 0), .ref (G (20 + a)), .ref (G (20 + b)), .int (nI fl)]) ++ List.replicate (8 - (lg_sl ([.ref (G 0), .ref (G (20 + a)), .ref (G (20 + b)), .int (nI fl)])).length) Slot.unset).toArray = ls at hl ⊢
  have hl : lv_has ls 8 [(0, .ref (G 0)), (1, .ref (G (20 + a))), (2, .ref (G (20 + b))), (3, .int (nI fl))] := hl
  have inX0 : ∀ w ∈ wsX00, w ∈ wsX2_reaches := by decide +kernel
  have inX2 : ∀ w ∈ wsX20, w ∈ wsX2_reaches := by decide +kernel
  obtain ⟨Q, hQ⟩ : ∃ Q, Q = MQ below (va_Qi (fun (v9 : Int32) (_ : Unit) => v9 = nI (bN (Rch (eC c fl) a b))) (fun _ t => Wr D G h0 c r o t) (fun q => h0 ≤ q)) ([.ref (G 0), .ref (G (20 + a)), .ref (G (20 + b)), .int (nI fl)] : List Value).toArray s 0 0 (fun q => h0 ≤ q) := ⟨_, rfl⟩
  rw [← hQ]
  have hB := IC_B hI
  have hn := IC_n hI
  have hs := IC_s hI
  have h7 := IC_7 hI
  have h8 := IC_8 hI
  refine lv_aload_n hx hb dX2_reaches_0 rfl (lv_at hl 1 rfl) ?_
  refine y_calli (va_runV (As := []) (rest := []) ⟨hx, hb, hml, hown, hts⟩ (k_X0_bit l D G h0 c r o a (by first | omega | assumption)) (cwV 0 hts gX2_reaches_X0_bit rfl rfl rfl (by decide +kernel) ⟨Nat.le_of_ble_eq_true rfl, Nat.le_of_ble_eq_true rfl⟩) ⟨fun a U g mk q => ⟨q.1, Pr_cg q.2⟩, va_recv (ci := 1) (q0 := 7 + a) hK hP rfl (Q_u hRc (by first | omega | decide | assumption)), fun U hU hW => ⟨rfl, Pr_mk hE hRc hRr hRo hP hD hS hU hW⟩⟩ rfl rfl hl.1 rfl (lv_room (Nat.le_of_ble_eq_true rfl)) dX2_reaches_1 ⟨Nat.le_of_ble_eq_true rfl, Nat.le_of_ble_eq_true rfl⟩) hS (fun v9 _ H locs wl hv9 hRc hRr hRo hP hD hS => ?_)
  refine n_top (y := .int (nI (2 ^ a))) (congrArg Value.int hv9) ?_
  clear hv9 v9
  refine lv_istore (lv' := [(4, .int (nI (2 ^ a))), (0, .ref (G 0)), (1, .ref (G (20 + a))), (2, .ref (G (20 + b))), (3, .int (nI fl))]) hx hb dX2_reaches_4 hl (by decide) rfl (fun ls hl => ?_)
  refine lv_iconst (v := nI 0) hx hb dX2_reaches_6 (by decide) ?_
  refine lv_istore (lv' := [(5, .int (nI 0)), (4, .int (nI (2 ^ a))), (0, .ref (G 0)), (1, .ref (G (20 + a))), (2, .ref (G (20 + b))), (3, .int (nI fl))]) hx hb dX2_reaches_7 hl (by decide) rfl (fun ls hl => ?_)
  refine lv_iconst (v := nI 0) hx hb dX2_reaches_9 (by decide) ?_
  refine lv_istore (lv' := [(6, .int (nI 0)), (5, .int (nI 0)), (4, .int (nI (2 ^ a))), (0, .ref (G 0)), (1, .ref (G (20 + a))), (2, .ref (G (20 + b))), (3, .int (nI fl))]) hx hb dX2_reaches_10 hl (by decide) rfl (fun ls hl => ?_)
  have L12 : ∀ (d i : Nat), (c 20 1 + 1) - i < d → i ≤ (c 20 1 + 1) → ∀ (H : Heap) (locs : List Loc) (wl : va_W) (ls : Array Slot), Rc G c wl → Rr G r wl → Ro G o wl → va_P D vwCl wl H → va_D (fun q => h0 ≤ q) wl → va_S (fun q => h0 ≤ q) s.heap H locs → lv_has ls 8 [(6, .int (nI i)), (4, .int (nI (rdI c fl a i))), (5, .int (nI (rdB c fl a i))), (0, .ref (G 0)), (1, .ref (G (20 + a))), (2, .ref (G (20 + b))), (3, .int (nI fl))] → W p l e (headSpec wsX2_reaches ({ frames := 2, cells := 0, slots := 0, locals := 42 } : Room)).room s m ([.ref (G 0), .ref (G (20 + a)), .ref (G (20 + b)), .int (nI fl)] : List Value).toArray below meth cd H locs 0 0 Q (F0 m 12 ls []) := by
    intro d12
    induction d12 with
    | zero => intro i hd; exact absurd hd (Nat.not_lt_zero _)
    | succ d12 ih12 =>
      intro i hd hi  H locs wl ls hRc hRr hRo hP hD hS hl
      have hf1 : rdI c fl a i < 2 ^ 31 := Nat.lt_of_lt_of_le (rdI_lt h7 h8 ha i) (Nat.pow_le_pow_right (by decide) (by omega))
      have hf2 : rdB c fl a i < 2 ^ 31 := by cases i with | zero => exact (by decide : (0 : Nat) < 2 ^ 31) | succ j => exact Nat.lt_of_lt_of_le (rdI_lt h7 h8 ha j) (Nat.pow_le_pow_right (by decide) (by omega))
      refine lv_iload hx hb dX2_reaches_12 (lv_at hl 0 rfl) ?_
      refine lv_aload_n hx hb dX2_reaches_14 rfl (lv_at hl 3 rfl) ?_
      refine va_get (D := D) (ci := 3) (v := .int (nI (c 20 1))) (C := RX2) (T := TX2) (N := 7) hx hb hts inX2 hown hK hP 0 (Q_o hRc) rfl 1 (by decide) (hts (.fieldLink RX2 15 "BootStage" "count" "I") (by decide +kernel)) (fun _ h9 => h9) rfl dX2_reaches_15 ?_
      refine n_icmp_gt (tgt := 106) hx hb dX2_reaches_18 (by decide) (by omega) (hB _ _ (by decide)) (fun c_18 => ?_) (fun c_18 => ?_)
      · refine lv_aload_n hx hb dX2_reaches_106 rfl (lv_at hl 3 rfl) ?_
        refine lv_iload hx hb dX2_reaches_107 (lv_at hl 1 rfl) ?_
        refine lv_aload_n hx hb dX2_reaches_109 rfl (lv_at hl 5 rfl) ?_
        refine y_calli (va_runV (As := [.int (nI (rdI c fl a i)), .ref (G (20 + b))]) (rest := []) ⟨hx, hb, hml, hown, hts⟩ (k_X2_contains l D G h0 c r o (rdI c fl a i) b (by first | omega | assumption)) (cwV 2 hts gX2_reaches_X2_contains rfl rfl rfl (by decide +kernel) ⟨Nat.le_of_ble_eq_true rfl, Nat.le_of_ble_eq_true rfl⟩) ⟨fun a U g mk q => ⟨q.1, Pr_cg q.2⟩, va_recv (ci := 3) (q0 := 0) hK hP rfl (Q_o hRc), fun U hU hW => ⟨rfl, Pr_mk hE hRc hRr hRo hP hD hS hU hW⟩⟩ rfl rfl hl.1 rfl (lv_room (Nat.le_of_ble_eq_true rfl)) dX2_reaches_110 ⟨Nat.le_of_ble_eq_true rfl, Nat.le_of_ble_eq_true rfl⟩) hS (fun v9 _ H locs wl hv9 hRc hRr hRo hP hD hS => ?_)
        refine n_top (y := .int (nI (bN (Nat.testBit (rdI c fl a i) b = true)))) (congrArg Value.int hv9) ?_
        clear hv9 v9
        rw [hQ]
        exact W.zret (v := nI (bN (Nat.testBit (rdI c fl a i) b = true))) (ty := .boolean) hx hb hr (nb_le (by first | exact bN_le _ | decide | omega | assumption)) (fun t ht hW => ⟨⟨_, (), rfl, (show nI (bN (Nat.testBit (rdI c fl a i) b = true)) = nI (bN (Rch (eC c fl) a b)) from by exact congrArg nI (bN_c (reach_fin h7 h8 ha (by first | exact Or.inl (by assumption) | exact Or.inr (by assumption))))), Wr_mk hRc hRr hRo hP hD ht⟩, hS.F ht⟩) hS.2.2 dX2_reaches_113
      · refine lv_iload hx hb dX2_reaches_21 (lv_at hl 1 rfl) ?_
        refine lv_iload hx hb dX2_reaches_23 (lv_at hl 2 rfl) ?_
        refine n_icmp_eq (tgt := 106) hx hb dX2_reaches_25 (by decide) hf1 hf2 (fun c_25 => ?_) (fun c_25 => ?_)
        · refine lv_aload_n hx hb dX2_reaches_106 rfl (lv_at hl 3 rfl) ?_
          refine lv_iload hx hb dX2_reaches_107 (lv_at hl 1 rfl) ?_
          refine lv_aload_n hx hb dX2_reaches_109 rfl (lv_at hl 5 rfl) ?_
          refine y_calli (va_runV (As := [.int (nI (rdI c fl a i)), .ref (G (20 + b))]) (rest := []) ⟨hx, hb, hml, hown, hts⟩ (k_X2_contains l D G h0 c r o (rdI c fl a i) b (by first | omega | assumption)) (cwV 2 hts gX2_reaches_X2_contains rfl rfl rfl (by decide +kernel) ⟨Nat.le_of_ble_eq_true rfl, Nat.le_of_ble_eq_true rfl⟩) ⟨fun a U g mk q => ⟨q.1, Pr_cg q.2⟩, va_recv (ci := 3) (q0 := 0) hK hP rfl (Q_o hRc), fun U hU hW => ⟨rfl, Pr_mk hE hRc hRr hRo hP hD hS hU hW⟩⟩ rfl rfl hl.1 rfl (lv_room (Nat.le_of_ble_eq_true rfl)) dX2_reaches_110 ⟨Nat.le_of_ble_eq_true rfl, Nat.le_of_ble_eq_true rfl⟩) hS (fun v9 _ H locs wl hv9 hRc hRr hRo hP hD hS => ?_)
          refine n_top (y := .int (nI (bN (Nat.testBit (rdI c fl a i) b = true)))) (congrArg Value.int hv9) ?_
          clear hv9 v9
          rw [hQ]
          exact W.zret (v := nI (bN (Nat.testBit (rdI c fl a i) b = true))) (ty := .boolean) hx hb hr (nb_le (by first | exact bN_le _ | decide | omega | assumption)) (fun t ht hW => ⟨⟨_, (), rfl, (show nI (bN (Nat.testBit (rdI c fl a i) b = true)) = nI (bN (Rch (eC c fl) a b)) from by exact congrArg nI (bN_c (reach_fin h7 h8 ha (by first | exact Or.inl (by assumption) | exact Or.inr (by assumption))))), Wr_mk hRc hRr hRo hP hD ht⟩, hS.F ht⟩) hS.2.2 dX2_reaches_113
        · refine lv_iload hx hb dX2_reaches_28 (lv_at hl 1 rfl) ?_
          refine lv_istore (lv' := [(5, .int (nI (rdI c fl a i))), (6, .int (nI i)), (4, .int (nI (rdI c fl a i))), (0, .ref (G 0)), (1, .ref (G (20 + a))), (2, .ref (G (20 + b))), (3, .int (nI fl))]) hx hb dX2_reaches_30 hl (by decide) rfl (fun ls hl => ?_)
          refine lv_iconst (v := nI 0) hx hb dX2_reaches_32 (by decide) ?_
          refine lv_istore (lv' := [(7, .int (nI 0)), (5, .int (nI (rdI c fl a i))), (6, .int (nI i)), (4, .int (nI (rdI c fl a i))), (0, .ref (G 0)), (1, .ref (G (20 + a))), (2, .ref (G (20 + b))), (3, .int (nI fl))]) hx hb dX2_reaches_33 hl (by decide) rfl (fun ls hl => ?_)
          have L35 : ∀ (d k : Nat), c 20 1 - k < d → k ≤ c 20 1 → ∀ (H : Heap) (locs : List Loc) (wl : va_W) (ls : Array Slot), Rc G c wl → Rr G r wl → Ro G o wl → va_P D vwCl wl H → va_D (fun q => h0 ≤ q) wl → va_S (fun q => h0 ≤ q) s.heap H locs → lv_has ls 8 [(7, .int (nI k)), (4, .int (nI (rsI c fl (rdI c fl a i) k))), (5, .int (nI (rdI c fl a i))), (6, .int (nI i)), (0, .ref (G 0)), (1, .ref (G (20 + a))), (2, .ref (G (20 + b))), (3, .int (nI fl))] → W p l e (headSpec wsX2_reaches ({ frames := 2, cells := 0, slots := 0, locals := 42 } : Room)).room s m ([.ref (G 0), .ref (G (20 + a)), .ref (G (20 + b)), .int (nI fl)] : List Value).toArray below meth cd H locs 0 0 Q (F0 m 35 ls []) := by
            intro d35
            induction d35 with
            | zero => intro k hd; exact absurd hd (Nat.not_lt_zero _)
            | succ d35 ih35 =>
              intro k hd hi  H locs wl ls hRc hRr hRo hP hD hS hl
              refine lv_iload hx hb dX2_reaches_35 (lv_at hl 0 rfl) ?_
              refine lv_aload_n hx hb dX2_reaches_37 rfl (lv_at hl 4 rfl) ?_
              refine va_get (D := D) (ci := 3) (v := .int (nI (c 20 1))) (C := RX2) (T := TX2) (N := 7) hx hb hts inX2 hown hK hP 0 (Q_o hRc) rfl 1 (by decide) (hts (.fieldLink RX2 15 "BootStage" "count" "I") (by decide +kernel)) (fun _ h9 => h9) rfl dX2_reaches_38 ?_
              refine n_icmp_ge (tgt := 100) hx hb dX2_reaches_41 (by decide) (by omega) (hB _ _ (by decide)) (fun c_41 => ?_) (fun c_41 => ?_)
              · refine lv_iinc (v := nI (i + 1)) (lv' := [(6, .int (nI (i + 1))), (7, .int (nI k)), (4, .int (nI (rsI c fl (rdI c fl a i) k))), (5, .int (nI (rdI c fl a i))), (0, .ref (G 0)), (1, .ref (G (20 + a))), (2, .ref (G (20 + b))), (3, .int (nI fl))]) hx hb dX2_reaches_100 hl (k := 3) rfl (nI_add i 1) (by decide) rfl (fun ls hl => ?_)
                refine lv_goto (tgt := 12) hx hb dX2_reaches_103 (by decide) ?_
                exact ih12 (i + 1) (by omega) (by omega)   _ _ _ _ hRc hRr hRo hP hD hS (show lv_has ls 8 [(6, .int (nI (i + 1))), (4, .int (nI (rdI c fl a (i + 1)))), (5, .int (nI (rdB c fl a (i + 1)))), (0, .ref (G 0)), (1, .ref (G (20 + a))), (2, .ref (G (20 + b))), (3, .int (nI fl))] from by rw [show ((.int (nI (rdI c fl a (i + 1))) : Value)) = .int (nI (rsI c fl (rdI c fl a i) k)) from by exact congrArg (fun z => Value.int (nI z)) (show rdI c fl a (i + 1) = rsI c fl (rdI c fl a i) k by rw [show k = c 20 1 by omega, rdI]), show ((.int (nI (rdB c fl a (i + 1))) : Value)) = .int (nI (rdI c fl a i)) from by rfl]; exact lv_sub hl [0, 2, 3, 4, 5, 6, 7] rfl)
              · refine lv_aload_n hx hb dX2_reaches_44 rfl (lv_at hl 4 rfl) ?_
                refine lv_iload hx hb dX2_reaches_45 (lv_at hl 1 rfl) ?_
                refine lv_aload_n hx hb dX2_reaches_47 rfl (lv_at hl 4 rfl) ?_
                refine va_get (D := D) (ci := 3) (v := .ref (G 1)) (C := RX2) (T := TX2) (N := 7) hx hb hts inX2 hown hK hP 0 (Q_o hRc) rfl 0 (by decide) (hts (.fieldLink RX2 11 "BootStage" "rows" "[LBootStage$Unit;") (by decide +kernel)) (fun _ h9 => h9) rfl dX2_reaches_48 ?_
                refine lv_iload hx hb dX2_reaches_51 (lv_at hl 0 rfl) ?_
                refine x_row hx hb hK hP hRc (by first | omega | decide | assumption) dX2_reaches_53 ?_
                refine y_calli (va_runV (As := [.int (nI (rsI c fl (rdI c fl a i) k)), .ref (G (20 + k))]) (rest := []) ⟨hx, hb, hml, hown, hts⟩ (k_X2_contains l D G h0 c r o (rsI c fl (rdI c fl a i) k) k (by first | omega | assumption)) (cwV 2 hts gX2_reaches_X2_contains rfl rfl rfl (by decide +kernel) ⟨Nat.le_of_ble_eq_true rfl, Nat.le_of_ble_eq_true rfl⟩) ⟨fun a U g mk q => ⟨q.1, Pr_cg q.2⟩, va_recv (ci := 3) (q0 := 0) hK hP rfl (Q_o hRc), fun U hU hW => ⟨rfl, Pr_mk hE hRc hRr hRo hP hD hS hU hW⟩⟩ rfl rfl hl.1 rfl (lv_room (Nat.le_of_ble_eq_true rfl)) dX2_reaches_54 ⟨Nat.le_of_ble_eq_true rfl, Nat.le_of_ble_eq_true rfl⟩) hS (fun v9 _ H locs wl hv9 hRc hRr hRo hP hD hS => ?_)
                refine n_top (y := .int (nI (bN (Nat.testBit (rsI c fl (rdI c fl a i) k) k = true)))) (congrArg Value.int hv9) ?_
                clear hv9 v9
                refine n_ifb_eq (tgt := 94) hx hb dX2_reaches_57 (by decide) (fun c_57 => ?_) (fun c_57 => ?_)
                · refine lv_iinc (v := nI (k + 1)) (lv' := [(7, .int (nI (k + 1))), (4, .int (nI (rsI c fl (rdI c fl a i) k))), (5, .int (nI (rdI c fl a i))), (6, .int (nI i)), (0, .ref (G 0)), (1, .ref (G (20 + a))), (2, .ref (G (20 + b))), (3, .int (nI fl))]) hx hb dX2_reaches_94 hl (k := 0) rfl (nI_add k 1) (by decide) rfl (fun ls hl => ?_)
                  refine lv_goto (tgt := 35) hx hb dX2_reaches_97 (by decide) ?_
                  exact ih35 (k + 1) (by omega) (by omega)   _ _ _ _ hRc hRr hRo hP hD hS (show lv_has ls 8 [(7, .int (nI (k + 1))), (4, .int (nI (rsI c fl (rdI c fl a i) (k + 1)))), (5, .int (nI (rdI c fl a i))), (6, .int (nI i)), (0, .ref (G 0)), (1, .ref (G (20 + a))), (2, .ref (G (20 + b))), (3, .int (nI fl))] from by rw [show ((.int (nI (rsI c fl (rdI c fl a i) (k + 1))) : Value)) = .int (nI (rsI c fl (rdI c fl a i) k)) from by (first | (rw [rsI, if_pos (by assumption)]; first | rfl | (simp only [rsE]; rw [if_neg (by omega)]) | (simp only [rsE]; rw [if_pos (by omega)])) | (rw [rsI, if_neg (by assumption)]))]; exact lv_sub hl [0, 1, 2, 3, 4, 5, 6, 7] rfl)
                · refine lv_iload hx hb dX2_reaches_60 (lv_at hl 1 rfl) ?_
                  refine lv_aload_n hx hb dX2_reaches_62 rfl (lv_at hl 4 rfl) ?_
                  refine va_get (D := D) (ci := 3) (v := .ref (G 1)) (C := RX2) (T := TX2) (N := 7) hx hb hts inX2 hown hK hP 0 (Q_o hRc) rfl 0 (by decide) (hts (.fieldLink RX2 11 "BootStage" "rows" "[LBootStage$Unit;") (by decide +kernel)) (fun _ h9 => h9) rfl dX2_reaches_63 ?_
                  refine lv_iload hx hb dX2_reaches_66 (lv_at hl 0 rfl) ?_
                  refine x_row hx hb hK hP hRc (by first | omega | decide | assumption) dX2_reaches_68 ?_
                  refine va_get (D := D) (ci := 1) (v := .int (nI (c 7 k))) (C := RX0) (T := TX0) (N := 13) hx hb hts inX0 hown hK hP (7 + k) (Q_u hRc (by first | omega | decide | assumption)) rfl 7 (by decide) (hts (.fieldLink RX2 75 "BootStage$Unit" "needs" "I") (by decide +kernel)) (fun _ h9 => h9) rfl dX2_reaches_69 ?_
                  refine lv_iload_n hx hb dX2_reaches_72 rfl (lv_at hl 7 rfl) ?_
                  refine n_if_eq (tgt := 89) hx hb dX2_reaches_73 (by decide) hf (fun c_73 => ?_) (fun c_73 => ?_)
                  · refine lv_iconst (v := nI 0) hx hb dX2_reaches_89 (by decide) ?_
                    refine n_ior hx hb dX2_reaches_90 ?_
                    refine n_ior hx hb dX2_reaches_91 ?_
                    refine lv_istore (lv' := [(4, .int (nI ((rsI c fl (rdI c fl a i) k) ||| ((c 7 k) ||| 0)))), (7, .int (nI k)), (5, .int (nI (rdI c fl a i))), (6, .int (nI i)), (0, .ref (G 0)), (1, .ref (G (20 + a))), (2, .ref (G (20 + b))), (3, .int (nI fl))]) hx hb dX2_reaches_92 hl (by decide) rfl (fun ls hl => ?_)
                    refine lv_iinc (v := nI (k + 1)) (lv' := [(7, .int (nI (k + 1))), (4, .int (nI ((rsI c fl (rdI c fl a i) k) ||| ((c 7 k) ||| 0)))), (5, .int (nI (rdI c fl a i))), (6, .int (nI i)), (0, .ref (G 0)), (1, .ref (G (20 + a))), (2, .ref (G (20 + b))), (3, .int (nI fl))]) hx hb dX2_reaches_94 hl (k := 1) rfl (nI_add k 1) (by decide) rfl (fun ls hl => ?_)
                    refine lv_goto (tgt := 35) hx hb dX2_reaches_97 (by decide) ?_
                    exact ih35 (k + 1) (by omega) (by omega)   _ _ _ _ hRc hRr hRo hP hD hS (show lv_has ls 8 [(7, .int (nI (k + 1))), (4, .int (nI (rsI c fl (rdI c fl a i) (k + 1)))), (5, .int (nI (rdI c fl a i))), (6, .int (nI i)), (0, .ref (G 0)), (1, .ref (G (20 + a))), (2, .ref (G (20 + b))), (3, .int (nI fl))] from by rw [show ((.int (nI (rsI c fl (rdI c fl a i) (k + 1))) : Value)) = .int (nI ((rsI c fl (rdI c fl a i) k) ||| ((c 7 k) ||| 0))) from by (first | (rw [rsI, if_pos (by assumption)]; first | rfl | (simp only [rsE]; rw [if_neg (by omega)]) | (simp only [rsE]; rw [if_pos (by omega)])) | (rw [rsI, if_neg (by assumption)]))]; exact lv_sub hl [0, 1, 2, 3, 4, 5, 6, 7] rfl)
                  · refine lv_aload_n hx hb dX2_reaches_76 rfl (lv_at hl 4 rfl) ?_
                    refine va_get (D := D) (ci := 3) (v := .ref (G 1)) (C := RX2) (T := TX2) (N := 7) hx hb hts inX2 hown hK hP 0 (Q_o hRc) rfl 0 (by decide) (hts (.fieldLink RX2 11 "BootStage" "rows" "[LBootStage$Unit;") (by decide +kernel)) (fun _ h9 => h9) rfl dX2_reaches_77 ?_
                    refine lv_iload hx hb dX2_reaches_80 (lv_at hl 0 rfl) ?_
                    refine x_row hx hb hK hP hRc (by first | omega | decide | assumption) dX2_reaches_82 ?_
                    refine va_get (D := D) (ci := 1) (v := .int (nI (c 8 k))) (C := RX0) (T := TX0) (N := 13) hx hb hts inX0 hown hK hP (7 + k) (Q_u hRc (by first | omega | decide | assumption)) rfl 8 (by decide) (hts (.fieldLink RX2 103 "BootStage$Unit" "keptWishes" "I") (by decide +kernel)) (fun _ h9 => h9) rfl dX2_reaches_83 ?_
                    refine lv_goto (tgt := 90) hx hb dX2_reaches_86 (by decide) ?_
                    refine n_ior hx hb dX2_reaches_90 ?_
                    refine n_ior hx hb dX2_reaches_91 ?_
                    refine lv_istore (lv' := [(4, .int (nI ((rsI c fl (rdI c fl a i) k) ||| ((c 7 k) ||| (c 8 k))))), (7, .int (nI k)), (5, .int (nI (rdI c fl a i))), (6, .int (nI i)), (0, .ref (G 0)), (1, .ref (G (20 + a))), (2, .ref (G (20 + b))), (3, .int (nI fl))]) hx hb dX2_reaches_92 hl (by decide) rfl (fun ls hl => ?_)
                    refine lv_iinc (v := nI (k + 1)) (lv' := [(7, .int (nI (k + 1))), (4, .int (nI ((rsI c fl (rdI c fl a i) k) ||| ((c 7 k) ||| (c 8 k))))), (5, .int (nI (rdI c fl a i))), (6, .int (nI i)), (0, .ref (G 0)), (1, .ref (G (20 + a))), (2, .ref (G (20 + b))), (3, .int (nI fl))]) hx hb dX2_reaches_94 hl (k := 1) rfl (nI_add k 1) (by decide) rfl (fun ls hl => ?_)
                    refine lv_goto (tgt := 35) hx hb dX2_reaches_97 (by decide) ?_
                    exact ih35 (k + 1) (by omega) (by omega)   _ _ _ _ hRc hRr hRo hP hD hS (show lv_has ls 8 [(7, .int (nI (k + 1))), (4, .int (nI (rsI c fl (rdI c fl a i) (k + 1)))), (5, .int (nI (rdI c fl a i))), (6, .int (nI i)), (0, .ref (G 0)), (1, .ref (G (20 + a))), (2, .ref (G (20 + b))), (3, .int (nI fl))] from by rw [show ((.int (nI (rsI c fl (rdI c fl a i) (k + 1))) : Value)) = .int (nI ((rsI c fl (rdI c fl a i) k) ||| ((c 7 k) ||| (c 8 k)))) from by (first | (rw [rsI, if_pos (by assumption)]; first | rfl | (simp only [rsE]; rw [if_neg (by omega)]) | (simp only [rsE]; rw [if_pos (by omega)])) | (rw [rsI, if_neg (by assumption)]))]; exact lv_sub hl [0, 1, 2, 3, 4, 5, 6, 7] rfl)
          exact L35 _ 0 (Nat.lt_succ_self _) (by omega)   _ _ _ _ hRc hRr hRo hP hD hS (show lv_has ls 8 [(7, .int (nI 0)), (4, .int (nI (rsI c fl (rdI c fl a i) 0))), (5, .int (nI (rdI c fl a i))), (6, .int (nI i)), (0, .ref (G 0)), (1, .ref (G (20 + a))), (2, .ref (G (20 + b))), (3, .int (nI fl))] from by rw [show ((.int (nI (rsI c fl (rdI c fl a i) 0)) : Value)) = .int (nI (rdI c fl a i)) from by rfl]; exact lv_sub hl [0, 3, 1, 2, 4, 5, 6, 7] rfl)
  exact L12 _ 0 (Nat.lt_succ_self _) (by omega)   _ _ _ _ hRc hRr hRo hP hD hS (show lv_has ls 8 [(6, .int (nI 0)), (4, .int (nI (rdI c fl a 0))), (5, .int (nI (rdB c fl a 0))), (0, .ref (G 0)), (1, .ref (G (20 + a))), (2, .ref (G (20 + b))), (3, .int (nI fl))] from by rw [show ((.int (nI (rdI c fl a 0)) : Value)) = .int (nI (2 ^ a)) from by rfl, show ((.int (nI (rdB c fl a 0)) : Value)) = .int (nI 0) from by rfl]; exact lv_sub hl [0, 2, 1, 3, 4, 5, 6] rfl)
set_option maxHeartbeats 4000000 in
set_option maxRecDepth 100000 in
theorem k_X2_keepSupplied (l : Launch) (D : va_G) (G : Nat → Nat) (h0 : Nat) (c r : Nat → Nat → Nat) (o : Nat) (hI : IC c) (f : Nat) (hf : f < 2 ^ 20) : Met l yX2_keepSupplied wsX2_keepSupplied ({ frames := 2, cells := 0, slots := 0, locals := 42 } : Room) (va_Pc [.ref (G 0), .int (nI f)] (fun U => Pr D G h0 c r o U)) (va_Qi (fun (v9 : Int32) (_ : Unit) => v9 = nI (keepS c f)) (fun _ t => Wr D G h0 c r o t) (fun q => h0 ≤ q)) 0 0 (fun q => h0 ≤ q) := by
  refine Met.ofW (cc := cX2_keepSupplied) (maxL := 6) (ret := (some .int)) (by decide) rfl ?_
  intro p e s m args below meth cd s₁ B hml hv
  obtain ⟨rfl, hE, wl, hRc, hRr, hRo, hP, hD⟩ := hv
  have hx := B.exec
  have hb := B.bytes
  have hr := B.returns
  have hts := atoms_spec (ws := wsX2_keepSupplied) B.pre
  have hown : s.vm.findClass RX2 = some m.cls := findClass_of_methodNamed B.named
  have hlocks := B.notSynchronized
  have hK := hE.2.1
  have hS : va_S (fun q => h0 ≤ q) s.heap s.heap [] := va_S.rf
  have hl := lv_entry ([.ref (G 0), .int (nI f)]) (n := 6) (Nat.le_of_ble_eq_true rfl)
  rw [lg_entry_eq]
  generalize (lg_sl ([.ref (G 0), .int (nI f)]) ++ List.replicate (6 - (lg_sl ([.ref (G 0), .int (nI f)])).length) Slot.unset).toArray = ls at hl ⊢
  have hl : lv_has ls 6 [(0, .ref (G 0)), (1, .int (nI f))] := hl
  have inX0 : ∀ w ∈ wsX00, w ∈ wsX2_keepSupplied := by decide +kernel
  have inX2 : ∀ w ∈ wsX20, w ∈ wsX2_keepSupplied := by decide +kernel
  obtain ⟨Q, hQ⟩ : ∃ Q, Q = MQ below (va_Qi (fun (v9 : Int32) (_ : Unit) => v9 = nI (keepS c f)) (fun _ t => Wr D G h0 c r o t) (fun q => h0 ≤ q)) ([.ref (G 0), .int (nI f)] : List Value).toArray s 0 0 (fun q => h0 ≤ q) := ⟨_, rfl⟩
  rw [← hQ]
  have hB := IC_B hI
  have hn := IC_n hI
  have hs := IC_s hI
  have h7 := IC_7 hI
  refine lv_iload_n hx hb dX2_keepSupplied_0 rfl (lv_at hl 1 rfl) ?_
  refine lv_istore_n (lv' := [(2, .int (nI f)), (0, .ref (G 0)), (1, .int (nI f))]) hx hb dX2_keepSupplied_1 rfl hl (by decide) rfl (fun ls hl => ?_)
  refine lv_iconst (v := nI 0) hx hb dX2_keepSupplied_2 (by decide) ?_
  refine lv_istore_n (lv' := [(3, .int (nI 0)), (2, .int (nI f)), (0, .ref (G 0)), (1, .int (nI f))]) hx hb dX2_keepSupplied_3 rfl hl (by decide) rfl (fun ls hl => ?_)
  have L4 : ∀ (d i : Nat), c 20 1 - i < d → i ≤ c 20 1 → ∀ (H : Heap) (locs : List Loc) (wl : va_W) (ls : Array Slot), Rc G c wl → Rr G r wl → Ro G o wl → va_P D vwCl wl H → va_D (fun q => h0 ≤ q) wl → va_S (fun q => h0 ≤ q) s.heap H locs → lv_has ls 6 [(3, .int (nI i)), (2, .int (nI (f ||| mk (fun w => c 6 w ≠ 0 ∧ f.testBit (c 6 w - 1) = true) i))), (0, .ref (G 0)), (1, .int (nI f))] → W p l e (headSpec wsX2_keepSupplied ({ frames := 2, cells := 0, slots := 0, locals := 42 } : Room)).room s m ([.ref (G 0), .int (nI f)] : List Value).toArray below meth cd H locs 0 0 Q (F0 m 4 ls []) := by
    intro d4
    induction d4 with
    | zero => intro i hd; exact absurd hd (Nat.not_lt_zero _)
    | succ d4 ih4 =>
      intro i hd hi  H locs wl ls hRc hRr hRo hP hD hS hl
      refine lv_iload_n hx hb dX2_keepSupplied_4 rfl (lv_at hl 0 rfl) ?_
      refine lv_aload_n hx hb dX2_keepSupplied_5 rfl (lv_at hl 2 rfl) ?_
      refine va_get (D := D) (ci := 3) (v := .int (nI (c 20 1))) (C := RX2) (T := TX2) (N := 7) hx hb hts inX2 hown hK hP 0 (Q_o hRc) rfl 1 (by decide) (hts (.fieldLink RX2 15 "BootStage" "count" "I") (by decide +kernel)) (fun _ h9 => h9) rfl dX2_keepSupplied_6 ?_
      refine n_icmp_ge (tgt := 60) hx hb dX2_keepSupplied_9 (by decide) (by omega) (hB _ _ (by decide)) (fun c_9 => ?_) (fun c_9 => ?_)
      · refine lv_iconst (v := nI 0) hx hb dX2_keepSupplied_60 (by decide) ?_
        refine lv_istore_n (lv' := [(3, .int (nI 0)), (2, .int (nI (f ||| mk (fun w => c 6 w ≠ 0 ∧ f.testBit (c 6 w - 1) = true) i))), (0, .ref (G 0)), (1, .int (nI f))]) hx hb dX2_keepSupplied_61 rfl hl (by decide) rfl (fun ls hl => ?_)
        refine lv_iconst (v := nI 0) hx hb dX2_keepSupplied_62 (by decide) ?_
        refine lv_istore (lv' := [(4, .int (nI 0)), (3, .int (nI 0)), (2, .int (nI (f ||| mk (fun w => c 6 w ≠ 0 ∧ f.testBit (c 6 w - 1) = true) i))), (0, .ref (G 0)), (1, .int (nI f))]) hx hb dX2_keepSupplied_63 hl (by decide) rfl (fun ls hl => ?_)
        have L65 : ∀ (d k : Nat), c 20 1 - k < d → k ≤ c 20 1 → ∀ (H : Heap) (locs : List Loc) (wl : va_W) (ls : Array Slot), Rc G c wl → Rr G r wl → Ro G o wl → va_P D vwCl wl H → va_D (fun q => h0 ≤ q) wl → va_S (fun q => h0 ≤ q) s.heap H locs → lv_has ls 6 [(4, .int (nI k)), (3, .int (nI (mk (fun u => f.testBit u = true ∧ anN (c 7 u) (f ||| mk (fun w => c 6 w ≠ 0 ∧ f.testBit (c 6 w - 1) = true) (c 20 1)) = 0) k))), (2, .int (nI (f ||| mk (fun w => c 6 w ≠ 0 ∧ f.testBit (c 6 w - 1) = true) (c 20 1)))), (0, .ref (G 0)), (1, .int (nI f))] → W p l e (headSpec wsX2_keepSupplied ({ frames := 2, cells := 0, slots := 0, locals := 42 } : Room)).room s m ([.ref (G 0), .int (nI f)] : List Value).toArray below meth cd H locs 0 0 Q (F0 m 65 ls []) := by
          intro d65
          induction d65 with
          | zero => intro k hd; exact absurd hd (Nat.not_lt_zero _)
          | succ d65 ih65 =>
            intro k hd hi  H locs wl ls hRc hRr hRo hP hD hS hl
            have ha7 : anN (c 7 k) (f ||| mk (fun w => c 6 w ≠ 0 ∧ f.testBit (c 6 w - 1) = true) (c 20 1)) < 2 ^ 31 := Nat.lt_trans (anN_lt (p20 (h7 k) hn)) (by decide)
            refine lv_iload hx hb dX2_keepSupplied_65 (lv_at hl 0 rfl) ?_
            refine lv_aload_n hx hb dX2_keepSupplied_67 rfl (lv_at hl 3 rfl) ?_
            refine va_get (D := D) (ci := 3) (v := .int (nI (c 20 1))) (C := RX2) (T := TX2) (N := 7) hx hb hts inX2 hown hK hP 0 (Q_o hRc) rfl 1 (by decide) (hts (.fieldLink RX2 15 "BootStage" "count" "I") (by decide +kernel)) (fun _ h9 => h9) rfl dX2_keepSupplied_68 ?_
            refine n_icmp_ge (tgt := 141) hx hb dX2_keepSupplied_71 (by decide) (by omega) (hB _ _ (by decide)) (fun c_71 => ?_) (fun c_71 => ?_)
            · refine lv_iload_n hx hb dX2_keepSupplied_141 rfl (lv_at hl 1 rfl) ?_
              rw [hQ]
              exact W.iret (v := nI (mk (fun u => f.testBit u = true ∧ anN (c 7 u) (f ||| mk (fun w => c 6 w ≠ 0 ∧ f.testBit (c 6 w - 1) = true) (c 20 1)) = 0) k)) hx hb hr (fun t ht hW => ⟨⟨_, (), rfl, (show nI (mk (fun u => f.testBit u = true ∧ anN (c 7 u) (f ||| mk (fun w => c 6 w ≠ 0 ∧ f.testBit (c 6 w - 1) = true) (c 20 1)) = 0) k) = nI (keepS c f) from by unfold keepS; rw [show k = c 20 1 by omega]), Wr_mk hRc hRr hRo hP hD ht⟩, hS.F ht⟩) hS.2.2 dX2_keepSupplied_142
            · refine lv_aload_n hx hb dX2_keepSupplied_74 rfl (lv_at hl 3 rfl) ?_
              refine lv_iload_n hx hb dX2_keepSupplied_75 rfl (lv_at hl 4 rfl) ?_
              refine lv_aload_n hx hb dX2_keepSupplied_76 rfl (lv_at hl 3 rfl) ?_
              refine va_get (D := D) (ci := 3) (v := .ref (G 1)) (C := RX2) (T := TX2) (N := 7) hx hb hts inX2 hown hK hP 0 (Q_o hRc) rfl 0 (by decide) (hts (.fieldLink RX2 11 "BootStage" "rows" "[LBootStage$Unit;") (by decide +kernel)) (fun _ h9 => h9) rfl dX2_keepSupplied_77 ?_
              refine lv_iload hx hb dX2_keepSupplied_80 (lv_at hl 0 rfl) ?_
              refine x_row hx hb hK hP hRc (by first | omega | decide | assumption) dX2_keepSupplied_82 ?_
              refine y_calli (va_runV (As := [.int (nI f), .ref (G (20 + k))]) (rest := []) ⟨hx, hb, hml, hown, hts⟩ (k_X2_contains l D G h0 c r o f k (by first | omega | assumption)) (cwV 2 hts gX2_keepSupplied_X2_contains rfl rfl rfl (by decide +kernel) ⟨Nat.le_of_ble_eq_true rfl, Nat.le_of_ble_eq_true rfl⟩) ⟨fun a U g mk q => ⟨q.1, Pr_cg q.2⟩, va_recv (ci := 3) (q0 := 0) hK hP rfl (Q_o hRc), fun U hU hW => ⟨rfl, Pr_mk hE hRc hRr hRo hP hD hS hU hW⟩⟩ rfl rfl hl.1 rfl (lv_room (Nat.le_of_ble_eq_true rfl)) dX2_keepSupplied_83 ⟨Nat.le_of_ble_eq_true rfl, Nat.le_of_ble_eq_true rfl⟩) hS (fun v9 _ H locs wl hv9 hRc hRr hRo hP hD hS => ?_)
              refine n_top (y := .int (nI (bN (Nat.testBit f k = true)))) (congrArg Value.int hv9) ?_
              clear hv9 v9
              refine n_ifb_eq (tgt := 110) hx hb dX2_keepSupplied_86 (by decide) (fun c_86 => ?_) (fun c_86 => ?_)
              · refine lv_iconst (v := nI 0) hx hb dX2_keepSupplied_110 (by decide) ?_
                refine lv_istore (lv' := [(5, .int (nI 0)), (4, .int (nI k)), (3, .int (nI (mk (fun u => f.testBit u = true ∧ anN (c 7 u) (f ||| mk (fun w => c 6 w ≠ 0 ∧ f.testBit (c 6 w - 1) = true) (c 20 1)) = 0) k))), (2, .int (nI (f ||| mk (fun w => c 6 w ≠ 0 ∧ f.testBit (c 6 w - 1) = true) (c 20 1)))), (0, .ref (G 0)), (1, .int (nI f))]) hx hb dX2_keepSupplied_111 hl (by decide) rfl (fun ls hl => ?_)
                refine lv_iload_n hx hb dX2_keepSupplied_113 rfl (lv_at hl 2 rfl) ?_
                refine lv_iload hx hb dX2_keepSupplied_114 (lv_at hl 0 rfl) ?_
                refine n_if_eq (tgt := 132) hx hb dX2_keepSupplied_116 (by decide) (by decide) (fun c_116 => ?_) (fun c_116 => absurd c_116 (by decide))
                refine lv_iconst (v := nI 0) hx hb dX2_keepSupplied_132 (by decide) ?_
                refine n_ior hx hb dX2_keepSupplied_133 ?_
                refine lv_istore_n (lv' := [(3, .int (nI ((mk (fun u => f.testBit u = true ∧ anN (c 7 u) (f ||| mk (fun w => c 6 w ≠ 0 ∧ f.testBit (c 6 w - 1) = true) (c 20 1)) = 0) k) ||| 0))), (5, .int (nI 0)), (4, .int (nI k)), (2, .int (nI (f ||| mk (fun w => c 6 w ≠ 0 ∧ f.testBit (c 6 w - 1) = true) (c 20 1)))), (0, .ref (G 0)), (1, .int (nI f))]) hx hb dX2_keepSupplied_134 rfl hl (by decide) rfl (fun ls hl => ?_)
                refine lv_iinc (v := nI (k + 1)) (lv' := [(4, .int (nI (k + 1))), (3, .int (nI ((mk (fun u => f.testBit u = true ∧ anN (c 7 u) (f ||| mk (fun w => c 6 w ≠ 0 ∧ f.testBit (c 6 w - 1) = true) (c 20 1)) = 0) k) ||| 0))), (5, .int (nI 0)), (2, .int (nI (f ||| mk (fun w => c 6 w ≠ 0 ∧ f.testBit (c 6 w - 1) = true) (c 20 1)))), (0, .ref (G 0)), (1, .int (nI f))]) hx hb dX2_keepSupplied_135 hl (k := 2) rfl (nI_add k 1) (by decide) rfl (fun ls hl => ?_)
                refine lv_goto (tgt := 65) hx hb dX2_keepSupplied_138 (by decide) ?_
                exact ih65 (k + 1) (by omega) (by omega)   _ _ _ _ hRc hRr hRo hP hD hS (show lv_has ls 6 [(4, .int (nI (k + 1))), (3, .int (nI (mk (fun u => f.testBit u = true ∧ anN (c 7 u) (f ||| mk (fun w => c 6 w ≠ 0 ∧ f.testBit (c 6 w - 1) = true) (c 20 1)) = 0) (k + 1)))), (2, .int (nI (f ||| mk (fun w => c 6 w ≠ 0 ∧ f.testBit (c 6 w - 1) = true) (c 20 1)))), (0, .ref (G 0)), (1, .int (nI f))] from by rw [show ((.int (nI (mk (fun u => f.testBit u = true ∧ anN (c 7 u) (f ||| mk (fun w => c 6 w ≠ 0 ∧ f.testBit (c 6 w - 1) = true) (c 20 1)) = 0) (k + 1))) : Value)) = .int (nI ((mk (fun u => f.testBit u = true ∧ anN (c 7 u) (f ||| mk (fun w => c 6 w ≠ 0 ∧ f.testBit (c 6 w - 1) = true) (c 20 1)) = 0) k) ||| 0)) from by first | exact congrArg (fun z => Value.int (nI z)) (mk_t ⟨by assumption, by assumption⟩) | exact congrArg (fun z => Value.int (nI z)) ((mk_f (fun z => absurd z.1 (by assumption))).trans (Nat.or_zero _).symm) | exact congrArg (fun z => Value.int (nI z)) ((mk_f (fun z => absurd z.2 (by omega))).trans (Nat.or_zero _).symm)]; exact lv_sub hl [0, 1, 3, 4, 5] rfl)
              · refine lv_aload_n hx hb dX2_keepSupplied_89 rfl (lv_at hl 3 rfl) ?_
                refine va_get (D := D) (ci := 3) (v := .ref (G 1)) (C := RX2) (T := TX2) (N := 7) hx hb hts inX2 hown hK hP 0 (Q_o hRc) rfl 0 (by decide) (hts (.fieldLink RX2 11 "BootStage" "rows" "[LBootStage$Unit;") (by decide +kernel)) (fun _ h9 => h9) rfl dX2_keepSupplied_90 ?_
                refine lv_iload hx hb dX2_keepSupplied_93 (lv_at hl 0 rfl) ?_
                refine x_row hx hb hK hP hRc (by first | omega | decide | assumption) dX2_keepSupplied_95 ?_
                refine va_get (D := D) (ci := 1) (v := .int (nI (c 7 k))) (C := RX0) (T := TX0) (N := 13) hx hb hts inX0 hown hK hP (7 + k) (Q_u hRc (by first | omega | decide | assumption)) rfl 7 (by decide) (hts (.fieldLink RX2 75 "BootStage$Unit" "needs" "I") (by decide +kernel)) (fun _ h9 => h9) rfl dX2_keepSupplied_96 ?_
                refine lv_iload_n hx hb dX2_keepSupplied_99 rfl (lv_at hl 2 rfl) ?_
                refine lv_iconst (v := (-1)) hx hb dX2_keepSupplied_100 (by decide) ?_
                refine lv_ixor hx hb dX2_keepSupplied_101 ?_
                refine n_nand hx hb dX2_keepSupplied_102 ?_
                refine n_if_ne (tgt := 110) hx hb dX2_keepSupplied_103 (by decide) ha7 (fun c_103 => ?_) (fun c_103 => ?_)
                · refine lv_iconst (v := nI 0) hx hb dX2_keepSupplied_110 (by decide) ?_
                  refine lv_istore (lv' := [(5, .int (nI 0)), (4, .int (nI k)), (3, .int (nI (mk (fun u => f.testBit u = true ∧ anN (c 7 u) (f ||| mk (fun w => c 6 w ≠ 0 ∧ f.testBit (c 6 w - 1) = true) (c 20 1)) = 0) k))), (2, .int (nI (f ||| mk (fun w => c 6 w ≠ 0 ∧ f.testBit (c 6 w - 1) = true) (c 20 1)))), (0, .ref (G 0)), (1, .int (nI f))]) hx hb dX2_keepSupplied_111 hl (by decide) rfl (fun ls hl => ?_)
                  refine lv_iload_n hx hb dX2_keepSupplied_113 rfl (lv_at hl 2 rfl) ?_
                  refine lv_iload hx hb dX2_keepSupplied_114 (lv_at hl 0 rfl) ?_
                  refine n_if_eq (tgt := 132) hx hb dX2_keepSupplied_116 (by decide) (by decide) (fun c_116 => ?_) (fun c_116 => absurd c_116 (by decide))
                  refine lv_iconst (v := nI 0) hx hb dX2_keepSupplied_132 (by decide) ?_
                  refine n_ior hx hb dX2_keepSupplied_133 ?_
                  refine lv_istore_n (lv' := [(3, .int (nI ((mk (fun u => f.testBit u = true ∧ anN (c 7 u) (f ||| mk (fun w => c 6 w ≠ 0 ∧ f.testBit (c 6 w - 1) = true) (c 20 1)) = 0) k) ||| 0))), (5, .int (nI 0)), (4, .int (nI k)), (2, .int (nI (f ||| mk (fun w => c 6 w ≠ 0 ∧ f.testBit (c 6 w - 1) = true) (c 20 1)))), (0, .ref (G 0)), (1, .int (nI f))]) hx hb dX2_keepSupplied_134 rfl hl (by decide) rfl (fun ls hl => ?_)
                  refine lv_iinc (v := nI (k + 1)) (lv' := [(4, .int (nI (k + 1))), (3, .int (nI ((mk (fun u => f.testBit u = true ∧ anN (c 7 u) (f ||| mk (fun w => c 6 w ≠ 0 ∧ f.testBit (c 6 w - 1) = true) (c 20 1)) = 0) k) ||| 0))), (5, .int (nI 0)), (2, .int (nI (f ||| mk (fun w => c 6 w ≠ 0 ∧ f.testBit (c 6 w - 1) = true) (c 20 1)))), (0, .ref (G 0)), (1, .int (nI f))]) hx hb dX2_keepSupplied_135 hl (k := 2) rfl (nI_add k 1) (by decide) rfl (fun ls hl => ?_)
                  refine lv_goto (tgt := 65) hx hb dX2_keepSupplied_138 (by decide) ?_
                  exact ih65 (k + 1) (by omega) (by omega)   _ _ _ _ hRc hRr hRo hP hD hS (show lv_has ls 6 [(4, .int (nI (k + 1))), (3, .int (nI (mk (fun u => f.testBit u = true ∧ anN (c 7 u) (f ||| mk (fun w => c 6 w ≠ 0 ∧ f.testBit (c 6 w - 1) = true) (c 20 1)) = 0) (k + 1)))), (2, .int (nI (f ||| mk (fun w => c 6 w ≠ 0 ∧ f.testBit (c 6 w - 1) = true) (c 20 1)))), (0, .ref (G 0)), (1, .int (nI f))] from by rw [show ((.int (nI (mk (fun u => f.testBit u = true ∧ anN (c 7 u) (f ||| mk (fun w => c 6 w ≠ 0 ∧ f.testBit (c 6 w - 1) = true) (c 20 1)) = 0) (k + 1))) : Value)) = .int (nI ((mk (fun u => f.testBit u = true ∧ anN (c 7 u) (f ||| mk (fun w => c 6 w ≠ 0 ∧ f.testBit (c 6 w - 1) = true) (c 20 1)) = 0) k) ||| 0)) from by first | exact congrArg (fun z => Value.int (nI z)) (mk_t ⟨by assumption, by assumption⟩) | exact congrArg (fun z => Value.int (nI z)) ((mk_f (fun z => absurd z.1 (by assumption))).trans (Nat.or_zero _).symm) | exact congrArg (fun z => Value.int (nI z)) ((mk_f (fun z => absurd z.2 (by omega))).trans (Nat.or_zero _).symm)]; exact lv_sub hl [0, 1, 3, 4, 5] rfl)
                · refine lv_iconst (v := nI 1) hx hb dX2_keepSupplied_106 (by decide) ?_
                  refine lv_goto (tgt := 111) hx hb dX2_keepSupplied_107 (by decide) ?_
                  refine lv_istore (lv' := [(5, .int (nI 1)), (4, .int (nI k)), (3, .int (nI (mk (fun u => f.testBit u = true ∧ anN (c 7 u) (f ||| mk (fun w => c 6 w ≠ 0 ∧ f.testBit (c 6 w - 1) = true) (c 20 1)) = 0) k))), (2, .int (nI (f ||| mk (fun w => c 6 w ≠ 0 ∧ f.testBit (c 6 w - 1) = true) (c 20 1)))), (0, .ref (G 0)), (1, .int (nI f))]) hx hb dX2_keepSupplied_111 hl (by decide) rfl (fun ls hl => ?_)
                  refine lv_iload_n hx hb dX2_keepSupplied_113 rfl (lv_at hl 2 rfl) ?_
                  refine lv_iload hx hb dX2_keepSupplied_114 (lv_at hl 0 rfl) ?_
                  refine n_if_eq (tgt := 132) hx hb dX2_keepSupplied_116 (by decide) (by decide) (fun c_116 => absurd c_116 (by decide)) (fun c_116 => ?_)
                  refine lv_aload_n hx hb dX2_keepSupplied_119 rfl (lv_at hl 4 rfl) ?_
                  refine va_get (D := D) (ci := 3) (v := .ref (G 1)) (C := RX2) (T := TX2) (N := 7) hx hb hts inX2 hown hK hP 0 (Q_o hRc) rfl 0 (by decide) (hts (.fieldLink RX2 11 "BootStage" "rows" "[LBootStage$Unit;") (by decide +kernel)) (fun _ h9 => h9) rfl dX2_keepSupplied_120 ?_
                  refine lv_iload hx hb dX2_keepSupplied_123 (lv_at hl 1 rfl) ?_
                  refine x_row hx hb hK hP hRc (by first | omega | decide | assumption) dX2_keepSupplied_125 ?_
                  refine y_calli (va_runV (As := []) (rest := [.int (nI (mk (fun u => f.testBit u = true ∧ anN (c 7 u) (f ||| mk (fun w => c 6 w ≠ 0 ∧ f.testBit (c 6 w - 1) = true) (c 20 1)) = 0) k))]) ⟨hx, hb, hml, hown, hts⟩ (k_X0_bit l D G h0 c r o k (by first | omega | assumption)) (cwV 0 hts gX2_keepSupplied_X0_bit rfl rfl rfl (by decide +kernel) ⟨Nat.le_of_ble_eq_true rfl, Nat.le_of_ble_eq_true rfl⟩) ⟨fun a U g mk q => ⟨q.1, Pr_cg q.2⟩, va_recv (ci := 1) (q0 := 7 + k) hK hP rfl (Q_u hRc (by first | omega | decide | assumption)), fun U hU hW => ⟨rfl, Pr_mk hE hRc hRr hRo hP hD hS hU hW⟩⟩ rfl rfl hl.1 rfl (lv_room (Nat.le_of_ble_eq_true rfl)) dX2_keepSupplied_126 ⟨Nat.le_of_ble_eq_true rfl, Nat.le_of_ble_eq_true rfl⟩) hS (fun v9 _ H locs wl hv9 hRc hRr hRo hP hD hS => ?_)
                  refine n_top (y := .int (nI (2 ^ k))) (congrArg Value.int hv9) ?_
                  clear hv9 v9
                  refine lv_goto (tgt := 133) hx hb dX2_keepSupplied_129 (by decide) ?_
                  refine n_ior hx hb dX2_keepSupplied_133 ?_
                  refine lv_istore_n (lv' := [(3, .int (nI ((mk (fun u => f.testBit u = true ∧ anN (c 7 u) (f ||| mk (fun w => c 6 w ≠ 0 ∧ f.testBit (c 6 w - 1) = true) (c 20 1)) = 0) k) ||| (2 ^ k)))), (5, .int (nI 1)), (4, .int (nI k)), (2, .int (nI (f ||| mk (fun w => c 6 w ≠ 0 ∧ f.testBit (c 6 w - 1) = true) (c 20 1)))), (0, .ref (G 0)), (1, .int (nI f))]) hx hb dX2_keepSupplied_134 rfl hl (by decide) rfl (fun ls hl => ?_)
                  refine lv_iinc (v := nI (k + 1)) (lv' := [(4, .int (nI (k + 1))), (3, .int (nI ((mk (fun u => f.testBit u = true ∧ anN (c 7 u) (f ||| mk (fun w => c 6 w ≠ 0 ∧ f.testBit (c 6 w - 1) = true) (c 20 1)) = 0) k) ||| (2 ^ k)))), (5, .int (nI 1)), (2, .int (nI (f ||| mk (fun w => c 6 w ≠ 0 ∧ f.testBit (c 6 w - 1) = true) (c 20 1)))), (0, .ref (G 0)), (1, .int (nI f))]) hx hb dX2_keepSupplied_135 hl (k := 2) rfl (nI_add k 1) (by decide) rfl (fun ls hl => ?_)
                  refine lv_goto (tgt := 65) hx hb dX2_keepSupplied_138 (by decide) ?_
                  exact ih65 (k + 1) (by omega) (by omega)   _ _ _ _ hRc hRr hRo hP hD hS (show lv_has ls 6 [(4, .int (nI (k + 1))), (3, .int (nI (mk (fun u => f.testBit u = true ∧ anN (c 7 u) (f ||| mk (fun w => c 6 w ≠ 0 ∧ f.testBit (c 6 w - 1) = true) (c 20 1)) = 0) (k + 1)))), (2, .int (nI (f ||| mk (fun w => c 6 w ≠ 0 ∧ f.testBit (c 6 w - 1) = true) (c 20 1)))), (0, .ref (G 0)), (1, .int (nI f))] from by rw [show ((.int (nI (mk (fun u => f.testBit u = true ∧ anN (c 7 u) (f ||| mk (fun w => c 6 w ≠ 0 ∧ f.testBit (c 6 w - 1) = true) (c 20 1)) = 0) (k + 1))) : Value)) = .int (nI ((mk (fun u => f.testBit u = true ∧ anN (c 7 u) (f ||| mk (fun w => c 6 w ≠ 0 ∧ f.testBit (c 6 w - 1) = true) (c 20 1)) = 0) k) ||| (2 ^ k))) from by first | exact congrArg (fun z => Value.int (nI z)) (mk_t ⟨by assumption, by assumption⟩) | exact congrArg (fun z => Value.int (nI z)) ((mk_f (fun z => absurd z.1 (by assumption))).trans (Nat.or_zero _).symm) | exact congrArg (fun z => Value.int (nI z)) ((mk_f (fun z => absurd z.2 (by omega))).trans (Nat.or_zero _).symm)]; exact lv_sub hl [0, 1, 3, 4, 5] rfl)
        exact L65 _ 0 (Nat.lt_succ_self _) (by omega)   _ _ _ _ hRc hRr hRo hP hD hS (show lv_has ls 6 [(4, .int (nI 0)), (3, .int (nI (mk (fun u => f.testBit u = true ∧ anN (c 7 u) (f ||| mk (fun w => c 6 w ≠ 0 ∧ f.testBit (c 6 w - 1) = true) (c 20 1)) = 0) 0))), (2, .int (nI (f ||| mk (fun w => c 6 w ≠ 0 ∧ f.testBit (c 6 w - 1) = true) (c 20 1)))), (0, .ref (G 0)), (1, .int (nI f))] from by rw [show ((.int (nI (mk (fun u => f.testBit u = true ∧ anN (c 7 u) (f ||| mk (fun w => c 6 w ≠ 0 ∧ f.testBit (c 6 w - 1) = true) (c 20 1)) = 0) 0)) : Value)) = .int (nI 0) from by rfl, show ((.int (nI (f ||| mk (fun w => c 6 w ≠ 0 ∧ f.testBit (c 6 w - 1) = true) (c 20 1))) : Value)) = .int (nI (f ||| mk (fun w => c 6 w ≠ 0 ∧ f.testBit (c 6 w - 1) = true) i)) from by exact congrArg (fun z => Value.int (nI z)) (show f ||| mk (fun w => c 6 w ≠ 0 ∧ f.testBit (c 6 w - 1) = true) (c 20 1) = f ||| mk (fun w => c 6 w ≠ 0 ∧ f.testBit (c 6 w - 1) = true) i by rw [show i = c 20 1 by omega])]; exact lv_sub hl [0, 1, 2, 3, 4] rfl)
      · refine lv_aload_n hx hb dX2_keepSupplied_12 rfl (lv_at hl 2 rfl) ?_
        refine va_get (D := D) (ci := 3) (v := .ref (G 1)) (C := RX2) (T := TX2) (N := 7) hx hb hts inX2 hown hK hP 0 (Q_o hRc) rfl 0 (by decide) (hts (.fieldLink RX2 11 "BootStage" "rows" "[LBootStage$Unit;") (by decide +kernel)) (fun _ h9 => h9) rfl dX2_keepSupplied_13 ?_
        refine lv_iload_n hx hb dX2_keepSupplied_16 rfl (lv_at hl 0 rfl) ?_
        refine x_row hx hb hK hP hRc (by first | omega | decide | assumption) dX2_keepSupplied_17 ?_
        rcases (show c 6 i = 0 ∨ ∃ w, c 6 i = w + 1 from by cases h9 : c 6 i with | zero => exact Or.inl rfl | succ w => exact Or.inr ⟨w, rfl⟩) with hz_18 | ⟨w_18, hz_18⟩
        · skip
          refine va_get (D := D) (ci := 1) (v := .null) (C := RX0) (T := TX0) (N := 13) hx hb hts inX0 hown hK hP (7 + i) (Q_u hRc (by first | omega | decide | assumption)) rfl 6 (by decide) (hts (.fieldLink RX2 109 "BootStage$Unit" "substitute" "LBootStage$Unit;") (by decide +kernel)) (fun _ h9 => h9) (congrArg some (sbV_0 G hz_18)) dX2_keepSupplied_18 ?_
          refine lv_astoreN (lv' := [(4, .null), (3, .int (nI i)), (2, .int (nI (f ||| mk (fun w => c 6 w ≠ 0 ∧ f.testBit (c 6 w - 1) = true) i))), (0, .ref (G 0)), (1, .int (nI f))]) hx hb dX2_keepSupplied_21 hl (by decide) rfl (fun ls hl => ?_)
          refine lv_iload_n hx hb dX2_keepSupplied_23 rfl (lv_at hl 2 rfl) ?_
          refine lv_aloadN hx hb dX2_keepSupplied_24 (lv_at hl 0 rfl) ?_
          refine lv_ifnullN (tgt := 51) hx hb dX2_keepSupplied_26 (by decide) ?_
          refine lv_iconst (v := nI 0) hx hb dX2_keepSupplied_51 (by decide) ?_
          refine n_ior hx hb dX2_keepSupplied_52 ?_
          refine lv_istore_n (lv' := [(2, .int (nI ((f ||| mk (fun w => c 6 w ≠ 0 ∧ f.testBit (c 6 w - 1) = true) i) ||| 0))), (4, .null), (3, .int (nI i)), (0, .ref (G 0)), (1, .int (nI f))]) hx hb dX2_keepSupplied_53 rfl hl (by decide) rfl (fun ls hl => ?_)
          refine lv_iinc (v := nI (i + 1)) (lv' := [(3, .int (nI (i + 1))), (2, .int (nI ((f ||| mk (fun w => c 6 w ≠ 0 ∧ f.testBit (c 6 w - 1) = true) i) ||| 0))), (4, .null), (0, .ref (G 0)), (1, .int (nI f))]) hx hb dX2_keepSupplied_54 hl (k := 2) rfl (nI_add i 1) (by decide) rfl (fun ls hl => ?_)
          refine lv_goto (tgt := 4) hx hb dX2_keepSupplied_57 (by decide) ?_
          exact ih4 (i + 1) (by omega) (by omega)   _ _ _ _ hRc hRr hRo hP hD hS (show lv_has ls 6 [(3, .int (nI (i + 1))), (2, .int (nI (f ||| mk (fun w => c 6 w ≠ 0 ∧ f.testBit (c 6 w - 1) = true) (i + 1)))), (0, .ref (G 0)), (1, .int (nI f))] from by rw [show ((.int (nI (f ||| mk (fun w => c 6 w ≠ 0 ∧ f.testBit (c 6 w - 1) = true) (i + 1))) : Value)) = .int (nI ((f ||| mk (fun w => c 6 w ≠ 0 ∧ f.testBit (c 6 w - 1) = true) i) ||| 0)) from by exact congrArg (fun z => Value.int (nI z)) (show f ||| mk (fun w => c 6 w ≠ 0 ∧ f.testBit (c 6 w - 1) = true) (i + 1) = (f ||| mk (fun w => c 6 w ≠ 0 ∧ f.testBit (c 6 w - 1) = true) i) ||| 0 by rw [mk_f (fun (z : c 6 i ≠ 0 ∧ f.testBit (c 6 i - 1) = true) => z.1 hz_18), Nat.or_zero])]; exact lv_sub hl [0, 1, 3, 4] rfl)
        · have hw_w_18 : w_18 < 20 := by have h9 := hs i; omega
          refine va_get (D := D) (ci := 1) (v := .ref (G (20 + w_18))) (C := RX0) (T := TX0) (N := 13) hx hb hts inX0 hown hK hP (7 + i) (Q_u hRc (by first | omega | decide | assumption)) rfl 6 (by decide) (hts (.fieldLink RX2 109 "BootStage$Unit" "substitute" "LBootStage$Unit;") (by decide +kernel)) (fun _ h9 => h9) (congrArg some (sbV_s G hz_18)) dX2_keepSupplied_18 ?_
          refine lv_astore (lv' := [(4, .ref (G (20 + w_18))), (3, .int (nI i)), (2, .int (nI (f ||| mk (fun w => c 6 w ≠ 0 ∧ f.testBit (c 6 w - 1) = true) i))), (0, .ref (G 0)), (1, .int (nI f))]) hx hb dX2_keepSupplied_21 hl (by decide) rfl (fun ls hl => ?_)
          refine lv_iload_n hx hb dX2_keepSupplied_23 rfl (lv_at hl 2 rfl) ?_
          refine lv_aload hx hb dX2_keepSupplied_24 (lv_at hl 0 rfl) ?_
          refine lv_ifnull hx hb dX2_keepSupplied_26 ?_
          refine lv_aload_n hx hb dX2_keepSupplied_29 rfl (lv_at hl 3 rfl) ?_
          refine lv_iload_n hx hb dX2_keepSupplied_30 rfl (lv_at hl 4 rfl) ?_
          refine lv_aload hx hb dX2_keepSupplied_31 (lv_at hl 0 rfl) ?_
          refine y_calli (va_runV (As := [.int (nI f), .ref (G (20 + w_18))]) (rest := [.int (nI (f ||| mk (fun w => c 6 w ≠ 0 ∧ f.testBit (c 6 w - 1) = true) i))]) ⟨hx, hb, hml, hown, hts⟩ (k_X2_contains l D G h0 c r o f w_18 (by first | omega | assumption)) (cwV 2 hts gX2_keepSupplied_X2_contains rfl rfl rfl (by decide +kernel) ⟨Nat.le_of_ble_eq_true rfl, Nat.le_of_ble_eq_true rfl⟩) ⟨fun a U g mk q => ⟨q.1, Pr_cg q.2⟩, va_recv (ci := 3) (q0 := 0) hK hP rfl (Q_o hRc), fun U hU hW => ⟨rfl, Pr_mk hE hRc hRr hRo hP hD hS hU hW⟩⟩ rfl rfl hl.1 rfl (lv_room (Nat.le_of_ble_eq_true rfl)) dX2_keepSupplied_33 ⟨Nat.le_of_ble_eq_true rfl, Nat.le_of_ble_eq_true rfl⟩) hS (fun v9 _ H locs wl hv9 hRc hRr hRo hP hD hS => ?_)
          refine n_top (y := .int (nI (bN (Nat.testBit f w_18 = true)))) (congrArg Value.int hv9) ?_
          clear hv9 v9
          refine n_ifb_eq (tgt := 51) hx hb dX2_keepSupplied_36 (by decide) (fun c_36 => ?_) (fun c_36 => ?_)
          · refine lv_iconst (v := nI 0) hx hb dX2_keepSupplied_51 (by decide) ?_
            refine n_ior hx hb dX2_keepSupplied_52 ?_
            refine lv_istore_n (lv' := [(2, .int (nI ((f ||| mk (fun w => c 6 w ≠ 0 ∧ f.testBit (c 6 w - 1) = true) i) ||| 0))), (4, .ref (G (20 + w_18))), (3, .int (nI i)), (0, .ref (G 0)), (1, .int (nI f))]) hx hb dX2_keepSupplied_53 rfl hl (by decide) rfl (fun ls hl => ?_)
            refine lv_iinc (v := nI (i + 1)) (lv' := [(3, .int (nI (i + 1))), (2, .int (nI ((f ||| mk (fun w => c 6 w ≠ 0 ∧ f.testBit (c 6 w - 1) = true) i) ||| 0))), (4, .ref (G (20 + w_18))), (0, .ref (G 0)), (1, .int (nI f))]) hx hb dX2_keepSupplied_54 hl (k := 2) rfl (nI_add i 1) (by decide) rfl (fun ls hl => ?_)
            refine lv_goto (tgt := 4) hx hb dX2_keepSupplied_57 (by decide) ?_
            exact ih4 (i + 1) (by omega) (by omega)   _ _ _ _ hRc hRr hRo hP hD hS (show lv_has ls 6 [(3, .int (nI (i + 1))), (2, .int (nI (f ||| mk (fun w => c 6 w ≠ 0 ∧ f.testBit (c 6 w - 1) = true) (i + 1)))), (0, .ref (G 0)), (1, .int (nI f))] from by rw [show ((.int (nI (f ||| mk (fun w => c 6 w ≠ 0 ∧ f.testBit (c 6 w - 1) = true) (i + 1))) : Value)) = .int (nI ((f ||| mk (fun w => c 6 w ≠ 0 ∧ f.testBit (c 6 w - 1) = true) i) ||| 0)) from by exact congrArg (fun z => Value.int (nI z)) (show f ||| mk (fun w => c 6 w ≠ 0 ∧ f.testBit (c 6 w - 1) = true) (i + 1) = (f ||| mk (fun w => c 6 w ≠ 0 ∧ f.testBit (c 6 w - 1) = true) i) ||| 0 by rw [mk_f (fun (z : c 6 i ≠ 0 ∧ f.testBit (c 6 i - 1) = true) => by have z2 := z.2; rw [hz_18, Nat.add_sub_cancel] at z2; exact c_36 z2), Nat.or_zero])]; exact lv_sub hl [0, 1, 3, 4] rfl)
          · refine lv_aload_n hx hb dX2_keepSupplied_39 rfl (lv_at hl 3 rfl) ?_
            refine va_get (D := D) (ci := 3) (v := .ref (G 1)) (C := RX2) (T := TX2) (N := 7) hx hb hts inX2 hown hK hP 0 (Q_o hRc) rfl 0 (by decide) (hts (.fieldLink RX2 11 "BootStage" "rows" "[LBootStage$Unit;") (by decide +kernel)) (fun _ h9 => h9) rfl dX2_keepSupplied_40 ?_
            refine lv_iload_n hx hb dX2_keepSupplied_43 rfl (lv_at hl 1 rfl) ?_
            refine x_row hx hb hK hP hRc (by first | omega | decide | assumption) dX2_keepSupplied_44 ?_
            refine y_calli (va_runV (As := []) (rest := [.int (nI (f ||| mk (fun w => c 6 w ≠ 0 ∧ f.testBit (c 6 w - 1) = true) i))]) ⟨hx, hb, hml, hown, hts⟩ (k_X0_bit l D G h0 c r o i (by first | omega | assumption)) (cwV 0 hts gX2_keepSupplied_X0_bit rfl rfl rfl (by decide +kernel) ⟨Nat.le_of_ble_eq_true rfl, Nat.le_of_ble_eq_true rfl⟩) ⟨fun a U g mk q => ⟨q.1, Pr_cg q.2⟩, va_recv (ci := 1) (q0 := 7 + i) hK hP rfl (Q_u hRc (by first | omega | decide | assumption)), fun U hU hW => ⟨rfl, Pr_mk hE hRc hRr hRo hP hD hS hU hW⟩⟩ rfl rfl hl.1 rfl (lv_room (Nat.le_of_ble_eq_true rfl)) dX2_keepSupplied_45 ⟨Nat.le_of_ble_eq_true rfl, Nat.le_of_ble_eq_true rfl⟩) hS (fun v9 _ H locs wl hv9 hRc hRr hRo hP hD hS => ?_)
            refine n_top (y := .int (nI (2 ^ i))) (congrArg Value.int hv9) ?_
            clear hv9 v9
            refine lv_goto (tgt := 52) hx hb dX2_keepSupplied_48 (by decide) ?_
            refine n_ior hx hb dX2_keepSupplied_52 ?_
            refine lv_istore_n (lv' := [(2, .int (nI ((f ||| mk (fun w => c 6 w ≠ 0 ∧ f.testBit (c 6 w - 1) = true) i) ||| (2 ^ i)))), (4, .ref (G (20 + w_18))), (3, .int (nI i)), (0, .ref (G 0)), (1, .int (nI f))]) hx hb dX2_keepSupplied_53 rfl hl (by decide) rfl (fun ls hl => ?_)
            refine lv_iinc (v := nI (i + 1)) (lv' := [(3, .int (nI (i + 1))), (2, .int (nI ((f ||| mk (fun w => c 6 w ≠ 0 ∧ f.testBit (c 6 w - 1) = true) i) ||| (2 ^ i)))), (4, .ref (G (20 + w_18))), (0, .ref (G 0)), (1, .int (nI f))]) hx hb dX2_keepSupplied_54 hl (k := 2) rfl (nI_add i 1) (by decide) rfl (fun ls hl => ?_)
            refine lv_goto (tgt := 4) hx hb dX2_keepSupplied_57 (by decide) ?_
            exact ih4 (i + 1) (by omega) (by omega)   _ _ _ _ hRc hRr hRo hP hD hS (show lv_has ls 6 [(3, .int (nI (i + 1))), (2, .int (nI (f ||| mk (fun w => c 6 w ≠ 0 ∧ f.testBit (c 6 w - 1) = true) (i + 1)))), (0, .ref (G 0)), (1, .int (nI f))] from by rw [show ((.int (nI (f ||| mk (fun w => c 6 w ≠ 0 ∧ f.testBit (c 6 w - 1) = true) (i + 1))) : Value)) = .int (nI ((f ||| mk (fun w => c 6 w ≠ 0 ∧ f.testBit (c 6 w - 1) = true) i) ||| (2 ^ i))) from by exact congrArg (fun z => Value.int (nI z)) (show f ||| mk (fun w => c 6 w ≠ 0 ∧ f.testBit (c 6 w - 1) = true) (i + 1) = (f ||| mk (fun w => c 6 w ≠ 0 ∧ f.testBit (c 6 w - 1) = true) i) ||| 2 ^ i by rw [mk_t (show c 6 i ≠ 0 ∧ f.testBit (c 6 i - 1) = true from ⟨by rw [hz_18]; exact Nat.succ_ne_zero _, by rw [hz_18, Nat.add_sub_cancel]; exact c_36⟩), Nat.or_assoc])]; exact lv_sub hl [0, 1, 3, 4] rfl)
  exact L4 _ 0 (Nat.lt_succ_self _) (by omega)   _ _ _ _ hRc hRr hRo hP hD hS (show lv_has ls 6 [(3, .int (nI 0)), (2, .int (nI (f ||| mk (fun w => c 6 w ≠ 0 ∧ f.testBit (c 6 w - 1) = true) 0))), (0, .ref (G 0)), (1, .int (nI f))] from by rw [show ((.int (nI (f ||| mk (fun w => c 6 w ≠ 0 ∧ f.testBit (c 6 w - 1) = true) 0)) : Value)) = .int (nI f) from by exact congrArg (fun z => Value.int (nI z)) (Nat.or_zero f)]; exact lv_sub hl [0, 1, 2, 3] rfl)
set_option maxHeartbeats 4000000 in
set_option maxRecDepth 100000 in
theorem k_X2_canRun (l : Launch) (D : va_G) (G : Nat → Nat) (h0 : Nat) (c r : Nat → Nat → Nat) (o : Nat) (hI : IC c) : Met l yX2_canRun wsX2_canRun ({ frames := 3, cells := 0, slots := 0, locals := 67 } : Room) (va_Pc [.ref (G 0)] (fun U => Pr D G h0 c r o U)) (va_Qi (fun (v9 : Int32) (_ : Unit) => v9 = nI (canC c)) (fun _ t => Wr D G h0 c r o t) (fun q => h0 ≤ q)) 0 0 (fun q => h0 ≤ q) := by
  refine Met.ofW (cc := cX2_canRun) (maxL := 4) (ret := (some .int)) (by decide) rfl ?_
  intro p e s m args below meth cd s₁ B hml hv
  obtain ⟨rfl, hE, wl, hRc, hRr, hRo, hP, hD⟩ := hv
  have hx := B.exec
  have hb := B.bytes
  have hr := B.returns
  have hts := atoms_spec (ws := wsX2_canRun) B.pre
  have hown : s.vm.findClass RX2 = some m.cls := findClass_of_methodNamed B.named
  have hlocks := B.notSynchronized
  have hK := hE.2.1
  have hS : va_S (fun q => h0 ≤ q) s.heap s.heap [] := va_S.rf
  have hl := lv_entry ([.ref (G 0)]) (n := 4) (Nat.le_of_ble_eq_true rfl)
  rw [lg_entry_eq]
  generalize (lg_sl ([.ref (G 0)]) ++ List.replicate (4 - (lg_sl ([.ref (G 0)])).length) Slot.unset).toArray = ls at hl ⊢
  have hl : lv_has ls 4 [(0, .ref (G 0))] := hl
  have inX2 : ∀ w ∈ wsX20, w ∈ wsX2_canRun := by decide +kernel
  obtain ⟨Q, hQ⟩ : ∃ Q, Q = MQ below (va_Qi (fun (v9 : Int32) (_ : Unit) => v9 = nI (canC c)) (fun _ t => Wr D G h0 c r o t) (fun q => h0 ≤ q)) ([.ref (G 0)] : List Value).toArray s 0 0 (fun q => h0 ≤ q) := ⟨_, rfl⟩
  rw [← hQ]
  have hB := IC_B hI
  have hn := IC_n hI
  have hs := IC_s hI
  refine lv_aload_n hx hb dX2_canRun_0 rfl (lv_at hl 0 rfl) ?_
  refine y_calli (va_runV (As := []) (rest := []) ⟨hx, hb, hml, hown, hts⟩ (k_X2_ableAlone l D G h0 c r o hI) (cwV 0 hts gX2_canRun_X2_ableAlone rfl rfl rfl (by decide +kernel) ⟨Nat.le_of_ble_eq_true rfl, Nat.le_of_ble_eq_true rfl⟩) ⟨fun a U g mk q => ⟨q.1, Pr_cg q.2⟩, va_recv (ci := 3) (q0 := 0) hK hP rfl (Q_o hRc), fun U hU hW => ⟨rfl, Pr_mk hE hRc hRr hRo hP hD hS hU hW⟩⟩ rfl rfl hl.1 rfl (lv_room (Nat.le_of_ble_eq_true rfl)) dX2_canRun_1 ⟨Nat.le_of_ble_eq_true rfl, Nat.le_of_ble_eq_true rfl⟩) hS (fun v9 _ H locs wl hv9 hRc hRr hRo hP hD hS => ?_)
  refine n_top (y := .int (nI (mk (fun w => c 5 w = 0 ∧ c 4 w ≤ c 2 w) (c 20 1)))) (congrArg Value.int hv9) ?_
  clear hv9 v9
  refine lv_istore_n (lv' := [(1, .int (nI (mk (fun w => c 5 w = 0 ∧ c 4 w ≤ c 2 w) (c 20 1)))), (0, .ref (G 0))]) hx hb dX2_canRun_4 rfl hl (by decide) rfl (fun ls hl => ?_)
  refine lv_iconst (v := nI 0) hx hb dX2_canRun_5 (by decide) ?_
  refine lv_istore_n (lv' := [(2, .int (nI 0)), (1, .int (nI (mk (fun w => c 5 w = 0 ∧ c 4 w ≤ c 2 w) (c 20 1)))), (0, .ref (G 0))]) hx hb dX2_canRun_6 rfl hl (by decide) rfl (fun ls hl => ?_)
  refine lv_iconst (v := nI 0) hx hb dX2_canRun_7 (by decide) ?_
  refine lv_istore_n (lv' := [(3, .int (nI 0)), (2, .int (nI 0)), (1, .int (nI (mk (fun w => c 5 w = 0 ∧ c 4 w ≤ c 2 w) (c 20 1)))), (0, .ref (G 0))]) hx hb dX2_canRun_8 rfl hl (by decide) rfl (fun ls hl => ?_)
  have L9 : ∀ (d i : Nat), (c 20 1 + 1) - i < d → i ≤ (c 20 1 + 1) → ∀ (H : Heap) (locs : List Loc) (wl : va_W) (ls : Array Slot), Rc G c wl → Rr G r wl → Ro G o wl → va_P D vwCl wl H → va_D (fun q => h0 ≤ q) wl → va_S (fun q => h0 ≤ q) s.heap H locs → lv_has ls 4 [(3, .int (nI i)), (1, .int (nI (kpI c i))), (2, .int (nI (kpB c i))), (0, .ref (G 0))] → W p l e (headSpec wsX2_canRun ({ frames := 3, cells := 0, slots := 0, locals := 67 } : Room)).room s m ([.ref (G 0)] : List Value).toArray below meth cd H locs 0 0 Q (F0 m 9 ls []) := by
    intro d9
    induction d9 with
    | zero => intro i hd; exact absurd hd (Nat.not_lt_zero _)
    | succ d9 ih9 =>
      intro i hd hi  H locs wl ls hRc hRr hRo hP hD hS hl
      have hf1 : kpI c i < 2 ^ 20 := kpI_lt hn i
      have hf2 : kpB c i < 2 ^ 20 := kpB_lt hn i
      refine lv_iload_n hx hb dX2_canRun_9 rfl (lv_at hl 0 rfl) ?_
      refine lv_aload_n hx hb dX2_canRun_10 rfl (lv_at hl 3 rfl) ?_
      refine va_get (D := D) (ci := 3) (v := .int (nI (c 20 1))) (C := RX2) (T := TX2) (N := 7) hx hb hts inX2 hown hK hP 0 (Q_o hRc) rfl 1 (by decide) (hts (.fieldLink RX2 15 "BootStage" "count" "I") (by decide +kernel)) (fun _ h9 => h9) rfl dX2_canRun_11 ?_
      refine n_icmp_gt (tgt := 36) hx hb dX2_canRun_14 (by decide) (by omega) (hB _ _ (by decide)) (fun c_14 => ?_) (fun c_14 => ?_)
      · refine lv_iload_n hx hb dX2_canRun_36 rfl (lv_at hl 1 rfl) ?_
        rw [hQ]
        exact W.iret (v := nI (kpI c i)) hx hb hr (fun t ht hW => ⟨⟨_, (), rfl, (show nI (kpI c i) = nI (canC c) from by exact congrArg nI (canC_fin (by first | exact Or.inl (by assumption) | exact Or.inr (by assumption)))), Wr_mk hRc hRr hRo hP hD ht⟩, hS.F ht⟩) hS.2.2 dX2_canRun_37
      · refine lv_iload_n hx hb dX2_canRun_17 rfl (lv_at hl 1 rfl) ?_
        refine lv_iload_n hx hb dX2_canRun_18 rfl (lv_at hl 2 rfl) ?_
        refine n_icmp_eq (tgt := 36) hx hb dX2_canRun_19 (by decide) (Nat.lt_trans hf1 (by decide)) (Nat.lt_trans hf2 (by decide)) (fun c_19 => ?_) (fun c_19 => ?_)
        · refine lv_iload_n hx hb dX2_canRun_36 rfl (lv_at hl 1 rfl) ?_
          rw [hQ]
          exact W.iret (v := nI (kpI c i)) hx hb hr (fun t ht hW => ⟨⟨_, (), rfl, (show nI (kpI c i) = nI (canC c) from by exact congrArg nI (canC_fin (by first | exact Or.inl (by assumption) | exact Or.inr (by assumption)))), Wr_mk hRc hRr hRo hP hD ht⟩, hS.F ht⟩) hS.2.2 dX2_canRun_37
        · refine lv_iload_n hx hb dX2_canRun_22 rfl (lv_at hl 1 rfl) ?_
          refine lv_istore_n (lv' := [(2, .int (nI (kpI c i))), (3, .int (nI i)), (1, .int (nI (kpI c i))), (0, .ref (G 0))]) hx hb dX2_canRun_23 rfl hl (by decide) rfl (fun ls hl => ?_)
          refine lv_aload_n hx hb dX2_canRun_24 rfl (lv_at hl 3 rfl) ?_
          refine lv_iload_n hx hb dX2_canRun_25 rfl (lv_at hl 2 rfl) ?_
          refine y_calli (va_runV (As := [.int (nI (kpI c i))]) (rest := []) ⟨hx, hb, hml, hown, hts⟩ (k_X2_keepSupplied l D G h0 c r o hI (kpI c i) (by assumption)) (cwV 1 hts gX2_canRun_X2_keepSupplied rfl rfl rfl (by decide +kernel) ⟨Nat.le_of_ble_eq_true rfl, Nat.le_of_ble_eq_true rfl⟩) ⟨fun a U g mk q => ⟨q.1, Pr_cg q.2⟩, va_recv (ci := 3) (q0 := 0) hK hP rfl (Q_o hRc), fun U hU hW => ⟨rfl, Pr_mk hE hRc hRr hRo hP hD hS hU hW⟩⟩ rfl rfl hl.1 rfl (lv_room (Nat.le_of_ble_eq_true rfl)) dX2_canRun_26 ⟨Nat.le_of_ble_eq_true rfl, Nat.le_of_ble_eq_true rfl⟩) hS (fun v9 _ H locs wl hv9 hRc hRr hRo hP hD hS => ?_)
          refine n_top (y := .int (nI (keepS c (kpI c i)))) (congrArg Value.int hv9) ?_
          clear hv9 v9
          refine lv_istore_n (lv' := [(1, .int (nI (keepS c (kpI c i)))), (2, .int (nI (kpI c i))), (3, .int (nI i)), (0, .ref (G 0))]) hx hb dX2_canRun_29 rfl hl (by decide) rfl (fun ls hl => ?_)
          refine lv_iinc (v := nI (i + 1)) (lv' := [(3, .int (nI (i + 1))), (1, .int (nI (keepS c (kpI c i)))), (2, .int (nI (kpI c i))), (0, .ref (G 0))]) hx hb dX2_canRun_30 hl (k := 2) rfl (nI_add i 1) (by decide) rfl (fun ls hl => ?_)
          refine lv_goto (tgt := 9) hx hb dX2_canRun_33 (by decide) ?_
          exact ih9 (i + 1) (by omega) (by omega)   _ _ _ _ hRc hRr hRo hP hD hS (show lv_has ls 4 [(3, .int (nI (i + 1))), (1, .int (nI (kpI c (i + 1)))), (2, .int (nI (kpB c (i + 1)))), (0, .ref (G 0))] from by rw [show ((.int (nI (kpI c (i + 1))) : Value)) = .int (nI (keepS c (kpI c i))) from by rfl, show ((.int (nI (kpB c (i + 1))) : Value)) = .int (nI (kpI c i)) from by rfl]; exact lv_sub hl [0, 1, 2, 3] rfl)
  exact L9 _ 0 (Nat.lt_succ_self _) (by omega)   _ _ _ _ hRc hRr hRo hP hD hS (show lv_has ls 4 [(3, .int (nI 0)), (1, .int (nI (kpI c 0))), (2, .int (nI (kpB c 0))), (0, .ref (G 0))] from by rw [show ((.int (nI (kpI c 0)) : Value)) = .int (nI (mk (fun w => c 5 w = 0 ∧ c 4 w ≤ c 2 w) (c 20 1))) from by rfl, show ((.int (nI (kpB c 0)) : Value)) = .int (nI 0) from by rfl]; exact lv_sub hl [0, 2, 1, 3] rfl)
set_option maxHeartbeats 4000000 in
set_option maxRecDepth 100000 in
theorem k_X2_isAwaited (l : Launch) (D : va_G) (G : Nat → Nat) (h0 : Nat) (c r : Nat → Nat → Nat) (o : Nat) (hI : IC c) (v u : Nat) (hv : v < 20) (hu : u < 20) : Met l yX2_isAwaited wsX2_isAwaited ({ frames := 2, cells := 0, slots := 0, locals := 42 } : Room) (va_Pc [.ref (G 0), .ref (G (20 + v)), .ref (G (20 + u))] (fun U => Pr D G h0 c r o U)) (va_Qi (fun (v9 : Int32) (_ : Unit) => v9 = nI (bN (awC c u v))) (fun _ t => Wr D G h0 c r o t) (fun q => h0 ≤ q)) 0 0 (fun q => h0 ≤ q) := by
  refine Met.ofW (cc := cX2_isAwaited) (maxL := 5) (ret := (some .boolean)) (by decide) rfl ?_
  intro p e s m args below meth cd s₁ B hml hv
  obtain ⟨rfl, hE, wl, hRc, hRr, hRo, hP, hD⟩ := hv
  have hx := B.exec
  have hb := B.bytes
  have hr := B.returns
  have hts := atoms_spec (ws := wsX2_isAwaited) B.pre
  have hown : s.vm.findClass RX2 = some m.cls := findClass_of_methodNamed B.named
  have hlocks := B.notSynchronized
  have hK := hE.2.1
  have hS : va_S (fun q => h0 ≤ q) s.heap s.heap [] := va_S.rf
  have hl := lv_entry ([.ref (G 0), .ref (G (20 + v)), .ref (G (20 + u))]) (n := 5) (Nat.le_of_ble_eq_true rfl)
  rw [lg_entry_eq]
  generalize (lg_sl ([.ref (G 0), .ref (G (20 + v)), .ref (G (20 + u))]) ++ List.replicate (5 - (lg_sl ([.ref (G 0), .ref (G (20 + v)), .ref (G (20 + u))])).length) Slot.unset).toArray = ls at hl ⊢
  have hl : lv_has ls 5 [(0, .ref (G 0)), (1, .ref (G (20 + v))), (2, .ref (G (20 + u)))] := hl
  have inX0 : ∀ w ∈ wsX00, w ∈ wsX2_isAwaited := by decide +kernel
  have hB := IC_B hI
  have hn := IC_n hI
  have hs := IC_s hI
  refine lv_aload_n hx hb dX2_isAwaited_0 rfl (lv_at hl 0 rfl) ?_
  refine lv_aload_n hx hb dX2_isAwaited_1 rfl (lv_at hl 2 rfl) ?_
  refine va_get (D := D) (ci := 1) (v := .int (nI (c 7 u))) (C := RX0) (T := TX0) (N := 13) hx hb hts inX0 hown hK hP (7 + u) (Q_u hRc (by first | omega | decide | assumption)) rfl 7 (by decide) (hts (.fieldLink RX2 75 "BootStage$Unit" "needs" "I") (by decide +kernel)) (fun _ h9 => h9) rfl dX2_isAwaited_2 ?_
  refine lv_aload_n hx hb dX2_isAwaited_5 rfl (lv_at hl 1 rfl) ?_
  refine y_calli (va_runV (As := [.int (nI (c 7 u)), .ref (G (20 + v))]) (rest := []) ⟨hx, hb, hml, hown, hts⟩ (k_X2_contains l D G h0 c r o (c 7 u) v (by first | omega | assumption)) (cwV 2 hts gX2_isAwaited_X2_contains rfl rfl rfl (by decide +kernel) ⟨Nat.le_of_ble_eq_true rfl, Nat.le_of_ble_eq_true rfl⟩) ⟨fun a U g mk q => ⟨q.1, Pr_cg q.2⟩, va_recv (ci := 3) (q0 := 0) hK hP rfl (Q_o hRc), fun U hU hW => ⟨rfl, Pr_mk hE hRc hRr hRo hP hD hS hU hW⟩⟩ rfl rfl hl.1 rfl (lv_room (Nat.le_of_ble_eq_true rfl)) dX2_isAwaited_6 ⟨Nat.le_of_ble_eq_true rfl, Nat.le_of_ble_eq_true rfl⟩) hS (fun v9 _ H locs wl hv9 hRc hRr hRo hP hD hS => ?_)
  refine n_top (y := .int (nI (bN (Nat.testBit (c 7 u) v = true)))) (congrArg Value.int hv9) ?_
  clear hv9 v9
  refine n_ifb_eq (tgt := 30) hx hb dX2_isAwaited_9 (by decide) (fun c_9 => ?_) (fun c_9 => ?_)
  · refine lv_iconst (v := nI 0) hx hb dX2_isAwaited_30 (by decide) ?_
    refine lv_istore_n (lv' := [(3, .int (nI 0)), (0, .ref (G 0)), (1, .ref (G (20 + v))), (2, .ref (G (20 + u)))]) hx hb dX2_isAwaited_31 rfl hl (by decide) rfl (fun ls hl => ?_)
    refine lv_aload_n hx hb dX2_isAwaited_32 rfl (lv_at hl 1 rfl) ?_
    refine lv_aload_n hx hb dX2_isAwaited_33 rfl (lv_at hl 3 rfl) ?_
    refine va_get (D := D) (ci := 1) (v := .int (nI (c 8 u))) (C := RX0) (T := TX0) (N := 13) hx hb hts inX0 hown hK hP (7 + u) (Q_u hRc (by first | omega | decide | assumption)) rfl 8 (by decide) (hts (.fieldLink RX2 103 "BootStage$Unit" "keptWishes" "I") (by decide +kernel)) (fun _ h9 => h9) rfl dX2_isAwaited_34 ?_
    refine lv_aload_n hx hb dX2_isAwaited_37 rfl (lv_at hl 2 rfl) ?_
    refine y_calli (va_runV (As := [.int (nI (c 8 u)), .ref (G (20 + v))]) (rest := []) ⟨hx, hb, hml, hown, hts⟩ (k_X2_contains l D G h0 c r o (c 8 u) v (by first | omega | assumption)) (cwV 2 hts gX2_isAwaited_X2_contains rfl rfl rfl (by decide +kernel) ⟨Nat.le_of_ble_eq_true rfl, Nat.le_of_ble_eq_true rfl⟩) ⟨fun a U g mk q => ⟨q.1, Pr_cg q.2⟩, va_recv (ci := 3) (q0 := 0) hK hP rfl (Q_o hRc), fun U hU hW => ⟨rfl, Pr_mk hE hRc hRr hRo hP hD hS hU hW⟩⟩ rfl rfl hl.1 rfl (lv_room (Nat.le_of_ble_eq_true rfl)) dX2_isAwaited_38 ⟨Nat.le_of_ble_eq_true rfl, Nat.le_of_ble_eq_true rfl⟩) hS (fun v9 _ H locs wl hv9 hRc hRr hRo hP hD hS => ?_)
    refine n_top (y := .int (nI (bN (Nat.testBit (c 8 u) v = true)))) (congrArg Value.int hv9) ?_
    clear hv9 v9
    refine n_ifb_eq (tgt := 55) hx hb dX2_isAwaited_41 (by decide) (fun c_41 => ?_) (fun c_41 => ?_)
    · refine lv_iconst (v := nI 0) hx hb dX2_isAwaited_55 (by decide) ?_
      refine lv_istore (lv' := [(4, .int (nI 0)), (3, .int (nI 0)), (0, .ref (G 0)), (1, .ref (G (20 + v))), (2, .ref (G (20 + u)))]) hx hb dX2_isAwaited_56 hl (by decide) rfl (fun ls hl => ?_)
      refine lv_iload_n hx hb dX2_isAwaited_58 rfl (lv_at hl 1 rfl) ?_
      refine n_if_ne (tgt := 67) hx hb dX2_isAwaited_59 (by decide) (by decide) (fun c_59 => absurd c_59 (by decide)) (fun c_59 => ?_)
      refine lv_iload hx hb dX2_isAwaited_62 (lv_at hl 0 rfl) ?_
      refine n_if_eq (tgt := 71) hx hb dX2_isAwaited_64 (by decide) (by decide) (fun c_64 => ?_) (fun c_64 => absurd c_64 (by decide))
      refine lv_iconst (v := nI 0) hx hb dX2_isAwaited_71 (by decide) ?_
      exact W.zret (v := nI 0) (ty := .boolean) hx hb hr (nb_le (by first | exact bN_le _ | decide | omega | assumption)) (fun t ht hW => ⟨⟨_, (), rfl, (show nI 0 = nI (bN (awC c u v)) from by exact congrArg nI (bN_f (fun z => z.elim (fun z => absurd z.1 c_9) (fun z => absurd z.1 c_41))).symm), Wr_mk hRc hRr hRo hP hD ht⟩, hS.F ht⟩) hS.2.2 dX2_isAwaited_72
    · refine lv_aload_n hx hb dX2_isAwaited_44 rfl (lv_at hl 2 rfl) ?_
      refine y_calli (va_runV (As := []) (rest := []) ⟨hx, hb, hml, hown, hts⟩ (k_X0_isWishDone l D G h0 c r o v (by first | omega | assumption) hB) (cwV 0 hts gX2_isAwaited_X0_isWishDone rfl rfl rfl (by decide +kernel) ⟨Nat.le_of_ble_eq_true rfl, Nat.le_of_ble_eq_true rfl⟩) ⟨fun a U g mk q => ⟨q.1, Pr_cg q.2⟩, va_recv (ci := 1) (q0 := 7 + v) hK hP rfl (Q_u hRc (by first | omega | decide | assumption)), fun U hU hW => ⟨rfl, Pr_mk hE hRc hRr hRo hP hD hS hU hW⟩⟩ rfl rfl hl.1 rfl (lv_room (Nat.le_of_ble_eq_true rfl)) dX2_isAwaited_45 ⟨Nat.le_of_ble_eq_true rfl, Nat.le_of_ble_eq_true rfl⟩) hS (fun v9 _ H locs wl hv9 hRc hRr hRo hP hD hS => ?_)
      refine n_top (y := .int (nI (bN (doneP (c 9) v)))) (congrArg Value.int hv9) ?_
      clear hv9 v9
      refine n_ifb_ne (tgt := 55) hx hb dX2_isAwaited_48 (by decide) (fun c_48 => ?_) (fun c_48 => ?_)
      · refine lv_iconst (v := nI 0) hx hb dX2_isAwaited_55 (by decide) ?_
        refine lv_istore (lv' := [(4, .int (nI 0)), (3, .int (nI 0)), (0, .ref (G 0)), (1, .ref (G (20 + v))), (2, .ref (G (20 + u)))]) hx hb dX2_isAwaited_56 hl (by decide) rfl (fun ls hl => ?_)
        refine lv_iload_n hx hb dX2_isAwaited_58 rfl (lv_at hl 1 rfl) ?_
        refine n_if_ne (tgt := 67) hx hb dX2_isAwaited_59 (by decide) (by decide) (fun c_59 => absurd c_59 (by decide)) (fun c_59 => ?_)
        refine lv_iload hx hb dX2_isAwaited_62 (lv_at hl 0 rfl) ?_
        refine n_if_eq (tgt := 71) hx hb dX2_isAwaited_64 (by decide) (by decide) (fun c_64 => ?_) (fun c_64 => absurd c_64 (by decide))
        refine lv_iconst (v := nI 0) hx hb dX2_isAwaited_71 (by decide) ?_
        exact W.zret (v := nI 0) (ty := .boolean) hx hb hr (nb_le (by first | exact bN_le _ | decide | omega | assumption)) (fun t ht hW => ⟨⟨_, (), rfl, (show nI 0 = nI (bN (awC c u v)) from by exact congrArg nI (bN_f (fun z => z.elim (fun z => absurd z.1 c_9) (fun z => absurd c_48 z.2))).symm), Wr_mk hRc hRr hRo hP hD ht⟩, hS.F ht⟩) hS.2.2 dX2_isAwaited_72
      · refine lv_iconst (v := nI 1) hx hb dX2_isAwaited_51 (by decide) ?_
        refine lv_goto (tgt := 56) hx hb dX2_isAwaited_52 (by decide) ?_
        refine lv_istore (lv' := [(4, .int (nI 1)), (3, .int (nI 0)), (0, .ref (G 0)), (1, .ref (G (20 + v))), (2, .ref (G (20 + u)))]) hx hb dX2_isAwaited_56 hl (by decide) rfl (fun ls hl => ?_)
        refine lv_iload_n hx hb dX2_isAwaited_58 rfl (lv_at hl 1 rfl) ?_
        refine n_if_ne (tgt := 67) hx hb dX2_isAwaited_59 (by decide) (by decide) (fun c_59 => absurd c_59 (by decide)) (fun c_59 => ?_)
        refine lv_iload hx hb dX2_isAwaited_62 (lv_at hl 0 rfl) ?_
        refine n_if_eq (tgt := 71) hx hb dX2_isAwaited_64 (by decide) (by decide) (fun c_64 => absurd c_64 (by decide)) (fun c_64 => ?_)
        refine lv_iconst (v := nI 1) hx hb dX2_isAwaited_67 (by decide) ?_
        refine lv_goto (tgt := 72) hx hb dX2_isAwaited_68 (by decide) ?_
        exact W.zret (v := nI 1) (ty := .boolean) hx hb hr (nb_le (by first | exact bN_le _ | decide | omega | assumption)) (fun t ht hW => ⟨⟨_, (), rfl, (show nI 1 = nI (bN (awC c u v)) from by exact congrArg nI (bN_t (Or.inr ⟨by assumption, by assumption⟩)).symm), Wr_mk hRc hRr hRo hP hD ht⟩, hS.F ht⟩) hS.2.2 dX2_isAwaited_72
  · refine lv_aload_n hx hb dX2_isAwaited_12 rfl (lv_at hl 1 rfl) ?_
    refine y_calli (va_runV (As := []) (rest := []) ⟨hx, hb, hml, hown, hts⟩ (k_X0_isNeedMet l D G h0 c r o v (by first | omega | assumption) hB hs) (cwV 0 hts gX2_isAwaited_X0_isNeedMet rfl rfl rfl (by decide +kernel) ⟨Nat.le_of_ble_eq_true rfl, Nat.le_of_ble_eq_true rfl⟩) ⟨fun a U g mk q => ⟨q.1, Pr_cg q.2⟩, va_recv (ci := 1) (q0 := 7 + v) hK hP rfl (Q_u hRc (by first | omega | decide | assumption)), fun U hU hW => ⟨rfl, Pr_mk hE hRc hRr hRo hP hD hS hU hW⟩⟩ rfl rfl hl.1 rfl (lv_room (Nat.le_of_ble_eq_true rfl)) dX2_isAwaited_13 ⟨Nat.le_of_ble_eq_true rfl, Nat.le_of_ble_eq_true rfl⟩) hS (fun v9 _ H locs wl hv9 hRc hRr hRo hP hD hS => ?_)
    refine n_top (y := .int (nI (bN (metP (c 9) (c 6) v)))) (congrArg Value.int hv9) ?_
    clear hv9 v9
    refine n_ifb_ne (tgt := 30) hx hb dX2_isAwaited_16 (by decide) (fun c_16 => ?_) (fun c_16 => ?_)
    · refine lv_iconst (v := nI 0) hx hb dX2_isAwaited_30 (by decide) ?_
      refine lv_istore_n (lv' := [(3, .int (nI 0)), (0, .ref (G 0)), (1, .ref (G (20 + v))), (2, .ref (G (20 + u)))]) hx hb dX2_isAwaited_31 rfl hl (by decide) rfl (fun ls hl => ?_)
      refine lv_aload_n hx hb dX2_isAwaited_32 rfl (lv_at hl 1 rfl) ?_
      refine lv_aload_n hx hb dX2_isAwaited_33 rfl (lv_at hl 3 rfl) ?_
      refine va_get (D := D) (ci := 1) (v := .int (nI (c 8 u))) (C := RX0) (T := TX0) (N := 13) hx hb hts inX0 hown hK hP (7 + u) (Q_u hRc (by first | omega | decide | assumption)) rfl 8 (by decide) (hts (.fieldLink RX2 103 "BootStage$Unit" "keptWishes" "I") (by decide +kernel)) (fun _ h9 => h9) rfl dX2_isAwaited_34 ?_
      refine lv_aload_n hx hb dX2_isAwaited_37 rfl (lv_at hl 2 rfl) ?_
      refine y_calli (va_runV (As := [.int (nI (c 8 u)), .ref (G (20 + v))]) (rest := []) ⟨hx, hb, hml, hown, hts⟩ (k_X2_contains l D G h0 c r o (c 8 u) v (by first | omega | assumption)) (cwV 2 hts gX2_isAwaited_X2_contains rfl rfl rfl (by decide +kernel) ⟨Nat.le_of_ble_eq_true rfl, Nat.le_of_ble_eq_true rfl⟩) ⟨fun a U g mk q => ⟨q.1, Pr_cg q.2⟩, va_recv (ci := 3) (q0 := 0) hK hP rfl (Q_o hRc), fun U hU hW => ⟨rfl, Pr_mk hE hRc hRr hRo hP hD hS hU hW⟩⟩ rfl rfl hl.1 rfl (lv_room (Nat.le_of_ble_eq_true rfl)) dX2_isAwaited_38 ⟨Nat.le_of_ble_eq_true rfl, Nat.le_of_ble_eq_true rfl⟩) hS (fun v9 _ H locs wl hv9 hRc hRr hRo hP hD hS => ?_)
      refine n_top (y := .int (nI (bN (Nat.testBit (c 8 u) v = true)))) (congrArg Value.int hv9) ?_
      clear hv9 v9
      refine n_ifb_eq (tgt := 55) hx hb dX2_isAwaited_41 (by decide) (fun c_41 => ?_) (fun c_41 => ?_)
      · refine lv_iconst (v := nI 0) hx hb dX2_isAwaited_55 (by decide) ?_
        refine lv_istore (lv' := [(4, .int (nI 0)), (3, .int (nI 0)), (0, .ref (G 0)), (1, .ref (G (20 + v))), (2, .ref (G (20 + u)))]) hx hb dX2_isAwaited_56 hl (by decide) rfl (fun ls hl => ?_)
        refine lv_iload_n hx hb dX2_isAwaited_58 rfl (lv_at hl 1 rfl) ?_
        refine n_if_ne (tgt := 67) hx hb dX2_isAwaited_59 (by decide) (by decide) (fun c_59 => absurd c_59 (by decide)) (fun c_59 => ?_)
        refine lv_iload hx hb dX2_isAwaited_62 (lv_at hl 0 rfl) ?_
        refine n_if_eq (tgt := 71) hx hb dX2_isAwaited_64 (by decide) (by decide) (fun c_64 => ?_) (fun c_64 => absurd c_64 (by decide))
        refine lv_iconst (v := nI 0) hx hb dX2_isAwaited_71 (by decide) ?_
        exact W.zret (v := nI 0) (ty := .boolean) hx hb hr (nb_le (by first | exact bN_le _ | decide | omega | assumption)) (fun t ht hW => ⟨⟨_, (), rfl, (show nI 0 = nI (bN (awC c u v)) from by exact congrArg nI (bN_f (fun z => z.elim (fun z => absurd c_16 z.2.1) (fun z => absurd z.1 c_41))).symm), Wr_mk hRc hRr hRo hP hD ht⟩, hS.F ht⟩) hS.2.2 dX2_isAwaited_72
      · refine lv_aload_n hx hb dX2_isAwaited_44 rfl (lv_at hl 2 rfl) ?_
        refine y_calli (va_runV (As := []) (rest := []) ⟨hx, hb, hml, hown, hts⟩ (k_X0_isWishDone l D G h0 c r o v (by first | omega | assumption) hB) (cwV 0 hts gX2_isAwaited_X0_isWishDone rfl rfl rfl (by decide +kernel) ⟨Nat.le_of_ble_eq_true rfl, Nat.le_of_ble_eq_true rfl⟩) ⟨fun a U g mk q => ⟨q.1, Pr_cg q.2⟩, va_recv (ci := 1) (q0 := 7 + v) hK hP rfl (Q_u hRc (by first | omega | decide | assumption)), fun U hU hW => ⟨rfl, Pr_mk hE hRc hRr hRo hP hD hS hU hW⟩⟩ rfl rfl hl.1 rfl (lv_room (Nat.le_of_ble_eq_true rfl)) dX2_isAwaited_45 ⟨Nat.le_of_ble_eq_true rfl, Nat.le_of_ble_eq_true rfl⟩) hS (fun v9 _ H locs wl hv9 hRc hRr hRo hP hD hS => ?_)
        refine n_top (y := .int (nI (bN (doneP (c 9) v)))) (congrArg Value.int hv9) ?_
        clear hv9 v9
        refine n_ifb_ne (tgt := 55) hx hb dX2_isAwaited_48 (by decide) (fun c_48 => ?_) (fun c_48 => ?_)
        · refine lv_iconst (v := nI 0) hx hb dX2_isAwaited_55 (by decide) ?_
          refine lv_istore (lv' := [(4, .int (nI 0)), (3, .int (nI 0)), (0, .ref (G 0)), (1, .ref (G (20 + v))), (2, .ref (G (20 + u)))]) hx hb dX2_isAwaited_56 hl (by decide) rfl (fun ls hl => ?_)
          refine lv_iload_n hx hb dX2_isAwaited_58 rfl (lv_at hl 1 rfl) ?_
          refine n_if_ne (tgt := 67) hx hb dX2_isAwaited_59 (by decide) (by decide) (fun c_59 => absurd c_59 (by decide)) (fun c_59 => ?_)
          refine lv_iload hx hb dX2_isAwaited_62 (lv_at hl 0 rfl) ?_
          refine n_if_eq (tgt := 71) hx hb dX2_isAwaited_64 (by decide) (by decide) (fun c_64 => ?_) (fun c_64 => absurd c_64 (by decide))
          refine lv_iconst (v := nI 0) hx hb dX2_isAwaited_71 (by decide) ?_
          exact W.zret (v := nI 0) (ty := .boolean) hx hb hr (nb_le (by first | exact bN_le _ | decide | omega | assumption)) (fun t ht hW => ⟨⟨_, (), rfl, (show nI 0 = nI (bN (awC c u v)) from by exact congrArg nI (bN_f (fun z => z.elim (fun z => absurd c_16 z.2.1) (fun z => absurd c_48 z.2))).symm), Wr_mk hRc hRr hRo hP hD ht⟩, hS.F ht⟩) hS.2.2 dX2_isAwaited_72
        · refine lv_iconst (v := nI 1) hx hb dX2_isAwaited_51 (by decide) ?_
          refine lv_goto (tgt := 56) hx hb dX2_isAwaited_52 (by decide) ?_
          refine lv_istore (lv' := [(4, .int (nI 1)), (3, .int (nI 0)), (0, .ref (G 0)), (1, .ref (G (20 + v))), (2, .ref (G (20 + u)))]) hx hb dX2_isAwaited_56 hl (by decide) rfl (fun ls hl => ?_)
          refine lv_iload_n hx hb dX2_isAwaited_58 rfl (lv_at hl 1 rfl) ?_
          refine n_if_ne (tgt := 67) hx hb dX2_isAwaited_59 (by decide) (by decide) (fun c_59 => absurd c_59 (by decide)) (fun c_59 => ?_)
          refine lv_iload hx hb dX2_isAwaited_62 (lv_at hl 0 rfl) ?_
          refine n_if_eq (tgt := 71) hx hb dX2_isAwaited_64 (by decide) (by decide) (fun c_64 => absurd c_64 (by decide)) (fun c_64 => ?_)
          refine lv_iconst (v := nI 1) hx hb dX2_isAwaited_67 (by decide) ?_
          refine lv_goto (tgt := 72) hx hb dX2_isAwaited_68 (by decide) ?_
          exact W.zret (v := nI 1) (ty := .boolean) hx hb hr (nb_le (by first | exact bN_le _ | decide | omega | assumption)) (fun t ht hW => ⟨⟨_, (), rfl, (show nI 1 = nI (bN (awC c u v)) from by exact congrArg nI (bN_t (Or.inr ⟨by assumption, by assumption⟩)).symm), Wr_mk hRc hRr hRo hP hD ht⟩, hS.F ht⟩) hS.2.2 dX2_isAwaited_72
    · refine lv_aload_n hx hb dX2_isAwaited_19 rfl (lv_at hl 1 rfl) ?_
      refine y_calli (va_runV (As := []) (rest := []) ⟨hx, hb, hml, hown, hts⟩ (k_X0_isNeedLost l D G h0 c r o v (by first | omega | assumption) hB hs) (cwV 0 hts gX2_isAwaited_X0_isNeedLost rfl rfl rfl (by decide +kernel) ⟨Nat.le_of_ble_eq_true rfl, Nat.le_of_ble_eq_true rfl⟩) ⟨fun a U g mk q => ⟨q.1, Pr_cg q.2⟩, va_recv (ci := 1) (q0 := 7 + v) hK hP rfl (Q_u hRc (by first | omega | decide | assumption)), fun U hU hW => ⟨rfl, Pr_mk hE hRc hRr hRo hP hD hS hU hW⟩⟩ rfl rfl hl.1 rfl (lv_room (Nat.le_of_ble_eq_true rfl)) dX2_isAwaited_20 ⟨Nat.le_of_ble_eq_true rfl, Nat.le_of_ble_eq_true rfl⟩) hS (fun v9 _ H locs wl hv9 hRc hRr hRo hP hD hS => ?_)
      refine n_top (y := .int (nI (bN (lostP (c 9) (c 6) v)))) (congrArg Value.int hv9) ?_
      clear hv9 v9
      refine n_ifb_ne (tgt := 30) hx hb dX2_isAwaited_23 (by decide) (fun c_23 => ?_) (fun c_23 => ?_)
      · refine lv_iconst (v := nI 0) hx hb dX2_isAwaited_30 (by decide) ?_
        refine lv_istore_n (lv' := [(3, .int (nI 0)), (0, .ref (G 0)), (1, .ref (G (20 + v))), (2, .ref (G (20 + u)))]) hx hb dX2_isAwaited_31 rfl hl (by decide) rfl (fun ls hl => ?_)
        refine lv_aload_n hx hb dX2_isAwaited_32 rfl (lv_at hl 1 rfl) ?_
        refine lv_aload_n hx hb dX2_isAwaited_33 rfl (lv_at hl 3 rfl) ?_
        refine va_get (D := D) (ci := 1) (v := .int (nI (c 8 u))) (C := RX0) (T := TX0) (N := 13) hx hb hts inX0 hown hK hP (7 + u) (Q_u hRc (by first | omega | decide | assumption)) rfl 8 (by decide) (hts (.fieldLink RX2 103 "BootStage$Unit" "keptWishes" "I") (by decide +kernel)) (fun _ h9 => h9) rfl dX2_isAwaited_34 ?_
        refine lv_aload_n hx hb dX2_isAwaited_37 rfl (lv_at hl 2 rfl) ?_
        refine y_calli (va_runV (As := [.int (nI (c 8 u)), .ref (G (20 + v))]) (rest := []) ⟨hx, hb, hml, hown, hts⟩ (k_X2_contains l D G h0 c r o (c 8 u) v (by first | omega | assumption)) (cwV 2 hts gX2_isAwaited_X2_contains rfl rfl rfl (by decide +kernel) ⟨Nat.le_of_ble_eq_true rfl, Nat.le_of_ble_eq_true rfl⟩) ⟨fun a U g mk q => ⟨q.1, Pr_cg q.2⟩, va_recv (ci := 3) (q0 := 0) hK hP rfl (Q_o hRc), fun U hU hW => ⟨rfl, Pr_mk hE hRc hRr hRo hP hD hS hU hW⟩⟩ rfl rfl hl.1 rfl (lv_room (Nat.le_of_ble_eq_true rfl)) dX2_isAwaited_38 ⟨Nat.le_of_ble_eq_true rfl, Nat.le_of_ble_eq_true rfl⟩) hS (fun v9 _ H locs wl hv9 hRc hRr hRo hP hD hS => ?_)
        refine n_top (y := .int (nI (bN (Nat.testBit (c 8 u) v = true)))) (congrArg Value.int hv9) ?_
        clear hv9 v9
        refine n_ifb_eq (tgt := 55) hx hb dX2_isAwaited_41 (by decide) (fun c_41 => ?_) (fun c_41 => ?_)
        · refine lv_iconst (v := nI 0) hx hb dX2_isAwaited_55 (by decide) ?_
          refine lv_istore (lv' := [(4, .int (nI 0)), (3, .int (nI 0)), (0, .ref (G 0)), (1, .ref (G (20 + v))), (2, .ref (G (20 + u)))]) hx hb dX2_isAwaited_56 hl (by decide) rfl (fun ls hl => ?_)
          refine lv_iload_n hx hb dX2_isAwaited_58 rfl (lv_at hl 1 rfl) ?_
          refine n_if_ne (tgt := 67) hx hb dX2_isAwaited_59 (by decide) (by decide) (fun c_59 => absurd c_59 (by decide)) (fun c_59 => ?_)
          refine lv_iload hx hb dX2_isAwaited_62 (lv_at hl 0 rfl) ?_
          refine n_if_eq (tgt := 71) hx hb dX2_isAwaited_64 (by decide) (by decide) (fun c_64 => ?_) (fun c_64 => absurd c_64 (by decide))
          refine lv_iconst (v := nI 0) hx hb dX2_isAwaited_71 (by decide) ?_
          exact W.zret (v := nI 0) (ty := .boolean) hx hb hr (nb_le (by first | exact bN_le _ | decide | omega | assumption)) (fun t ht hW => ⟨⟨_, (), rfl, (show nI 0 = nI (bN (awC c u v)) from by exact congrArg nI (bN_f (fun z => z.elim (fun z => absurd c_23 z.2.2) (fun z => absurd z.1 c_41))).symm), Wr_mk hRc hRr hRo hP hD ht⟩, hS.F ht⟩) hS.2.2 dX2_isAwaited_72
        · refine lv_aload_n hx hb dX2_isAwaited_44 rfl (lv_at hl 2 rfl) ?_
          refine y_calli (va_runV (As := []) (rest := []) ⟨hx, hb, hml, hown, hts⟩ (k_X0_isWishDone l D G h0 c r o v (by first | omega | assumption) hB) (cwV 0 hts gX2_isAwaited_X0_isWishDone rfl rfl rfl (by decide +kernel) ⟨Nat.le_of_ble_eq_true rfl, Nat.le_of_ble_eq_true rfl⟩) ⟨fun a U g mk q => ⟨q.1, Pr_cg q.2⟩, va_recv (ci := 1) (q0 := 7 + v) hK hP rfl (Q_u hRc (by first | omega | decide | assumption)), fun U hU hW => ⟨rfl, Pr_mk hE hRc hRr hRo hP hD hS hU hW⟩⟩ rfl rfl hl.1 rfl (lv_room (Nat.le_of_ble_eq_true rfl)) dX2_isAwaited_45 ⟨Nat.le_of_ble_eq_true rfl, Nat.le_of_ble_eq_true rfl⟩) hS (fun v9 _ H locs wl hv9 hRc hRr hRo hP hD hS => ?_)
          refine n_top (y := .int (nI (bN (doneP (c 9) v)))) (congrArg Value.int hv9) ?_
          clear hv9 v9
          refine n_ifb_ne (tgt := 55) hx hb dX2_isAwaited_48 (by decide) (fun c_48 => ?_) (fun c_48 => ?_)
          · refine lv_iconst (v := nI 0) hx hb dX2_isAwaited_55 (by decide) ?_
            refine lv_istore (lv' := [(4, .int (nI 0)), (3, .int (nI 0)), (0, .ref (G 0)), (1, .ref (G (20 + v))), (2, .ref (G (20 + u)))]) hx hb dX2_isAwaited_56 hl (by decide) rfl (fun ls hl => ?_)
            refine lv_iload_n hx hb dX2_isAwaited_58 rfl (lv_at hl 1 rfl) ?_
            refine n_if_ne (tgt := 67) hx hb dX2_isAwaited_59 (by decide) (by decide) (fun c_59 => absurd c_59 (by decide)) (fun c_59 => ?_)
            refine lv_iload hx hb dX2_isAwaited_62 (lv_at hl 0 rfl) ?_
            refine n_if_eq (tgt := 71) hx hb dX2_isAwaited_64 (by decide) (by decide) (fun c_64 => ?_) (fun c_64 => absurd c_64 (by decide))
            refine lv_iconst (v := nI 0) hx hb dX2_isAwaited_71 (by decide) ?_
            exact W.zret (v := nI 0) (ty := .boolean) hx hb hr (nb_le (by first | exact bN_le _ | decide | omega | assumption)) (fun t ht hW => ⟨⟨_, (), rfl, (show nI 0 = nI (bN (awC c u v)) from by exact congrArg nI (bN_f (fun z => z.elim (fun z => absurd c_23 z.2.2) (fun z => absurd c_48 z.2))).symm), Wr_mk hRc hRr hRo hP hD ht⟩, hS.F ht⟩) hS.2.2 dX2_isAwaited_72
          · refine lv_iconst (v := nI 1) hx hb dX2_isAwaited_51 (by decide) ?_
            refine lv_goto (tgt := 56) hx hb dX2_isAwaited_52 (by decide) ?_
            refine lv_istore (lv' := [(4, .int (nI 1)), (3, .int (nI 0)), (0, .ref (G 0)), (1, .ref (G (20 + v))), (2, .ref (G (20 + u)))]) hx hb dX2_isAwaited_56 hl (by decide) rfl (fun ls hl => ?_)
            refine lv_iload_n hx hb dX2_isAwaited_58 rfl (lv_at hl 1 rfl) ?_
            refine n_if_ne (tgt := 67) hx hb dX2_isAwaited_59 (by decide) (by decide) (fun c_59 => absurd c_59 (by decide)) (fun c_59 => ?_)
            refine lv_iload hx hb dX2_isAwaited_62 (lv_at hl 0 rfl) ?_
            refine n_if_eq (tgt := 71) hx hb dX2_isAwaited_64 (by decide) (by decide) (fun c_64 => absurd c_64 (by decide)) (fun c_64 => ?_)
            refine lv_iconst (v := nI 1) hx hb dX2_isAwaited_67 (by decide) ?_
            refine lv_goto (tgt := 72) hx hb dX2_isAwaited_68 (by decide) ?_
            exact W.zret (v := nI 1) (ty := .boolean) hx hb hr (nb_le (by first | exact bN_le _ | decide | omega | assumption)) (fun t ht hW => ⟨⟨_, (), rfl, (show nI 1 = nI (bN (awC c u v)) from by exact congrArg nI (bN_t (Or.inr ⟨by assumption, by assumption⟩)).symm), Wr_mk hRc hRr hRo hP hD ht⟩, hS.F ht⟩) hS.2.2 dX2_isAwaited_72
      · refine lv_iconst (v := nI 1) hx hb dX2_isAwaited_26 (by decide) ?_
        refine lv_goto (tgt := 31) hx hb dX2_isAwaited_27 (by decide) ?_
        refine lv_istore_n (lv' := [(3, .int (nI 1)), (0, .ref (G 0)), (1, .ref (G (20 + v))), (2, .ref (G (20 + u)))]) hx hb dX2_isAwaited_31 rfl hl (by decide) rfl (fun ls hl => ?_)
        refine lv_aload_n hx hb dX2_isAwaited_32 rfl (lv_at hl 1 rfl) ?_
        refine lv_aload_n hx hb dX2_isAwaited_33 rfl (lv_at hl 3 rfl) ?_
        refine va_get (D := D) (ci := 1) (v := .int (nI (c 8 u))) (C := RX0) (T := TX0) (N := 13) hx hb hts inX0 hown hK hP (7 + u) (Q_u hRc (by first | omega | decide | assumption)) rfl 8 (by decide) (hts (.fieldLink RX2 103 "BootStage$Unit" "keptWishes" "I") (by decide +kernel)) (fun _ h9 => h9) rfl dX2_isAwaited_34 ?_
        refine lv_aload_n hx hb dX2_isAwaited_37 rfl (lv_at hl 2 rfl) ?_
        refine y_calli (va_runV (As := [.int (nI (c 8 u)), .ref (G (20 + v))]) (rest := []) ⟨hx, hb, hml, hown, hts⟩ (k_X2_contains l D G h0 c r o (c 8 u) v (by first | omega | assumption)) (cwV 2 hts gX2_isAwaited_X2_contains rfl rfl rfl (by decide +kernel) ⟨Nat.le_of_ble_eq_true rfl, Nat.le_of_ble_eq_true rfl⟩) ⟨fun a U g mk q => ⟨q.1, Pr_cg q.2⟩, va_recv (ci := 3) (q0 := 0) hK hP rfl (Q_o hRc), fun U hU hW => ⟨rfl, Pr_mk hE hRc hRr hRo hP hD hS hU hW⟩⟩ rfl rfl hl.1 rfl (lv_room (Nat.le_of_ble_eq_true rfl)) dX2_isAwaited_38 ⟨Nat.le_of_ble_eq_true rfl, Nat.le_of_ble_eq_true rfl⟩) hS (fun v9 _ H locs wl hv9 hRc hRr hRo hP hD hS => ?_)
        refine n_top (y := .int (nI (bN (Nat.testBit (c 8 u) v = true)))) (congrArg Value.int hv9) ?_
        clear hv9 v9
        refine n_ifb_eq (tgt := 55) hx hb dX2_isAwaited_41 (by decide) (fun c_41 => ?_) (fun c_41 => ?_)
        · refine lv_iconst (v := nI 0) hx hb dX2_isAwaited_55 (by decide) ?_
          refine lv_istore (lv' := [(4, .int (nI 0)), (3, .int (nI 1)), (0, .ref (G 0)), (1, .ref (G (20 + v))), (2, .ref (G (20 + u)))]) hx hb dX2_isAwaited_56 hl (by decide) rfl (fun ls hl => ?_)
          refine lv_iload_n hx hb dX2_isAwaited_58 rfl (lv_at hl 1 rfl) ?_
          refine n_if_ne (tgt := 67) hx hb dX2_isAwaited_59 (by decide) (by decide) (fun c_59 => ?_) (fun c_59 => absurd c_59 (by decide))
          refine lv_iconst (v := nI 1) hx hb dX2_isAwaited_67 (by decide) ?_
          refine lv_goto (tgt := 72) hx hb dX2_isAwaited_68 (by decide) ?_
          exact W.zret (v := nI 1) (ty := .boolean) hx hb hr (nb_le (by first | exact bN_le _ | decide | omega | assumption)) (fun t ht hW => ⟨⟨_, (), rfl, (show nI 1 = nI (bN (awC c u v)) from by exact congrArg nI (bN_t (Or.inl ⟨by assumption, by assumption, by assumption⟩)).symm), Wr_mk hRc hRr hRo hP hD ht⟩, hS.F ht⟩) hS.2.2 dX2_isAwaited_72
        · refine lv_aload_n hx hb dX2_isAwaited_44 rfl (lv_at hl 2 rfl) ?_
          refine y_calli (va_runV (As := []) (rest := []) ⟨hx, hb, hml, hown, hts⟩ (k_X0_isWishDone l D G h0 c r o v (by first | omega | assumption) hB) (cwV 0 hts gX2_isAwaited_X0_isWishDone rfl rfl rfl (by decide +kernel) ⟨Nat.le_of_ble_eq_true rfl, Nat.le_of_ble_eq_true rfl⟩) ⟨fun a U g mk q => ⟨q.1, Pr_cg q.2⟩, va_recv (ci := 1) (q0 := 7 + v) hK hP rfl (Q_u hRc (by first | omega | decide | assumption)), fun U hU hW => ⟨rfl, Pr_mk hE hRc hRr hRo hP hD hS hU hW⟩⟩ rfl rfl hl.1 rfl (lv_room (Nat.le_of_ble_eq_true rfl)) dX2_isAwaited_45 ⟨Nat.le_of_ble_eq_true rfl, Nat.le_of_ble_eq_true rfl⟩) hS (fun v9 _ H locs wl hv9 hRc hRr hRo hP hD hS => ?_)
          refine n_top (y := .int (nI (bN (doneP (c 9) v)))) (congrArg Value.int hv9) ?_
          clear hv9 v9
          refine n_ifb_ne (tgt := 55) hx hb dX2_isAwaited_48 (by decide) (fun c_48 => ?_) (fun c_48 => ?_)
          · refine lv_iconst (v := nI 0) hx hb dX2_isAwaited_55 (by decide) ?_
            refine lv_istore (lv' := [(4, .int (nI 0)), (3, .int (nI 1)), (0, .ref (G 0)), (1, .ref (G (20 + v))), (2, .ref (G (20 + u)))]) hx hb dX2_isAwaited_56 hl (by decide) rfl (fun ls hl => ?_)
            refine lv_iload_n hx hb dX2_isAwaited_58 rfl (lv_at hl 1 rfl) ?_
            refine n_if_ne (tgt := 67) hx hb dX2_isAwaited_59 (by decide) (by decide) (fun c_59 => ?_) (fun c_59 => absurd c_59 (by decide))
            refine lv_iconst (v := nI 1) hx hb dX2_isAwaited_67 (by decide) ?_
            refine lv_goto (tgt := 72) hx hb dX2_isAwaited_68 (by decide) ?_
            exact W.zret (v := nI 1) (ty := .boolean) hx hb hr (nb_le (by first | exact bN_le _ | decide | omega | assumption)) (fun t ht hW => ⟨⟨_, (), rfl, (show nI 1 = nI (bN (awC c u v)) from by exact congrArg nI (bN_t (Or.inl ⟨by assumption, by assumption, by assumption⟩)).symm), Wr_mk hRc hRr hRo hP hD ht⟩, hS.F ht⟩) hS.2.2 dX2_isAwaited_72
          · refine lv_iconst (v := nI 1) hx hb dX2_isAwaited_51 (by decide) ?_
            refine lv_goto (tgt := 56) hx hb dX2_isAwaited_52 (by decide) ?_
            refine lv_istore (lv' := [(4, .int (nI 1)), (3, .int (nI 1)), (0, .ref (G 0)), (1, .ref (G (20 + v))), (2, .ref (G (20 + u)))]) hx hb dX2_isAwaited_56 hl (by decide) rfl (fun ls hl => ?_)
            refine lv_iload_n hx hb dX2_isAwaited_58 rfl (lv_at hl 1 rfl) ?_
            refine n_if_ne (tgt := 67) hx hb dX2_isAwaited_59 (by decide) (by decide) (fun c_59 => ?_) (fun c_59 => absurd c_59 (by decide))
            refine lv_iconst (v := nI 1) hx hb dX2_isAwaited_67 (by decide) ?_
            refine lv_goto (tgt := 72) hx hb dX2_isAwaited_68 (by decide) ?_
            exact W.zret (v := nI 1) (ty := .boolean) hx hb hr (nb_le (by first | exact bN_le _ | decide | omega | assumption)) (fun t ht hW => ⟨⟨_, (), rfl, (show nI 1 = nI (bN (awC c u v)) from by exact congrArg nI (bN_t (Or.inl ⟨by assumption, by assumption, by assumption⟩)).symm), Wr_mk hRc hRr hRo hP hD ht⟩, hS.F ht⟩) hS.2.2 dX2_isAwaited_72
