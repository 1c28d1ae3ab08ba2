set_option maxHeartbeats 4000000 in
set_option maxRecDepth 100000 in
theorem k_X2_endStarts (l : Launch) (D : va_G) (G : Nat → Nat) (h0 : Nat) (c r : Nat → Nat → Nat) (o : Nat) (hI : IC c) : Met l yX2_endStarts wsX2_endStarts ({ frames := 2, cells := 0, slots := 0, locals := 41 } : Room) (va_Pc [.ref (G 0)] (fun U => Pr D G h0 c r o U)) (va_Qv (fun (_ : Unit) => True) (fun _ t => Wr D G h0 (c_endI c (c 20 1)) r o t) (fun q => h0 ≤ q)) 0 0 (fun q => h0 ≤ q) := by
  refine Met.ofW (cc := cX2_endStarts) (maxL := 3) (ret := none) (by decide) rfl ?_
  intro p e s m args below meth cd s₁ B hml hv
  obtain ⟨rfl, hE, wl, hRc, hRr, hRo, hP, hD⟩ := hv
  have hx := B.exec
  have hb := B.bytes
  have hr := B.returns
  have hts := atoms_spec (ws := wsX2_endStarts) B.pre
  have hown : s.vm.findClass RX2 = some m.cls := findClass_of_methodNamed B.named
  have hlocks := B.notSynchronized
  have hK := hE.2.1
  have hS : va_S (fun q => h0 ≤ q) s.heap s.heap [] := va_S.rf
  have hl := lv_entry ([.ref (G 0)]) (n := 3) (Nat.le_of_ble_eq_true rfl)
  rw [lg_entry_eq]
  generalize (lg_sl ([.ref (G 0)]) ++ List.replicate (3 - (lg_sl ([.ref (G 0)])).length) Slot.unset).toArray = ls at hl ⊢
  have hl : lv_has ls 3 [(0, .ref (G 0))] := hl
  have inX0 : ∀ w ∈ wsX00, w ∈ wsX2_endStarts := by decide +kernel
  have inX2 : ∀ w ∈ wsX20, w ∈ wsX2_endStarts := by decide +kernel
  obtain ⟨Q, hQ⟩ : ∃ Q, Q = MQ below (va_Qv (fun (_ : Unit) => True) (fun _ t => Wr D G h0 (c_endI c (c 20 1)) r o t) (fun q => h0 ≤ q)) ([.ref (G 0)] : List Value).toArray s 0 0 (fun q => h0 ≤ q) := ⟨_, rfl⟩
  rw [← hQ]
  have hB := IC_B hI
  have hn := IC_n hI
  have hs := IC_s hI
  refine lv_iconst (v := nI 0) hx hb dX2_endStarts_0 (by decide) ?_
  refine lv_istore_n (lv' := [(1, .int (nI 0)), (0, .ref (G 0))]) hx hb dX2_endStarts_1 rfl hl (by decide) rfl (fun ls hl => ?_)
  have L2 : ∀ (d i : Nat), c 20 1 - i < d → i ≤ c 20 1 → ∀ (c1 : Nat → Nat → Nat), (c1 = c_endI c i) → ∀ (H : Heap) (locs : List Loc) (wl : va_W) (ls : Array Slot), Rc G c1 wl → Rr G r wl → Ro G o wl → va_P D vwCl wl H → va_D (fun q => h0 ≤ q) wl → va_S (fun q => h0 ≤ q) s.heap H locs → lv_has ls 3 [(1, .int (nI i)), (0, .ref (G 0))] → W p l e (headSpec wsX2_endStarts ({ frames := 2, cells := 0, slots := 0, locals := 41 } : Room)).room s m ([.ref (G 0)] : List Value).toArray below meth cd H locs 0 0 Q (F0 m 2 ls []) := by
    intro d2
    induction d2 with
    | zero => intro i hd; exact absurd hd (Nat.not_lt_zero _)
    | succ d2 ih2 =>
      intro i hd hi c1  hc1 H locs wl ls hRc hRr hRo hP hD hS hl
      have hI1 : IC c1 := by rw [hc1]; exact IC_endI hI i
      have hB1 := IC_B hI1
      have hs1 := IC_s hI1
      have hn1 := IC_n hI1
      have hk1 : c1 20 1 = c 20 1 := by rw [hc1]; exact endI_n c 20 1 (by omega) i
      have hU1 := IC_U hI1 i
      unfold UB at hU1
      refine lv_iload_n hx hb dX2_endStarts_2 rfl (lv_at hl 0 rfl) ?_
      refine lv_aload_n hx hb dX2_endStarts_3 rfl (lv_at hl 1 rfl) ?_
      refine va_get (D := D) (ci := 3) (v := .int (nI (c1 20 1))) (C := RX2) (T := TX2) (N := 7) hx hb hts inX2 hown hK hP 0 (Q_o hRc) rfl 1 (by decide) (hts (.fieldLink RX2 15 "BootStage" "count" "I") (by decide +kernel)) (fun _ h9 => h9) rfl dX2_endStarts_4 ?_
      refine n_icmp_ge (tgt := 56) hx hb dX2_endStarts_7 (by decide) (by omega) (hB1 _ _ (by decide)) (fun c_7 => ?_) (fun c_7 => ?_)
      · rw [hQ]
        exact W.vret hx hb hr (fun t ht hW => ⟨⟨(), rfl, trivial, Wr_mk (show Rc G (c_endI c (c 20 1)) wl from by rw [show (c_endI c (c 20 1)) = c1 from by rw [hc1, show i = c 20 1 by omega]]; exact hRc) hRr hRo hP hD ht⟩, hS.F ht⟩) hS.2.2 dX2_endStarts_56
      · refine lv_aload_n hx hb dX2_endStarts_10 rfl (lv_at hl 1 rfl) ?_
        refine va_get (D := D) (ci := 3) (v := .ref (G 1)) (C := RX2) (T := TX2) (N := 7) hx hb hts inX2 hown hK hP 0 (Q_o hRc) rfl 0 (by decide) (hts (.fieldLink RX2 11 "BootStage" "rows" "[LBootStage$Unit;") (by decide +kernel)) (fun _ h9 => h9) rfl dX2_endStarts_11 ?_
        refine lv_iload_n hx hb dX2_endStarts_14 rfl (lv_at hl 0 rfl) ?_
        refine x_row hx hb hK hP hRc (by first | omega | decide | assumption) dX2_endStarts_15 ?_
        refine lv_astore_n (lv' := [(2, .ref (G (20 + i))), (1, .int (nI i)), (0, .ref (G 0))]) hx hb dX2_endStarts_16 rfl hl (by decide) rfl (fun ls hl => ?_)
        refine lv_aload_n hx hb dX2_endStarts_17 rfl (lv_at hl 0 rfl) ?_
        refine va_get (D := D) (ci := 1) (v := .int (nI (c1 9 i))) (C := RX0) (T := TX0) (N := 13) hx hb hts inX0 hown hK hP (7 + i) (Q_u hRc (by first | omega | decide | assumption)) rfl 9 (by decide) (hts (.fieldLink RX2 136 "BootStage$Unit" "state" "I") (by decide +kernel)) (fun _ h9 => h9) rfl dX2_endStarts_18 ?_
        refine lv_iconst (v := nI 1) hx hb dX2_endStarts_21 (by decide) ?_
        refine n_icmp_ne (tgt := 50) hx hb dX2_endStarts_22 (by decide) (hB1 _ _ (by decide)) (by decide) (fun c_22 => ?_) (fun c_22 => ?_)
        · refine lv_iinc (v := nI (i + 1)) (lv' := [(1, .int (nI (i + 1))), (2, .ref (G (20 + i))), (0, .ref (G 0))]) hx hb dX2_endStarts_50 hl (k := 1) rfl (nI_add i 1) (by decide) rfl (fun ls hl => ?_)
          refine lv_goto (tgt := 2) hx hb dX2_endStarts_53 (by decide) ?_
          exact ih2 (i + 1) (by omega) (by omega) (c1) (by rw [show c_endI c (i + 1) = c_end1 (c_endI c i) i from rfl, ← hc1]; unfold c_end1; rw [if_neg (by assumption)]) _ _ _ _ hRc hRr hRo hP hD hS (lv_sub hl [0, 2] rfl)
        · refine lv_aload_n hx hb dX2_endStarts_25 rfl (lv_at hl 0 rfl) ?_
          refine lv_dup hx hb dX2_endStarts_26 rfl ?_
          refine va_get (D := D) (ci := 1) (v := .int (nI (c1 10 i))) (C := RX0) (T := TX0) (N := 13) hx hb hts inX0 hown hK hP (7 + i) (Q_u hRc (by first | omega | decide | assumption)) rfl 10 (by decide) (hts (.fieldLink RX2 199 "BootStage$Unit" "ticksStarting" "I") (by decide +kernel)) (fun _ h9 => h9) rfl dX2_endStarts_27 ?_
          refine lv_iconst (v := nI 1) hx hb dX2_endStarts_30 (by decide) ?_
          refine n_iadd hx hb dX2_endStarts_31 ?_
          refine x_put (D := D) (G := G) (ci := 1) (ty := .int) (C := RX0) (T := TX0) (N := 13) (Z := fun wl => Rc G (up2 c1 10 i ((c1 10 i) + 1)) wl ∧ Rr G r wl ∧ Ro G o wl) hx hb hts inX0 tyX0 tyX0_ok nmX0 hown hK hP hD hS (7 + i) (Q_u hRc (by first | omega | decide | assumption)) rfl 10 (by decide) (hts (.fieldLink RX2 199 "BootStage$Unit" "ticksStarting" "I") (by decide +kernel)) (fun _ h9 => h9) rfl (by decide +kernel) rfl rfl (Nat.le_of_ble_eq_true rfl) dX2_endStarts_32 ⟨P_u10 (u := i) ((c1 10 i) + 1) (by first | omega | decide | assumption) hRc, Rr_fr hRr (by omega), Ro_fr hRo (by omega)⟩ (fun H locs wl hZ hP hD hS => ?_)
          obtain ⟨hRc, hRr, hRo⟩ := hZ
          refine lv_aload_n hx hb dX2_endStarts_35 rfl (lv_at hl 0 rfl) ?_
          refine va_get (D := D) (ci := 1) (v := .int (nI ((c1 10 i) + 1))) (C := RX0) (T := TX0) (N := 13) hx hb hts inX0 hown hK hP (7 + i) (Q_u hRc (by first | omega | decide | assumption)) rfl 10 (by decide) (hts (.fieldLink RX2 199 "BootStage$Unit" "ticksStarting" "I") (by decide +kernel)) (fun _ h9 => h9) (congrArg (fun z => some (Value.int (nI z))) (show (up2 c1 10 i ((c1 10 i) + 1)) 10 i = (c1 10 i) + 1 from by simp [up2])) dX2_endStarts_36 ?_
          refine lv_aload_n hx hb dX2_endStarts_39 rfl (lv_at hl 0 rfl) ?_
          refine va_get (D := D) (ci := 1) (v := .int (nI (c1 1 i))) (C := RX0) (T := TX0) (N := 13) hx hb hts inX0 hown hK hP (7 + i) (Q_u hRc (by first | omega | decide | assumption)) rfl 1 (by decide) (hts (.fieldLink RX2 56 "BootStage$Unit" "time" "I") (by decide +kernel)) (fun _ h9 => h9) (congrArg (fun z => some (Value.int (nI z))) (show (up2 c1 10 i ((c1 10 i) + 1)) 1 i = c1 1 i from by simp [up2])) dX2_endStarts_40 ?_
          refine n_icmp_lt (tgt := 50) hx hb dX2_endStarts_43 (by decide) (by omega) (hB1 _ _ (by decide)) (fun c_43 => ?_) (fun c_43 => ?_)
          · refine lv_iinc (v := nI (i + 1)) (lv' := [(1, .int (nI (i + 1))), (2, .ref (G (20 + i))), (0, .ref (G 0))]) hx hb dX2_endStarts_50 hl (k := 1) rfl (nI_add i 1) (by decide) rfl (fun ls hl => ?_)
            refine lv_goto (tgt := 2) hx hb dX2_endStarts_53 (by decide) ?_
            exact ih2 (i + 1) (by omega) (by omega) (up2 c1 10 i ((c1 10 i) + 1)) (by rw [show c_endI c (i + 1) = c_end1 (c_endI c i) i from rfl, ← hc1]; unfold c_end1; rw [if_pos (by assumption), if_pos (by assumption)]) _ _ _ _ hRc hRr hRo hP hD hS (lv_sub hl [0, 2] rfl)
          · refine lv_aload_n hx hb dX2_endStarts_46 rfl (lv_at hl 0 rfl) ?_
            refine y_callv (va_runV (As := []) (rest := []) ⟨hx, hb, hml, hown, hts⟩ (k_X0_comeToEnd l D G h0 (up2 c1 10 i ((c1 10 i) + 1)) r o i (by first | omega | assumption) (BC_up hB1 (by omega)) (by simp only [up2_c (show (3 : Nat) ≠ 10 by decide), up2_c (show (1 : Nat) ≠ 10 by decide)]; omega)) (cwV 0 hts gX2_endStarts_X0_comeToEnd rfl rfl rfl (by decide +kernel) ⟨Nat.le_of_ble_eq_true rfl, Nat.le_of_ble_eq_true rfl⟩) ⟨fun a U g mk q => ⟨q.1, Pr_cg q.2⟩, va_recv (ci := 1) (q0 := 7 + i) hK hP rfl (Q_u hRc (by first | omega | decide | assumption)), fun U hU hW => ⟨rfl, Pr_mk hE hRc hRr hRo hP hD hS hU hW⟩⟩ rfl rfl hl.1 rfl (lv_room (Nat.le_of_ble_eq_true rfl)) dX2_endStarts_47 ⟨Nat.le_of_ble_eq_true rfl, Nat.le_of_ble_eq_true rfl⟩) hS (fun _ H locs wl _ hRc hRr hRo hP hD hS => ?_)
            refine lv_iinc (v := nI (i + 1)) (lv' := [(1, .int (nI (i + 1))), (2, .ref (G (20 + i))), (0, .ref (G 0))]) hx hb dX2_endStarts_50 hl (k := 1) rfl (nI_add i 1) (by decide) rfl (fun ls hl => ?_)
            refine lv_goto (tgt := 2) hx hb dX2_endStarts_53 (by decide) ?_
            exact ih2 (i + 1) (by omega) (by omega) (c_come (up2 c1 10 i ((c1 10 i) + 1)) i) (by rw [show c_endI c (i + 1) = c_end1 (c_endI c i) i from rfl, ← hc1]; unfold c_end1; rw [if_pos (by assumption), if_neg (by omega)]) _ _ _ _ hRc hRr hRo hP hD hS (lv_sub hl [0, 2] rfl)
  exact L2 _ 0 (Nat.lt_succ_self _) (by omega) (c) (by rfl) _ _ _ _ hRc hRr hRo hP hD hS (lv_sub hl [0, 1] rfl)
set_option maxHeartbeats 4000000 in
set_option maxRecDepth 100000 in
theorem k_X2_failWithoutNeeds (l : Launch) (D : va_G) (G : Nat → Nat) (h0 : Nat) (c r : Nat → Nat → Nat) (o : Nat) (hI : IC c) : Met l yX2_failWithoutNeeds wsX2_failWithoutNeeds ({ frames := 3, cells := 0, slots := 0, locals := 62 } : Room) (va_Pc [.ref (G 0)] (fun U => Pr D G h0 c r o U)) (va_Qv (fun (_ : Unit) => True) (fun _ t => Wr D G h0 (c_failI c (c 20 1)) r o t) (fun q => h0 ≤ q)) 0 0 (fun q => h0 ≤ q) := by
  refine Met.ofW (cc := cX2_failWithoutNeeds) (maxL := 4) (ret := none) (by decide) rfl ?_
  intro p e s m args below meth cd s₁ B hml hv
  obtain ⟨rfl, hE, wl, hRc, hRr, hRo, hP, hD⟩ := hv
  have hx := B.exec
  have hb := B.bytes
  have hr := B.returns
  have hts := atoms_spec (ws := wsX2_failWithoutNeeds) B.pre
  have hown : s.vm.findClass RX2 = some m.cls := findClass_of_methodNamed B.named
  have hlocks := B.notSynchronized
  have hK := hE.2.1
  have hS : va_S (fun q => h0 ≤ q) s.heap s.heap [] := va_S.rf
  have hl := lv_entry ([.ref (G 0)]) (n := 4) (Nat.le_of_ble_eq_true rfl)
  rw [lg_entry_eq]
  generalize (lg_sl ([.ref (G 0)]) ++ List.replicate (4 - (lg_sl ([.ref (G 0)])).length) Slot.unset).toArray = ls at hl ⊢
  have hl : lv_has ls 4 [(0, .ref (G 0))] := hl
  have inX0 : ∀ w ∈ wsX00, w ∈ wsX2_failWithoutNeeds := by decide +kernel
  have inX2 : ∀ w ∈ wsX20, w ∈ wsX2_failWithoutNeeds := by decide +kernel
  obtain ⟨Q, hQ⟩ : ∃ Q, Q = MQ below (va_Qv (fun (_ : Unit) => True) (fun _ t => Wr D G h0 (c_failI c (c 20 1)) r o t) (fun q => h0 ≤ q)) ([.ref (G 0)] : List Value).toArray s 0 0 (fun q => h0 ≤ q) := ⟨_, rfl⟩
  rw [← hQ]
  have hB := IC_B hI
  have hn := IC_n hI
  have hs := IC_s hI
  refine lv_aload_n hx hb dX2_failWithoutNeeds_0 rfl (lv_at hl 0 rfl) ?_
  refine y_calli (va_runV (As := []) (rest := []) ⟨hx, hb, hml, hown, hts⟩ (k_X2_lostNeeds l D G h0 c r o hI) (cwV 0 hts gX2_failWithoutNeeds_X2_lostNeeds rfl rfl rfl (by decide +kernel) ⟨Nat.le_of_ble_eq_true rfl, Nat.le_of_ble_eq_true rfl⟩) ⟨fun a U g mk q => ⟨q.1, Pr_cg q.2⟩, va_recv (ci := 3) (q0 := 0) hK hP rfl (Q_o hRc), fun U hU hW => ⟨rfl, Pr_mk hE hRc hRr hRo hP hD hS hU hW⟩⟩ rfl rfl hl.1 rfl (lv_room (Nat.le_of_ble_eq_true rfl)) dX2_failWithoutNeeds_1 ⟨Nat.le_of_ble_eq_true rfl, Nat.le_of_ble_eq_true rfl⟩) hS (fun v9 _ H locs wl hv9 hRc hRr hRo hP hD hS => ?_)
  refine n_top (y := .int (nI (mk (lostP (c 9) (c 6)) (c 20 1)))) (congrArg Value.int hv9) ?_
  clear hv9 v9
  refine lv_istore_n (lv' := [(1, .int (nI (mk (lostP (c 9) (c 6)) (c 20 1)))), (0, .ref (G 0))]) hx hb dX2_failWithoutNeeds_4 rfl hl (by decide) rfl (fun ls hl => ?_)
  refine lv_iconst (v := nI 0) hx hb dX2_failWithoutNeeds_5 (by decide) ?_
  refine lv_istore_n (lv' := [(2, .int (nI 0)), (1, .int (nI (mk (lostP (c 9) (c 6)) (c 20 1)))), (0, .ref (G 0))]) hx hb dX2_failWithoutNeeds_6 rfl hl (by decide) rfl (fun ls hl => ?_)
  have L7 : ∀ (d i : Nat), c 20 1 - i < d → i ≤ c 20 1 → ∀ (c1 : Nat → Nat → Nat), (c1 = c_failI c i) → ∀ (H : Heap) (locs : List Loc) (wl : va_W) (ls : Array Slot), Rc G c1 wl → Rr G r wl → Ro G o wl → va_P D vwCl wl H → va_D (fun q => h0 ≤ q) wl → va_S (fun q => h0 ≤ q) s.heap H locs → lv_has ls 4 [(2, .int (nI i)), (1, .int (nI (mk (lostP (c1 9) (c1 6)) (c1 20 1)))), (0, .ref (G 0))] → W p l e (headSpec wsX2_failWithoutNeeds ({ frames := 3, cells := 0, slots := 0, locals := 62 } : Room)).room s m ([.ref (G 0)] : List Value).toArray below meth cd H locs 0 0 Q (F0 m 7 ls []) := by
    intro d7
    induction d7 with
    | zero => intro i hd; exact absurd hd (Nat.not_lt_zero _)
    | succ d7 ih7 =>
      intro i hd hi c1  hc1 H locs wl ls hRc hRr hRo hP hD hS hl
      have hI1 : IC c1 := by rw [hc1]; exact IC_failI hI i
      have hB1 := IC_B hI1
      have hs1 := IC_s hI1
      have hn1 := IC_n hI1
      have hk1 : c1 20 1 = c 20 1 := by rw [hc1]; exact failI_n c 20 1 (by omega) i
      have hU1 := IC_U hI1 i
      unfold UB at hU1
      have hm9 : c1 7 i &&& mk (lostP (c1 9) (c1 6)) (c1 20 1) < 2 ^ 31 := Nat.lt_of_le_of_lt Nat.and_le_left (hB1 _ _ (by decide))
      refine lv_iload_n hx hb dX2_failWithoutNeeds_7 rfl (lv_at hl 0 rfl) ?_
      refine lv_aload_n hx hb dX2_failWithoutNeeds_8 rfl (lv_at hl 2 rfl) ?_
      refine va_get (D := D) (ci := 3) (v := .int (nI (c1 20 1))) (C := RX2) (T := TX2) (N := 7) hx hb hts inX2 hown hK hP 0 (Q_o hRc) rfl 1 (by decide) (hts (.fieldLink RX2 15 "BootStage" "count" "I") (by decide +kernel)) (fun _ h9 => h9) rfl dX2_failWithoutNeeds_9 ?_
      refine n_icmp_ge (tgt := 54) hx hb dX2_failWithoutNeeds_12 (by decide) (by omega) (hB1 _ _ (by decide)) (fun c_12 => ?_) (fun c_12 => ?_)
      · rw [hQ]
        exact W.vret hx hb hr (fun t ht hW => ⟨⟨(), rfl, trivial, Wr_mk (show Rc G (c_failI c (c 20 1)) wl from by rw [show (c_failI c (c 20 1)) = c1 from by rw [hc1, show i = c 20 1 by omega]]; exact hRc) hRr hRo hP hD ht⟩, hS.F ht⟩) hS.2.2 dX2_failWithoutNeeds_54
      · refine lv_aload_n hx hb dX2_failWithoutNeeds_15 rfl (lv_at hl 2 rfl) ?_
        refine va_get (D := D) (ci := 3) (v := .ref (G 1)) (C := RX2) (T := TX2) (N := 7) hx hb hts inX2 hown hK hP 0 (Q_o hRc) rfl 0 (by decide) (hts (.fieldLink RX2 11 "BootStage" "rows" "[LBootStage$Unit;") (by decide +kernel)) (fun _ h9 => h9) rfl dX2_failWithoutNeeds_16 ?_
        refine lv_iload_n hx hb dX2_failWithoutNeeds_19 rfl (lv_at hl 0 rfl) ?_
        refine x_row hx hb hK hP hRc (by first | omega | decide | assumption) dX2_failWithoutNeeds_20 ?_
        refine lv_astore_n (lv' := [(3, .ref (G (20 + i))), (2, .int (nI i)), (1, .int (nI (mk (lostP (c1 9) (c1 6)) (c1 20 1)))), (0, .ref (G 0))]) hx hb dX2_failWithoutNeeds_21 rfl hl (by decide) rfl (fun ls hl => ?_)
        refine lv_aload_n hx hb dX2_failWithoutNeeds_22 rfl (lv_at hl 0 rfl) ?_
        refine va_get (D := D) (ci := 1) (v := .int (nI (c1 9 i))) (C := RX0) (T := TX0) (N := 13) hx hb hts inX0 hown hK hP (7 + i) (Q_u hRc (by first | omega | decide | assumption)) rfl 9 (by decide) (hts (.fieldLink RX2 136 "BootStage$Unit" "state" "I") (by decide +kernel)) (fun _ h9 => h9) rfl dX2_failWithoutNeeds_23 ?_
        refine n_if_ne (tgt := 48) hx hb dX2_failWithoutNeeds_26 (by decide) (hB1 _ _ (by decide)) (fun c_26 => ?_) (fun c_26 => ?_)
        · refine lv_iinc (v := nI (i + 1)) (lv' := [(2, .int (nI (i + 1))), (3, .ref (G (20 + i))), (1, .int (nI (mk (lostP (c1 9) (c1 6)) (c1 20 1)))), (0, .ref (G 0))]) hx hb dX2_failWithoutNeeds_48 hl (k := 1) rfl (nI_add i 1) (by decide) rfl (fun ls hl => ?_)
          refine lv_goto (tgt := 7) hx hb dX2_failWithoutNeeds_51 (by decide) ?_
          exact ih7 (i + 1) (by omega) (by omega) (c1) (by rw [show c_failI c (i + 1) = c_fail1 (c_failI c i) i from rfl, ← hc1]; unfold c_fail1; rw [if_neg (fun z => absurd z.1 (by omega))]) _ _ _ _ hRc hRr hRo hP hD hS (lv_sub hl [0, 2, 3] rfl)
        · refine lv_aload_n hx hb dX2_failWithoutNeeds_29 rfl (lv_at hl 0 rfl) ?_
          refine va_get (D := D) (ci := 1) (v := .int (nI (c1 7 i))) (C := RX0) (T := TX0) (N := 13) hx hb hts inX0 hown hK hP (7 + i) (Q_u hRc (by first | omega | decide | assumption)) rfl 7 (by decide) (hts (.fieldLink RX2 75 "BootStage$Unit" "needs" "I") (by decide +kernel)) (fun _ h9 => h9) rfl dX2_failWithoutNeeds_30 ?_
          refine lv_iload_n hx hb dX2_failWithoutNeeds_33 rfl (lv_at hl 2 rfl) ?_
          refine n_iand hx hb dX2_failWithoutNeeds_34 ?_
          refine n_if_eq (tgt := 48) hx hb dX2_failWithoutNeeds_35 (by decide) hm9 (fun c_35 => ?_) (fun c_35 => ?_)
          · refine lv_iinc (v := nI (i + 1)) (lv' := [(2, .int (nI (i + 1))), (3, .ref (G (20 + i))), (1, .int (nI (mk (lostP (c1 9) (c1 6)) (c1 20 1)))), (0, .ref (G 0))]) hx hb dX2_failWithoutNeeds_48 hl (k := 1) rfl (nI_add i 1) (by decide) rfl (fun ls hl => ?_)
            refine lv_goto (tgt := 7) hx hb dX2_failWithoutNeeds_51 (by decide) ?_
            exact ih7 (i + 1) (by omega) (by omega) (c1) (by rw [show c_failI c (i + 1) = c_fail1 (c_failI c i) i from rfl, ← hc1]; unfold c_fail1; rw [if_neg (fun z => z.2 (by assumption))]) _ _ _ _ hRc hRr hRo hP hD hS (lv_sub hl [0, 2, 3] rfl)
          · refine lv_aload_n hx hb dX2_failWithoutNeeds_38 rfl (lv_at hl 0 rfl) ?_
            refine lv_iconst (v := nI 3) hx hb dX2_failWithoutNeeds_39 (by decide) ?_
            refine x_put (D := D) (G := G) (ci := 1) (ty := .int) (C := RX0) (T := TX0) (N := 13) (Z := fun wl => Rc G (up2 c1 9 i 3) wl ∧ Rr G r wl ∧ Ro G o wl) hx hb hts inX0 tyX0 tyX0_ok nmX0 hown hK hP hD hS (7 + i) (Q_u hRc (by first | omega | decide | assumption)) rfl 9 (by decide) (hts (.fieldLink RX2 136 "BootStage$Unit" "state" "I") (by decide +kernel)) (fun _ h9 => h9) rfl (by decide +kernel) rfl rfl (Nat.le_of_ble_eq_true rfl) dX2_failWithoutNeeds_40 ⟨P_u9 (u := i) 3 (by first | omega | decide | assumption) hRc, Rr_fr hRr (by omega), Ro_fr hRo (by omega)⟩ (fun H locs wl hZ hP hD hS => ?_)
            obtain ⟨hRc, hRr, hRo⟩ := hZ
            refine lv_aload_n hx hb dX2_failWithoutNeeds_43 rfl (lv_at hl 3 rfl) ?_
            refine y_calli (va_runV (As := []) (rest := []) ⟨hx, hb, hml, hown, hts⟩ (k_X2_lostNeeds l D G h0 (up2 c1 9 i 3) r o (IC_failw hI1 c_26 c_35)) (cwV 0 hts gX2_failWithoutNeeds_X2_lostNeeds rfl rfl rfl (by decide +kernel) ⟨Nat.le_of_ble_eq_true rfl, Nat.le_of_ble_eq_true rfl⟩) ⟨fun a U g mk q => ⟨q.1, Pr_cg q.2⟩, va_recv (ci := 3) (q0 := 0) hK hP rfl (Q_o hRc), fun U hU hW => ⟨rfl, Pr_mk hE hRc hRr hRo hP hD hS hU hW⟩⟩ rfl rfl hl.1 rfl (lv_room (Nat.le_of_ble_eq_true rfl)) dX2_failWithoutNeeds_44 ⟨Nat.le_of_ble_eq_true rfl, Nat.le_of_ble_eq_true rfl⟩) hS (fun v9 _ H locs wl hv9 hRc hRr hRo hP hD hS => ?_)
            refine n_top (y := .int (nI (mk (lostP ((up2 c1 9 i 3) 9) ((up2 c1 9 i 3) 6)) ((up2 c1 9 i 3) 20 1)))) (congrArg Value.int hv9) ?_
            clear hv9 v9
            refine lv_istore_n (lv' := [(1, .int (nI (mk (lostP ((up2 c1 9 i 3) 9) ((up2 c1 9 i 3) 6)) ((up2 c1 9 i 3) 20 1)))), (3, .ref (G (20 + i))), (2, .int (nI i)), (0, .ref (G 0))]) hx hb dX2_failWithoutNeeds_47 rfl hl (by decide) rfl (fun ls hl => ?_)
            refine lv_iinc (v := nI (i + 1)) (lv' := [(2, .int (nI (i + 1))), (1, .int (nI (mk (lostP ((up2 c1 9 i 3) 9) ((up2 c1 9 i 3) 6)) ((up2 c1 9 i 3) 20 1)))), (3, .ref (G (20 + i))), (0, .ref (G 0))]) hx hb dX2_failWithoutNeeds_48 hl (k := 2) rfl (nI_add i 1) (by decide) rfl (fun ls hl => ?_)
            refine lv_goto (tgt := 7) hx hb dX2_failWithoutNeeds_51 (by decide) ?_
            exact ih7 (i + 1) (by omega) (by omega) (up2 c1 9 i 3) (by rw [show c_failI c (i + 1) = c_fail1 (c_failI c i) i from rfl, ← hc1]; unfold c_fail1; rw [if_pos ⟨by assumption, Nat.ne_of_gt (by assumption)⟩]) _ _ _ _ hRc hRr hRo hP hD hS (lv_sub hl [0, 1, 3] rfl)
  exact L7 _ 0 (Nat.lt_succ_self _) (by omega) (c) (by rfl) _ _ _ _ hRc hRr hRo hP hD hS (lv_sub hl [0, 1, 2] rfl)
set_option maxHeartbeats 4000000 in
set_option maxRecDepth 100000 in
theorem k_X2_startWaiting (l : Launch) (D : va_G) (G : Nat → Nat) (h0 : Nat) (c r : Nat → Nat → Nat) (o : Nat) (hI : IC c) : Met l yX2_startWaiting wsX2_startWaiting ({ frames := 3, cells := 0, slots := 0, locals := 62 } : Room) (va_Pc [.ref (G 0)] (fun U => Pr D G h0 c r o U)) (va_Qi (fun (v9 : Int32) (_ : Unit) => v9 = nI (c_cnt (c_start c))) (fun _ t => Wr D G h0 (c_start c) r o t) (fun q => h0 ≤ q)) 0 0 (fun q => h0 ≤ q) := by
  refine Met.ofW (cc := cX2_startWaiting) (maxL := 6) (ret := (some .int)) (by decide) rfl ?_
  intro p e s m args below meth cd s₁ B hml hv
  obtain ⟨rfl, hE, wl, hRc, hRr, hRo, hP, hD⟩ := hv
  have hx := B.exec
  have hb := B.bytes
  have hr := B.returns
  have hts := atoms_spec (ws := wsX2_startWaiting) B.pre
  have hown : s.vm.findClass RX2 = some m.cls := findClass_of_methodNamed B.named
  have hlocks := B.notSynchronized
  have hK := hE.2.1
  have hS : va_S (fun q => h0 ≤ q) s.heap s.heap [] := va_S.rf
  have hl := lv_entry ([.ref (G 0)]) (n := 6) (Nat.le_of_ble_eq_true rfl)
  rw [lg_entry_eq]
  generalize (lg_sl ([.ref (G 0)]) ++ List.replicate (6 - (lg_sl ([.ref (G 0)])).length) Slot.unset).toArray = ls at hl ⊢
  have hl : lv_has ls 6 [(0, .ref (G 0))] := hl
  have inX0 : ∀ w ∈ wsX00, w ∈ wsX2_startWaiting := by decide +kernel
  have inX2 : ∀ w ∈ wsX20, w ∈ wsX2_startWaiting := by decide +kernel
  obtain ⟨Q, hQ⟩ : ∃ Q, Q = MQ below (va_Qi (fun (v9 : Int32) (_ : Unit) => v9 = nI (c_cnt (c_start c))) (fun _ t => Wr D G h0 (c_start c) r o t) (fun q => h0 ≤ q)) ([.ref (G 0)] : List Value).toArray s 0 0 (fun q => h0 ≤ q) := ⟨_, rfl⟩
  rw [← hQ]
  have hB := IC_B hI
  have hn := IC_n hI
  have hs := IC_s hI
  refine lv_aload_n hx hb dX2_startWaiting_0 rfl (lv_at hl 0 rfl) ?_
  refine y_calli (va_runV (As := []) (rest := []) ⟨hx, hb, hml, hown, hts⟩ (k_X2_metNeeds l D G h0 c r o hI) (cwV 0 hts gX2_startWaiting_X2_metNeeds rfl rfl rfl (by decide +kernel) ⟨Nat.le_of_ble_eq_true rfl, Nat.le_of_ble_eq_true rfl⟩) ⟨fun a U g mk q => ⟨q.1, Pr_cg q.2⟩, va_recv (ci := 3) (q0 := 0) hK hP rfl (Q_o hRc), fun U hU hW => ⟨rfl, Pr_mk hE hRc hRr hRo hP hD hS hU hW⟩⟩ rfl rfl hl.1 rfl (lv_room (Nat.le_of_ble_eq_true rfl)) dX2_startWaiting_1 ⟨Nat.le_of_ble_eq_true rfl, Nat.le_of_ble_eq_true rfl⟩) hS (fun v9 _ H locs wl hv9 hRc hRr hRo hP hD hS => ?_)
  refine n_top (y := .int (nI (mk (metP (c 9) (c 6)) (c 20 1)))) (congrArg Value.int hv9) ?_
  clear hv9 v9
  refine lv_istore_n (lv' := [(1, .int (nI (mk (metP (c 9) (c 6)) (c 20 1)))), (0, .ref (G 0))]) hx hb dX2_startWaiting_4 rfl hl (by decide) rfl (fun ls hl => ?_)
  refine lv_aload_n hx hb dX2_startWaiting_5 rfl (lv_at hl 1 rfl) ?_
  refine y_calli (va_runV (As := []) (rest := []) ⟨hx, hb, hml, hown, hts⟩ (k_X2_doneWishes l D G h0 c r o hI) (cwV 0 hts gX2_startWaiting_X2_doneWishes rfl rfl rfl (by decide +kernel) ⟨Nat.le_of_ble_eq_true rfl, Nat.le_of_ble_eq_true rfl⟩) ⟨fun a U g mk q => ⟨q.1, Pr_cg q.2⟩, va_recv (ci := 3) (q0 := 0) hK hP rfl (Q_o hRc), fun U hU hW => ⟨rfl, Pr_mk hE hRc hRr hRo hP hD hS hU hW⟩⟩ rfl rfl hl.1 rfl (lv_room (Nat.le_of_ble_eq_true rfl)) dX2_startWaiting_6 ⟨Nat.le_of_ble_eq_true rfl, Nat.le_of_ble_eq_true rfl⟩) hS (fun v9 _ H locs wl hv9 hRc hRr hRo hP hD hS => ?_)
  refine n_top (y := .int (nI (mk (doneP (c 9)) (c 20 1)))) (congrArg Value.int hv9) ?_
  clear hv9 v9
  refine lv_istore_n (lv' := [(2, .int (nI (mk (doneP (c 9)) (c 20 1)))), (1, .int (nI (mk (metP (c 9) (c 6)) (c 20 1)))), (0, .ref (G 0))]) hx hb dX2_startWaiting_9 rfl hl (by decide) rfl (fun ls hl => ?_)
  refine lv_aload_n hx hb dX2_startWaiting_10 rfl (lv_at hl 2 rfl) ?_
  refine y_calli (va_runV (As := []) (rest := []) ⟨hx, hb, hml, hown, hts⟩ (k_X2_countStarting l D G h0 c r o hI) (cwV 0 hts gX2_startWaiting_X2_countStarting rfl rfl rfl (by decide +kernel) ⟨Nat.le_of_ble_eq_true rfl, Nat.le_of_ble_eq_true rfl⟩) ⟨fun a U g mk q => ⟨q.1, Pr_cg q.2⟩, va_recv (ci := 3) (q0 := 0) hK hP rfl (Q_o hRc), fun U hU hW => ⟨rfl, Pr_mk hE hRc hRr hRo hP hD hS hU hW⟩⟩ rfl rfl hl.1 rfl (lv_room (Nat.le_of_ble_eq_true rfl)) dX2_startWaiting_11 ⟨Nat.le_of_ble_eq_true rfl, Nat.le_of_ble_eq_true rfl⟩) hS (fun v9 _ H locs wl hv9 hRc hRr hRo hP hD hS => ?_)
  refine n_top (y := .int (nI (ct (fun w => c 9 w = 1) (c 20 1)))) (congrArg Value.int hv9) ?_
  clear hv9 v9
  refine lv_istore_n (lv' := [(3, .int (nI (ct (fun w => c 9 w = 1) (c 20 1)))), (2, .int (nI (mk (doneP (c 9)) (c 20 1)))), (1, .int (nI (mk (metP (c 9) (c 6)) (c 20 1)))), (0, .ref (G 0))]) hx hb dX2_startWaiting_14 rfl hl (by decide) rfl (fun ls hl => ?_)
  refine lv_iconst (v := nI 0) hx hb dX2_startWaiting_15 (by decide) ?_
  refine lv_istore (lv' := [(4, .int (nI 0)), (3, .int (nI (ct (fun w => c 9 w = 1) (c 20 1)))), (2, .int (nI (mk (doneP (c 9)) (c 20 1)))), (1, .int (nI (mk (metP (c 9) (c 6)) (c 20 1)))), (0, .ref (G 0))]) hx hb dX2_startWaiting_16 hl (by decide) rfl (fun ls hl => ?_)
  have L18 : ∀ (d i : Nat), c 20 1 - i < d → i ≤ c 20 1 → ∀ (c1 : Nat → Nat → Nat), (c1 = c_stI (mk (metP (c 9) (c 6)) (c 20 1)) (mk (doneP (c 9)) (c 20 1)) c i) → ∀ (H : Heap) (locs : List Loc) (wl : va_W) (ls : Array Slot), Rc G c1 wl → Rr G r wl → Ro G o wl → va_P D vwCl wl H → va_D (fun q => h0 ≤ q) wl → va_S (fun q => h0 ≤ q) s.heap H locs → lv_has ls 6 [(4, .int (nI i)), (1, .int (nI (mk (metP (c 9) (c 6)) (c 20 1)))), (2, .int (nI (mk (doneP (c 9)) (c 20 1)))), (3, .int (nI (c_cnt c1))), (0, .ref (G 0))] → W p l e (headSpec wsX2_startWaiting ({ frames := 3, cells := 0, slots := 0, locals := 62 } : Room)).room s m ([.ref (G 0)] : List Value).toArray below meth cd H locs 0 0 Q (F0 m 18 ls []) := by
    intro d18
    induction d18 with
    | zero => intro i hd; exact absurd hd (Nat.not_lt_zero _)
    | succ d18 ih18 =>
      intro i hd hi c1  hc1 H locs wl ls hRc hRr hRo hP hD hS hl
      have hI1 : IC c1 := by rw [hc1]; exact IC_stI hI i
      have hB1 := IC_B hI1
      have hs1 := IC_s hI1
      have hn1 := IC_n hI1
      have hk1 : c1 20 1 = c 20 1 := by rw [hc1]; exact stI_n (mk (metP (c 9) (c 6)) (c 20 1)) (mk (doneP (c 9)) (c 20 1)) c 20 1 (by omega) i
      have hU1 := IC_U hI1 i
      unfold UB at hU1
      have hk4 : c1 20 4 = c 20 4 := by rw [hc1]; exact stI_n (mk (metP (c 9) (c 6)) (c 20 1)) (mk (doneP (c 9)) (c 20 1)) c 20 4 (by omega) i
      have hcc : c_cnt c1 ≤ 20 := Nat.le_trans (ct_le _) hn1
      have ha7 : anN (c1 7 i) (mk (metP (c 9) (c 6)) (c 20 1)) < 2 ^ 31 := Nat.lt_trans (anN_lt (p20 (IC_7 hI1 i) hn1)) (by decide)
      have ha8 : anN (c1 8 i) (mk (doneP (c 9)) (c 20 1)) < 2 ^ 31 := Nat.lt_trans (anN_lt (p20 (IC_8 hI1 i) hn1)) (by decide)
      refine lv_iload hx hb dX2_startWaiting_18 (lv_at hl 0 rfl) ?_
      refine lv_aload_n hx hb dX2_startWaiting_20 rfl (lv_at hl 4 rfl) ?_
      refine va_get (D := D) (ci := 3) (v := .int (nI (c1 20 1))) (C := RX2) (T := TX2) (N := 7) hx hb hts inX2 hown hK hP 0 (Q_o hRc) rfl 1 (by decide) (hts (.fieldLink RX2 15 "BootStage" "count" "I") (by decide +kernel)) (fun _ h9 => h9) rfl dX2_startWaiting_21 ?_
      refine n_icmp_ge (tgt := 97) hx hb dX2_startWaiting_24 (by decide) (by omega) (hB1 _ _ (by decide)) (fun c_24 => ?_) (fun c_24 => ?_)
      · have hfin : c_start c = c1 := by rw [hc1]; unfold c_start; rw [show i = c 20 1 by omega]
        refine lv_iload_n hx hb dX2_startWaiting_97 rfl (lv_at hl 3 rfl) ?_
        rw [hQ]
        exact W.iret (v := nI (c_cnt c1)) hx hb hr (fun t ht hW => ⟨⟨_, (), rfl, (show nI (c_cnt c1) = nI (c_cnt (c_start c)) from by rw [hfin]), Wr_mk (show Rc G (c_start c) wl from by rw [show (c_start c) = c1 from by exact hfin]; exact hRc) hRr hRo hP hD ht⟩, hS.F ht⟩) hS.2.2 dX2_startWaiting_98
      · refine lv_iload_n hx hb dX2_startWaiting_27 rfl (lv_at hl 3 rfl) ?_
        refine lv_aload_n hx hb dX2_startWaiting_28 rfl (lv_at hl 4 rfl) ?_
        refine va_get (D := D) (ci := 3) (v := .int (nI (c1 20 4))) (C := RX2) (T := TX2) (N := 7) hx hb hts inX2 hown hK hP 0 (Q_o hRc) rfl 4 (by decide) (hts (.fieldLink RX2 30 "BootStage" "bound" "I") (by decide +kernel)) (fun _ h9 => h9) rfl dX2_startWaiting_29 ?_
        refine n_icmp_ge (tgt := 97) hx hb dX2_startWaiting_32 (by decide) (by omega) (hB1 _ _ (by decide)) (fun c_32 => ?_) (fun c_32 => ?_)
        · have hfin : c_start c = c1 := by rw [hc1]; have e := stI_stay (met := (mk (metP (c 9) (c 6)) (c 20 1))) (dn := (mk (doneP (c 9)) (c 20 1))) (c := c) (i := i) (by rw [← hc1, ← hk4]; assumption) (c 20 1 - i); rw [show i + (c 20 1 - i) = c 20 1 by omega] at e; exact e
          refine lv_iload_n hx hb dX2_startWaiting_97 rfl (lv_at hl 3 rfl) ?_
          rw [hQ]
          exact W.iret (v := nI (c_cnt c1)) hx hb hr (fun t ht hW => ⟨⟨_, (), rfl, (show nI (c_cnt c1) = nI (c_cnt (c_start c)) from by rw [hfin]), Wr_mk (show Rc G (c_start c) wl from by rw [show (c_start c) = c1 from by exact hfin]; exact hRc) hRr hRo hP hD ht⟩, hS.F ht⟩) hS.2.2 dX2_startWaiting_98
        · refine lv_aload_n hx hb dX2_startWaiting_35 rfl (lv_at hl 4 rfl) ?_
          refine va_get (D := D) (ci := 3) (v := .ref (G 1)) (C := RX2) (T := TX2) (N := 7) hx hb hts inX2 hown hK hP 0 (Q_o hRc) rfl 0 (by decide) (hts (.fieldLink RX2 11 "BootStage" "rows" "[LBootStage$Unit;") (by decide +kernel)) (fun _ h9 => h9) rfl dX2_startWaiting_36 ?_
          refine lv_iload hx hb dX2_startWaiting_39 (lv_at hl 0 rfl) ?_
          refine x_row hx hb hK hP hRc (by first | omega | decide | assumption) dX2_startWaiting_41 ?_
          refine lv_astore (lv' := [(5, .ref (G (20 + i))), (4, .int (nI i)), (1, .int (nI (mk (metP (c 9) (c 6)) (c 20 1)))), (2, .int (nI (mk (doneP (c 9)) (c 20 1)))), (3, .int (nI (c_cnt c1))), (0, .ref (G 0))]) hx hb dX2_startWaiting_42 hl (by decide) rfl (fun ls hl => ?_)
          refine lv_aload hx hb dX2_startWaiting_44 (lv_at hl 0 rfl) ?_
          refine va_get (D := D) (ci := 1) (v := .int (nI (c1 9 i))) (C := RX0) (T := TX0) (N := 13) hx hb hts inX0 hown hK hP (7 + i) (Q_u hRc (by first | omega | decide | assumption)) rfl 9 (by decide) (hts (.fieldLink RX2 136 "BootStage$Unit" "state" "I") (by decide +kernel)) (fun _ h9 => h9) rfl dX2_startWaiting_46 ?_
          refine n_if_ne (tgt := 91) hx hb dX2_startWaiting_49 (by decide) (hB1 _ _ (by decide)) (fun c_49 => ?_) (fun c_49 => ?_)
          · refine lv_iinc (v := nI (i + 1)) (lv' := [(4, .int (nI (i + 1))), (5, .ref (G (20 + i))), (1, .int (nI (mk (metP (c 9) (c 6)) (c 20 1)))), (2, .int (nI (mk (doneP (c 9)) (c 20 1)))), (3, .int (nI (c_cnt c1))), (0, .ref (G 0))]) hx hb dX2_startWaiting_91 hl (k := 1) rfl (nI_add i 1) (by decide) rfl (fun ls hl => ?_)
            refine lv_goto (tgt := 18) hx hb dX2_startWaiting_94 (by decide) ?_
            exact ih18 (i + 1) (by omega) (by omega) (c1) (by rw [show c_stI (mk (metP (c 9) (c 6)) (c 20 1)) (mk (doneP (c 9)) (c 20 1)) c (i + 1) = c_st1 (mk (metP (c 9) (c 6)) (c 20 1)) (mk (doneP (c 9)) (c 20 1)) (c_stI (mk (metP (c 9) (c 6)) (c 20 1)) (mk (doneP (c 9)) (c 20 1)) c i) i from rfl, ← hc1]; unfold c_st1; rw [if_neg (fun z => absurd z.2.1 (by omega))]) _ _ _ _ hRc hRr hRo hP hD hS (lv_sub hl [0, 2, 3, 4, 5] rfl)
          · refine lv_aload hx hb dX2_startWaiting_52 (lv_at hl 0 rfl) ?_
            refine va_get (D := D) (ci := 1) (v := .int (nI (c1 7 i))) (C := RX0) (T := TX0) (N := 13) hx hb hts inX0 hown hK hP (7 + i) (Q_u hRc (by first | omega | decide | assumption)) rfl 7 (by decide) (hts (.fieldLink RX2 75 "BootStage$Unit" "needs" "I") (by decide +kernel)) (fun _ h9 => h9) rfl dX2_startWaiting_54 ?_
            refine lv_iload_n hx hb dX2_startWaiting_57 rfl (lv_at hl 2 rfl) ?_
            refine lv_iconst (v := (-1)) hx hb dX2_startWaiting_58 (by decide) ?_
            refine lv_ixor hx hb dX2_startWaiting_59 ?_
            refine n_nand hx hb dX2_startWaiting_60 ?_
            refine n_if_ne (tgt := 91) hx hb dX2_startWaiting_61 (by decide) ha7 (fun c_61 => ?_) (fun c_61 => ?_)
            · refine lv_iinc (v := nI (i + 1)) (lv' := [(4, .int (nI (i + 1))), (5, .ref (G (20 + i))), (1, .int (nI (mk (metP (c 9) (c 6)) (c 20 1)))), (2, .int (nI (mk (doneP (c 9)) (c 20 1)))), (3, .int (nI (c_cnt c1))), (0, .ref (G 0))]) hx hb dX2_startWaiting_91 hl (k := 1) rfl (nI_add i 1) (by decide) rfl (fun ls hl => ?_)
              refine lv_goto (tgt := 18) hx hb dX2_startWaiting_94 (by decide) ?_
              exact ih18 (i + 1) (by omega) (by omega) (c1) (by rw [show c_stI (mk (metP (c 9) (c 6)) (c 20 1)) (mk (doneP (c 9)) (c 20 1)) c (i + 1) = c_st1 (mk (metP (c 9) (c 6)) (c 20 1)) (mk (doneP (c 9)) (c 20 1)) (c_stI (mk (metP (c 9) (c 6)) (c 20 1)) (mk (doneP (c 9)) (c 20 1)) c i) i from rfl, ← hc1]; unfold c_st1; rw [if_neg (fun z => absurd z.2.2.1 (by omega))]) _ _ _ _ hRc hRr hRo hP hD hS (lv_sub hl [0, 2, 3, 4, 5] rfl)
            · refine lv_aload hx hb dX2_startWaiting_64 (lv_at hl 0 rfl) ?_
              refine va_get (D := D) (ci := 1) (v := .int (nI (c1 8 i))) (C := RX0) (T := TX0) (N := 13) hx hb hts inX0 hown hK hP (7 + i) (Q_u hRc (by first | omega | decide | assumption)) rfl 8 (by decide) (hts (.fieldLink RX2 103 "BootStage$Unit" "keptWishes" "I") (by decide +kernel)) (fun _ h9 => h9) rfl dX2_startWaiting_66 ?_
              refine lv_iload_n hx hb dX2_startWaiting_69 rfl (lv_at hl 3 rfl) ?_
              refine lv_iconst (v := (-1)) hx hb dX2_startWaiting_70 (by decide) ?_
              refine lv_ixor hx hb dX2_startWaiting_71 ?_
              refine n_nand hx hb dX2_startWaiting_72 ?_
              refine n_if_ne (tgt := 91) hx hb dX2_startWaiting_73 (by decide) ha8 (fun c_73 => ?_) (fun c_73 => ?_)
              · refine lv_iinc (v := nI (i + 1)) (lv' := [(4, .int (nI (i + 1))), (5, .ref (G (20 + i))), (1, .int (nI (mk (metP (c 9) (c 6)) (c 20 1)))), (2, .int (nI (mk (doneP (c 9)) (c 20 1)))), (3, .int (nI (c_cnt c1))), (0, .ref (G 0))]) hx hb dX2_startWaiting_91 hl (k := 1) rfl (nI_add i 1) (by decide) rfl (fun ls hl => ?_)
                refine lv_goto (tgt := 18) hx hb dX2_startWaiting_94 (by decide) ?_
                exact ih18 (i + 1) (by omega) (by omega) (c1) (by rw [show c_stI (mk (metP (c 9) (c 6)) (c 20 1)) (mk (doneP (c 9)) (c 20 1)) c (i + 1) = c_st1 (mk (metP (c 9) (c 6)) (c 20 1)) (mk (doneP (c 9)) (c 20 1)) (c_stI (mk (metP (c 9) (c 6)) (c 20 1)) (mk (doneP (c 9)) (c 20 1)) c i) i from rfl, ← hc1]; unfold c_st1; rw [if_neg (fun z => absurd z.2.2.2 (by omega))]) _ _ _ _ hRc hRr hRo hP hD hS (lv_sub hl [0, 2, 3, 4, 5] rfl)
              · refine lv_aload hx hb dX2_startWaiting_76 (lv_at hl 0 rfl) ?_
                refine lv_iconst (v := nI 1) hx hb dX2_startWaiting_78 (by decide) ?_
                refine x_put (D := D) (G := G) (ci := 1) (ty := .int) (C := RX0) (T := TX0) (N := 13) (Z := fun wl => Rc G (up2 c1 9 i 1) wl ∧ Rr G r wl ∧ Ro G o wl) hx hb hts inX0 tyX0 tyX0_ok nmX0 hown hK hP hD hS (7 + i) (Q_u hRc (by first | omega | decide | assumption)) rfl 9 (by decide) (hts (.fieldLink RX2 136 "BootStage$Unit" "state" "I") (by decide +kernel)) (fun _ h9 => h9) rfl (by decide +kernel) rfl rfl (Nat.le_of_ble_eq_true rfl) dX2_startWaiting_79 ⟨P_u9 (u := i) 1 (by first | omega | decide | assumption) hRc, Rr_fr hRr (by omega), Ro_fr hRo (by omega)⟩ (fun H locs wl hZ hP hD hS => ?_)
                obtain ⟨hRc, hRr, hRo⟩ := hZ
                refine lv_aload hx hb dX2_startWaiting_82 (lv_at hl 0 rfl) ?_
                refine lv_iconst (v := nI 0) hx hb dX2_startWaiting_84 (by decide) ?_
                refine x_put (D := D) (G := G) (ci := 1) (ty := .int) (C := RX0) (T := TX0) (N := 13) (Z := fun wl => Rc G (up2 (up2 c1 9 i 1) 10 i 0) wl ∧ Rr G r wl ∧ Ro G o wl) hx hb hts inX0 tyX0 tyX0_ok nmX0 hown hK hP hD hS (7 + i) (Q_u hRc (by first | omega | decide | assumption)) rfl 10 (by decide) (hts (.fieldLink RX2 199 "BootStage$Unit" "ticksStarting" "I") (by decide +kernel)) (fun _ h9 => h9) rfl (by decide +kernel) rfl rfl (Nat.le_of_ble_eq_true rfl) dX2_startWaiting_85 ⟨P_u10 (u := i) 0 (by first | omega | decide | assumption) hRc, Rr_fr hRr (by omega), Ro_fr hRo (by omega)⟩ (fun H locs wl hZ hP hD hS => ?_)
                obtain ⟨hRc, hRr, hRo⟩ := hZ
                refine lv_iinc (v := nI ((c_cnt c1) + 1)) (lv' := [(3, .int (nI ((c_cnt c1) + 1))), (5, .ref (G (20 + i))), (4, .int (nI i)), (1, .int (nI (mk (metP (c 9) (c 6)) (c 20 1)))), (2, .int (nI (mk (doneP (c 9)) (c 20 1)))), (0, .ref (G 0))]) hx hb dX2_startWaiting_88 hl (k := 4) rfl (nI_add (c_cnt c1) 1) (by decide) rfl (fun ls hl => ?_)
                refine lv_iinc (v := nI (i + 1)) (lv' := [(4, .int (nI (i + 1))), (3, .int (nI ((c_cnt c1) + 1))), (5, .ref (G (20 + i))), (1, .int (nI (mk (metP (c 9) (c 6)) (c 20 1)))), (2, .int (nI (mk (doneP (c 9)) (c 20 1)))), (0, .ref (G 0))]) hx hb dX2_startWaiting_91 hl (k := 2) rfl (nI_add i 1) (by decide) rfl (fun ls hl => ?_)
                refine lv_goto (tgt := 18) hx hb dX2_startWaiting_94 (by decide) ?_
                exact ih18 (i + 1) (by omega) (by omega) (up2 (up2 c1 9 i 1) 10 i 0) (by rw [show c_stI (mk (metP (c 9) (c 6)) (c 20 1)) (mk (doneP (c 9)) (c 20 1)) c (i + 1) = c_st1 (mk (metP (c 9) (c 6)) (c 20 1)) (mk (doneP (c 9)) (c 20 1)) (c_stI (mk (metP (c 9) (c 6)) (c 20 1)) (mk (doneP (c 9)) (c 20 1)) c i) i from rfl, ← hc1]; unfold c_st1; rw [if_pos ⟨by assumption, by assumption, by assumption, by assumption⟩]) _ _ _ _ hRc hRr hRo hP hD hS (show lv_has ls 6 [(4, .int (nI (i + 1))), (1, .int (nI (mk (metP (c 9) (c 6)) (c 20 1)))), (2, .int (nI (mk (doneP (c 9)) (c 20 1)))), (3, .int (nI (c_cnt (up2 (up2 c1 9 i 1) 10 i 0)))), (0, .ref (G 0))] from by rw [show ((.int (nI (c_cnt (up2 (up2 c1 9 i 1) 10 i 0))) : Value)) = .int (nI ((c_cnt c1) + 1)) from by exact congrArg (fun z => Value.int (nI z)) (cnt_up (by omega) (by assumption))]; exact lv_sub hl [0, 3, 4, 1, 5] rfl)
  exact L18 _ 0 (Nat.lt_succ_self _) (by omega) (c) (by rfl) _ _ _ _ hRc hRr hRo hP hD hS (show lv_has ls 6 [(4, .int (nI 0)), (1, .int (nI (mk (metP (c 9) (c 6)) (c 20 1)))), (2, .int (nI (mk (doneP (c 9)) (c 20 1)))), (3, .int (nI (c_cnt c))), (0, .ref (G 0))] from by rw [show ((.int (nI (c_cnt c)) : Value)) = .int (nI (ct (fun w => c 9 w = 1) (c 20 1))) from by rfl]; exact lv_sub hl [0, 3, 2, 1, 4] rfl)
set_option maxHeartbeats 4000000 in
set_option maxRecDepth 100000 in
theorem k_X2_raiseBar (l : Launch) (D : va_G) (G : Nat → Nat) (h0 : Nat) (c r : Nat → Nat → Nat) (o : Nat) (hI : IC c) : Met l yX2_raiseBar wsX2_raiseBar ({ frames := 3, cells := 0, slots := 0, locals := 63 } : Room) (va_Pc [.ref (G 0)] (fun U => Pr D G h0 c r o U)) (va_Qv (fun (_ : Unit) => True) (fun _ t => Wr D G h0 (c_bar c) r o t) (fun q => h0 ≤ q)) 0 0 (fun q => h0 ≤ q) := by
  refine Met.ofW (cc := cX2_raiseBar) (maxL := 2) (ret := none) (by decide) rfl ?_
  intro p e s m args below meth cd s₁ B hml hv
  obtain ⟨rfl, hE, wl, hRc, hRr, hRo, hP, hD⟩ := hv
  have hx := B.exec
  have hb := B.bytes
  have hr := B.returns
  have hts := atoms_spec (ws := wsX2_raiseBar) B.pre
  have hown : s.vm.findClass RX2 = some m.cls := findClass_of_methodNamed B.named
  have hlocks := B.notSynchronized
  have hK := hE.2.1
  have hS : va_S (fun q => h0 ≤ q) s.heap s.heap [] := va_S.rf
  have hl := lv_entry ([.ref (G 0)]) (n := 2) (Nat.le_of_ble_eq_true rfl)
  rw [lg_entry_eq]
  generalize (lg_sl ([.ref (G 0)]) ++ List.replicate (2 - (lg_sl ([.ref (G 0)])).length) Slot.unset).toArray = ls at hl ⊢
  have hl : lv_has ls 2 [(0, .ref (G 0))] := hl
  have inX2 : ∀ w ∈ wsX20, w ∈ wsX2_raiseBar := by decide +kernel
  have hB := IC_B hI
  have hn := IC_n hI
  have hs := IC_s hI
  have hsm := part_le hI
  have ho := IC_o hI
  have hdv : 1000 * sm (c_part c) (c 20 1) / c 20 5 < 2 ^ 31 := Nat.lt_of_le_of_lt (Nat.div_le_self _ _) (by omega)
  refine lv_sipush (v := nI 1000) hx hb dX2_raiseBar_0 (by decide) ?_
  refine lv_istore_n (lv' := [(1, .int (nI 1000)), (0, .ref (G 0))]) hx hb dX2_raiseBar_3 rfl hl (by decide) rfl (fun ls hl => ?_)
  refine lv_aload_n hx hb dX2_raiseBar_4 rfl (lv_at hl 1 rfl) ?_
  refine va_get (D := D) (ci := 3) (v := .int (nI (c 20 3))) (C := RX2) (T := TX2) (N := 7) hx hb hts inX2 hown hK hP 0 (Q_o hRc) rfl 3 (by decide) (hts (.fieldLink RX2 26 "BootStage" "isGoingOn" "Z") (by decide +kernel)) (fun _ h9 => h9) rfl dX2_raiseBar_5 ?_
  refine n_if_eq (tgt := 32) hx hb dX2_raiseBar_8 (by decide) (hB _ _ (by decide)) (fun c_8 => ?_) (fun c_8 => ?_)
  · refine lv_aload_n hx hb dX2_raiseBar_32 rfl (lv_at hl 1 rfl) ?_
    refine lv_aload_n hx hb dX2_raiseBar_33 rfl (lv_at hl 1 rfl) ?_
    refine va_get (D := D) (ci := 3) (v := .int (nI (c 20 6))) (C := RX2) (T := TX2) (N := 7) hx hb hts inX2 hown hK hP 0 (Q_o hRc) rfl 6 (by decide) (hts (.fieldLink RX2 36 "BootStage" "reachedBar" "I") (by decide +kernel)) (fun _ h9 => h9) rfl dX2_raiseBar_34 ?_
    refine lv_iload_n hx hb dX2_raiseBar_37 rfl (lv_at hl 0 rfl) ?_
    refine va_mmax hx hb (hml.trans hl.1.symm) hown (hts (.methodLink RX2 220 Lib.Math.max.name) (by decide +kernel)) (hts (.static Lib.Math.max.name) (by decide +kernel)) (hts (.initialized "java/lang/Math") (by decide +kernel)) (hts (.code Lib.Math.max.name Lib.Math.max.code 2 (some .int)) (by decide +kernel)) (Nat.le_of_ble_eq_true rfl) (Nat.le_of_ble_eq_true rfl) (Nat.le_of_ble_eq_true rfl) (Nat.le_of_ble_eq_true rfl) dX2_raiseBar_38 ?_
    refine n_top (y := .int (nI (max (c 20 6) 1000))) (congrArg Value.int (nI_max (by omega) (by decide))) ?_
    refine x_put (D := D) (G := G) (ci := 3) (ty := .int) (C := RX2) (T := TX2) (N := 7) (Z := fun wl => Rc G (up2 c 20 6 (max (c 20 6) 1000)) wl ∧ Rr G r wl ∧ Ro G o wl) hx hb hts inX2 tyX2 tyX2_ok nmX2 hown hK hP hD hS 0 (Q_o hRc) rfl 6 (by decide) (hts (.fieldLink RX2 36 "BootStage" "reachedBar" "I") (by decide +kernel)) (fun _ h9 => h9) rfl (by decide +kernel) rfl rfl (Nat.le_of_ble_eq_true rfl) dX2_raiseBar_41 ⟨P_o6 (max (c 20 6) 1000) hRc, Rr_fr hRr (by decide), Ro_fr hRo (by decide)⟩ (fun H locs wl hZ hP hD hS => ?_)
    obtain ⟨hRc, hRr, hRo⟩ := hZ
    exact W.vret hx hb hr (fun t ht hW => ⟨⟨(), rfl, trivial, Wr_mk (show Rc G (c_bar c) wl from by rw [show (c_bar c) = up2 c 20 6 (max (c 20 6) 1000) from by unfold c_bar; rw [if_neg (fun z => z.1 (by assumption))]]; exact hRc) hRr hRo hP hD ht⟩, hS.F ht⟩) hS.2.2 dX2_raiseBar_44
  · refine lv_aload_n hx hb dX2_raiseBar_11 rfl (lv_at hl 1 rfl) ?_
    refine va_get (D := D) (ci := 3) (v := .int (nI (c 20 5))) (C := RX2) (T := TX2) (N := 7) hx hb hts inX2 hown hK hP 0 (Q_o hRc) rfl 5 (by decide) (hts (.fieldLink RX2 33 "BootStage" "total" "I") (by decide +kernel)) (fun _ h9 => h9) rfl dX2_raiseBar_12 ?_
    refine n_if_le (tgt := 32) hx hb dX2_raiseBar_15 (by decide) (hB _ _ (by decide)) (fun c_15 => ?_) (fun c_15 => ?_)
    · refine lv_aload_n hx hb dX2_raiseBar_32 rfl (lv_at hl 1 rfl) ?_
      refine lv_aload_n hx hb dX2_raiseBar_33 rfl (lv_at hl 1 rfl) ?_
      refine va_get (D := D) (ci := 3) (v := .int (nI (c 20 6))) (C := RX2) (T := TX2) (N := 7) hx hb hts inX2 hown hK hP 0 (Q_o hRc) rfl 6 (by decide) (hts (.fieldLink RX2 36 "BootStage" "reachedBar" "I") (by decide +kernel)) (fun _ h9 => h9) rfl dX2_raiseBar_34 ?_
      refine lv_iload_n hx hb dX2_raiseBar_37 rfl (lv_at hl 0 rfl) ?_
      refine va_mmax hx hb (hml.trans hl.1.symm) hown (hts (.methodLink RX2 220 Lib.Math.max.name) (by decide +kernel)) (hts (.static Lib.Math.max.name) (by decide +kernel)) (hts (.initialized "java/lang/Math") (by decide +kernel)) (hts (.code Lib.Math.max.name Lib.Math.max.code 2 (some .int)) (by decide +kernel)) (Nat.le_of_ble_eq_true rfl) (Nat.le_of_ble_eq_true rfl) (Nat.le_of_ble_eq_true rfl) (Nat.le_of_ble_eq_true rfl) dX2_raiseBar_38 ?_
      refine n_top (y := .int (nI (max (c 20 6) 1000))) (congrArg Value.int (nI_max (by omega) (by decide))) ?_
      refine x_put (D := D) (G := G) (ci := 3) (ty := .int) (C := RX2) (T := TX2) (N := 7) (Z := fun wl => Rc G (up2 c 20 6 (max (c 20 6) 1000)) wl ∧ Rr G r wl ∧ Ro G o wl) hx hb hts inX2 tyX2 tyX2_ok nmX2 hown hK hP hD hS 0 (Q_o hRc) rfl 6 (by decide) (hts (.fieldLink RX2 36 "BootStage" "reachedBar" "I") (by decide +kernel)) (fun _ h9 => h9) rfl (by decide +kernel) rfl rfl (Nat.le_of_ble_eq_true rfl) dX2_raiseBar_41 ⟨P_o6 (max (c 20 6) 1000) hRc, Rr_fr hRr (by decide), Ro_fr hRo (by decide)⟩ (fun H locs wl hZ hP hD hS => ?_)
      obtain ⟨hRc, hRr, hRo⟩ := hZ
      exact W.vret hx hb hr (fun t ht hW => ⟨⟨(), rfl, trivial, Wr_mk (show Rc G (c_bar c) wl from by rw [show (c_bar c) = up2 c 20 6 (max (c 20 6) 1000) from by unfold c_bar; rw [if_neg (fun z => absurd z.2 (by omega))]]; exact hRc) hRr hRo hP hD ht⟩, hS.F ht⟩) hS.2.2 dX2_raiseBar_44
    · refine lv_sipush (v := nI 1000) hx hb dX2_raiseBar_18 (by decide) ?_
      refine lv_aload_n hx hb dX2_raiseBar_21 rfl (lv_at hl 1 rfl) ?_
      refine y_calli (va_runV (As := []) (rest := [.int (nI 1000)]) ⟨hx, hb, hml, hown, hts⟩ (k_X2_timeDone l D G h0 c r o hI) (cwV 0 hts gX2_raiseBar_X2_timeDone rfl rfl rfl (by decide +kernel) ⟨Nat.le_of_ble_eq_true rfl, Nat.le_of_ble_eq_true rfl⟩) ⟨fun a U g mk q => ⟨q.1, Pr_cg q.2⟩, va_recv (ci := 3) (q0 := 0) hK hP rfl (Q_o hRc), fun U hU hW => ⟨rfl, Pr_mk hE hRc hRr hRo hP hD hS hU hW⟩⟩ rfl rfl hl.1 rfl (lv_room (Nat.le_of_ble_eq_true rfl)) dX2_raiseBar_22 ⟨Nat.le_of_ble_eq_true rfl, Nat.le_of_ble_eq_true rfl⟩) hS (fun v9 _ H locs wl hv9 hRc hRr hRo hP hD hS => ?_)
      refine n_top (y := .int (nI (sm (c_part c) (c 20 1)))) (congrArg Value.int hv9) ?_
      clear hv9 v9
      refine n_imul hx hb dX2_raiseBar_25 ?_
      refine lv_aload_n hx hb dX2_raiseBar_26 rfl (lv_at hl 1 rfl) ?_
      refine va_get (D := D) (ci := 3) (v := .int (nI (c 20 5))) (C := RX2) (T := TX2) (N := 7) hx hb hts inX2 hown hK hP 0 (Q_o hRc) rfl 5 (by decide) (hts (.fieldLink RX2 33 "BootStage" "total" "I") (by decide +kernel)) (fun _ h9 => h9) rfl dX2_raiseBar_27 ?_
      refine n_idiv hx hb dX2_raiseBar_30 (by omega) (by first | omega | decide | assumption) (hB _ _ (by decide)) ?_
      refine lv_istore_n (lv' := [(1, .int (nI ((1000 * (sm (c_part c) (c 20 1))) / (c 20 5)))), (0, .ref (G 0))]) hx hb dX2_raiseBar_31 rfl hl (by decide) rfl (fun ls hl => ?_)
      refine lv_aload_n hx hb dX2_raiseBar_32 rfl (lv_at hl 1 rfl) ?_
      refine lv_aload_n hx hb dX2_raiseBar_33 rfl (lv_at hl 1 rfl) ?_
      refine va_get (D := D) (ci := 3) (v := .int (nI (c 20 6))) (C := RX2) (T := TX2) (N := 7) hx hb hts inX2 hown hK hP 0 (Q_o hRc) rfl 6 (by decide) (hts (.fieldLink RX2 36 "BootStage" "reachedBar" "I") (by decide +kernel)) (fun _ h9 => h9) rfl dX2_raiseBar_34 ?_
      refine lv_iload_n hx hb dX2_raiseBar_37 rfl (lv_at hl 0 rfl) ?_
      refine va_mmax hx hb (hml.trans hl.1.symm) hown (hts (.methodLink RX2 220 Lib.Math.max.name) (by decide +kernel)) (hts (.static Lib.Math.max.name) (by decide +kernel)) (hts (.initialized "java/lang/Math") (by decide +kernel)) (hts (.code Lib.Math.max.name Lib.Math.max.code 2 (some .int)) (by decide +kernel)) (Nat.le_of_ble_eq_true rfl) (Nat.le_of_ble_eq_true rfl) (Nat.le_of_ble_eq_true rfl) (Nat.le_of_ble_eq_true rfl) dX2_raiseBar_38 ?_
      refine n_top (y := .int (nI (max (c 20 6) ((1000 * (sm (c_part c) (c 20 1))) / (c 20 5))))) (congrArg Value.int (nI_max (by omega) hdv)) ?_
      refine x_put (D := D) (G := G) (ci := 3) (ty := .int) (C := RX2) (T := TX2) (N := 7) (Z := fun wl => Rc G (up2 c 20 6 (max (c 20 6) ((1000 * (sm (c_part c) (c 20 1))) / (c 20 5)))) wl ∧ Rr G r wl ∧ Ro G o wl) hx hb hts inX2 tyX2 tyX2_ok nmX2 hown hK hP hD hS 0 (Q_o hRc) rfl 6 (by decide) (hts (.fieldLink RX2 36 "BootStage" "reachedBar" "I") (by decide +kernel)) (fun _ h9 => h9) rfl (by decide +kernel) rfl rfl (Nat.le_of_ble_eq_true rfl) dX2_raiseBar_41 ⟨P_o6 (max (c 20 6) ((1000 * (sm (c_part c) (c 20 1))) / (c 20 5))) hRc, Rr_fr hRr (by decide), Ro_fr hRo (by decide)⟩ (fun H locs wl hZ hP hD hS => ?_)
      obtain ⟨hRc, hRr, hRo⟩ := hZ
      exact W.vret hx hb hr (fun t ht hW => ⟨⟨(), rfl, trivial, Wr_mk (show Rc G (c_bar c) wl from by rw [show (c_bar c) = up2 c 20 6 (max (c 20 6) ((1000 * (sm (c_part c) (c 20 1))) / (c 20 5))) from by unfold c_bar; rw [if_pos ⟨by omega, by assumption⟩]]; exact hRc) hRr hRo hP hD ht⟩, hS.F ht⟩) hS.2.2 dX2_raiseBar_44
set_option maxHeartbeats 4000000 in
set_option maxRecDepth 100000 in
theorem k_X2_passOneTick (l : Launch) (D : va_G) (G : Nat → Nat) (h0 : Nat) (c r : Nat → Nat → Nat) (o : Nat) (hI : IC c) : Met l yX2_passOneTick wsX2_passOneTick ({ frames := 4, cells := 0, slots := 0, locals := 87 } : Room) (va_Pc [.ref (G 0)] (fun U => Pr D G h0 c r o U)) (va_Qv (fun (_ : Unit) => True) (fun _ t => Wr D G h0 (c_tick1 c) r o t) (fun q => h0 ≤ q)) 0 0 (fun q => h0 ≤ q) := by
  refine Met.ofW (cc := cX2_passOneTick) (maxL := 1) (ret := none) (by decide) rfl ?_
  intro p e s m args below meth cd s₁ B hml hv
  obtain ⟨rfl, hE, wl, hRc, hRr, hRo, hP, hD⟩ := hv
  have hx := B.exec
  have hb := B.bytes
  have hr := B.returns
  have hts := atoms_spec (ws := wsX2_passOneTick) B.pre
  have hown : s.vm.findClass RX2 = some m.cls := findClass_of_methodNamed B.named
  have hlocks := B.notSynchronized
  have hK := hE.2.1
  have hS : va_S (fun q => h0 ≤ q) s.heap s.heap [] := va_S.rf
  have hl := lv_entry ([.ref (G 0)]) (n := 1) (Nat.le_of_ble_eq_true rfl)
  rw [lg_entry_eq]
  generalize (lg_sl ([.ref (G 0)]) ++ List.replicate (1 - (lg_sl ([.ref (G 0)])).length) Slot.unset).toArray = ls at hl ⊢
  have hl : lv_has ls 1 [(0, .ref (G 0))] := hl
  have inX2 : ∀ w ∈ wsX20, w ∈ wsX2_passOneTick := by decide +kernel
  have hB := IC_B hI
  have hn := IC_n hI
  have hs := IC_s hI
  refine lv_aload_n hx hb dX2_passOneTick_0 rfl (lv_at hl 0 rfl) ?_
  refine y_callv (va_runV (As := []) (rest := []) ⟨hx, hb, hml, hown, hts⟩ (k_X2_endStarts l D G h0 c r o hI) (cwV 0 hts gX2_passOneTick_X2_endStarts rfl rfl rfl (by decide +kernel) ⟨Nat.le_of_ble_eq_true rfl, Nat.le_of_ble_eq_true rfl⟩) ⟨fun a U g mk q => ⟨q.1, Pr_cg q.2⟩, va_recv (ci := 3) (q0 := 0) hK hP rfl (Q_o hRc), fun U hU hW => ⟨rfl, Pr_mk hE hRc hRr hRo hP hD hS hU hW⟩⟩ rfl rfl hl.1 rfl (lv_room (Nat.le_of_ble_eq_true rfl)) dX2_passOneTick_1 ⟨Nat.le_of_ble_eq_true rfl, Nat.le_of_ble_eq_true rfl⟩) hS (fun _ H locs wl _ hRc hRr hRo hP hD hS => ?_)
  refine lv_aload_n hx hb dX2_passOneTick_4 rfl (lv_at hl 0 rfl) ?_
  refine y_callv (va_runV (As := []) (rest := []) ⟨hx, hb, hml, hown, hts⟩ (k_X2_failWithoutNeeds l D G h0 (c_endI c (c 20 1)) r o (IC_endI hI _)) (cwV 0 hts gX2_passOneTick_X2_failWithoutNeeds rfl rfl rfl (by decide +kernel) ⟨Nat.le_of_ble_eq_true rfl, Nat.le_of_ble_eq_true rfl⟩) ⟨fun a U g mk q => ⟨q.1, Pr_cg q.2⟩, va_recv (ci := 3) (q0 := 0) hK hP rfl (Q_o hRc), fun U hU hW => ⟨rfl, Pr_mk hE hRc hRr hRo hP hD hS hU hW⟩⟩ rfl rfl hl.1 rfl (lv_room (Nat.le_of_ble_eq_true rfl)) dX2_passOneTick_5 ⟨Nat.le_of_ble_eq_true rfl, Nat.le_of_ble_eq_true rfl⟩) hS (fun _ H locs wl _ hRc hRr hRo hP hD hS => ?_)
  refine lv_aload_n hx hb dX2_passOneTick_8 rfl (lv_at hl 0 rfl) ?_
  refine lv_aload_n hx hb dX2_passOneTick_9 rfl (lv_at hl 0 rfl) ?_
  refine y_calli (va_runV (As := []) (rest := [.ref (G 0)]) ⟨hx, hb, hml, hown, hts⟩ (k_X2_startWaiting l D G h0 (c_failI (c_endI c (c 20 1)) ((c_endI c (c 20 1)) 20 1)) r o (IC_failI (IC_endI hI _) _)) (cwV 0 hts gX2_passOneTick_X2_startWaiting rfl rfl rfl (by decide +kernel) ⟨Nat.le_of_ble_eq_true rfl, Nat.le_of_ble_eq_true rfl⟩) ⟨fun a U g mk q => ⟨q.1, Pr_cg q.2⟩, va_recv (ci := 3) (q0 := 0) hK hP rfl (Q_o hRc), fun U hU hW => ⟨rfl, Pr_mk hE hRc hRr hRo hP hD hS hU hW⟩⟩ rfl rfl hl.1 rfl (lv_room (Nat.le_of_ble_eq_true rfl)) dX2_passOneTick_10 ⟨Nat.le_of_ble_eq_true rfl, Nat.le_of_ble_eq_true rfl⟩) hS (fun v9 _ H locs wl hv9 hRc hRr hRo hP hD hS => ?_)
  refine n_top (y := .int (nI (c_cnt (c_start (c_failI (c_endI c (c 20 1)) ((c_endI c (c 20 1)) 20 1)))))) (congrArg Value.int hv9) ?_
  clear hv9 v9
  refine n_if_le (tgt := 20) hx hb dX2_passOneTick_13 (by decide) (Nat.lt_of_le_of_lt (Nat.le_trans (ct_le _) (IC_n (IC_start (IC_failI (IC_endI hI _) _)))) (by decide)) (fun c_13 => ?_) (fun c_13 => ?_)
  · refine lv_iconst (v := nI 0) hx hb dX2_passOneTick_20 (by decide) ?_
    refine x_put (D := D) (G := G) (ci := 3) (ty := .boolean) (C := RX2) (T := TX2) (N := 7) (Z := fun wl => Rc G (up2 (c_start (c_failI (c_endI c (c 20 1)) ((c_endI c (c 20 1)) 20 1))) 20 3 0) wl ∧ Rr G r wl ∧ Ro G o wl) hx hb hts inX2 tyX2 tyX2_ok nmX2 hown hK hP hD hS 0 (Q_o hRc) rfl 3 (by decide) (hts (.fieldLink RX2 26 "BootStage" "isGoingOn" "Z") (by decide +kernel)) (fun _ h9 => h9) rfl (by decide +kernel) (nb_le (by first | exact bN_le _ | decide | omega | assumption)) (nb_ft (by first | exact bN_le _ | decide | omega | assumption)) (Nat.le_of_ble_eq_true rfl) dX2_passOneTick_21 ⟨P_o3 0 hRc, Rr_fr hRr (by decide), Ro_fr hRo (by decide)⟩ (fun H locs wl hZ hP hD hS => ?_)
    obtain ⟨hRc, hRr, hRo⟩ := hZ
    refine lv_aload_n hx hb dX2_passOneTick_24 rfl (lv_at hl 0 rfl) ?_
    refine y_callv (va_runV (As := []) (rest := []) ⟨hx, hb, hml, hown, hts⟩ (k_X2_raiseBar l D G h0 (up2 (c_start (c_failI (c_endI c (c 20 1)) ((c_endI c (c 20 1)) 20 1))) 20 3 0) r o (IC_obj (IC_start (IC_failI (IC_endI hI _) _)) (Or.inl ⟨rfl, by decide⟩))) (cwV 0 hts gX2_passOneTick_X2_raiseBar rfl rfl rfl (by decide +kernel) ⟨Nat.le_of_ble_eq_true rfl, Nat.le_of_ble_eq_true rfl⟩) ⟨fun a U g mk q => ⟨q.1, Pr_cg q.2⟩, va_recv (ci := 3) (q0 := 0) hK hP rfl (Q_o hRc), fun U hU hW => ⟨rfl, Pr_mk hE hRc hRr hRo hP hD hS hU hW⟩⟩ rfl rfl hl.1 rfl (lv_room (Nat.le_of_ble_eq_true rfl)) dX2_passOneTick_25 ⟨Nat.le_of_ble_eq_true rfl, Nat.le_of_ble_eq_true rfl⟩) hS (fun _ H locs wl _ hRc hRr hRo hP hD hS => ?_)
    exact W.vret hx hb hr (fun t ht hW => ⟨⟨(), rfl, trivial, Wr_mk (show Rc G (c_tick1 c) wl from by rw [show (c_tick1 c) = c_bar (up2 (c_start (c_failI (c_endI c (c 20 1)) ((c_endI c (c 20 1)) 20 1))) 20 3 0) from by unfold c_tick1 c_go; rw [bN_f (by omega)]]; exact hRc) hRr hRo hP hD ht⟩, hS.F ht⟩) hS.2.2 dX2_passOneTick_28
  · refine lv_iconst (v := nI 1) hx hb dX2_passOneTick_16 (by decide) ?_
    refine lv_goto (tgt := 21) hx hb dX2_passOneTick_17 (by decide) ?_
    refine x_put (D := D) (G := G) (ci := 3) (ty := .boolean) (C := RX2) (T := TX2) (N := 7) (Z := fun wl => Rc G (up2 (c_start (c_failI (c_endI c (c 20 1)) ((c_endI c (c 20 1)) 20 1))) 20 3 1) wl ∧ Rr G r wl ∧ Ro G o wl) hx hb hts inX2 tyX2 tyX2_ok nmX2 hown hK hP hD hS 0 (Q_o hRc) rfl 3 (by decide) (hts (.fieldLink RX2 26 "BootStage" "isGoingOn" "Z") (by decide +kernel)) (fun _ h9 => h9) rfl (by decide +kernel) (nb_le (by first | exact bN_le _ | decide | omega | assumption)) (nb_ft (by first | exact bN_le _ | decide | omega | assumption)) (Nat.le_of_ble_eq_true rfl) dX2_passOneTick_21 ⟨P_o3 1 hRc, Rr_fr hRr (by decide), Ro_fr hRo (by decide)⟩ (fun H locs wl hZ hP hD hS => ?_)
    obtain ⟨hRc, hRr, hRo⟩ := hZ
    refine lv_aload_n hx hb dX2_passOneTick_24 rfl (lv_at hl 0 rfl) ?_
    refine y_callv (va_runV (As := []) (rest := []) ⟨hx, hb, hml, hown, hts⟩ (k_X2_raiseBar l D G h0 (up2 (c_start (c_failI (c_endI c (c 20 1)) ((c_endI c (c 20 1)) 20 1))) 20 3 1) r o (IC_obj (IC_start (IC_failI (IC_endI hI _) _)) (Or.inl ⟨rfl, by decide⟩))) (cwV 0 hts gX2_passOneTick_X2_raiseBar rfl rfl rfl (by decide +kernel) ⟨Nat.le_of_ble_eq_true rfl, Nat.le_of_ble_eq_true rfl⟩) ⟨fun a U g mk q => ⟨q.1, Pr_cg q.2⟩, va_recv (ci := 3) (q0 := 0) hK hP rfl (Q_o hRc), fun U hU hW => ⟨rfl, Pr_mk hE hRc hRr hRo hP hD hS hU hW⟩⟩ rfl rfl hl.1 rfl (lv_room (Nat.le_of_ble_eq_true rfl)) dX2_passOneTick_25 ⟨Nat.le_of_ble_eq_true rfl, Nat.le_of_ble_eq_true rfl⟩) hS (fun _ H locs wl _ hRc hRr hRo hP hD hS => ?_)
    exact W.vret hx hb hr (fun t ht hW => ⟨⟨(), rfl, trivial, Wr_mk (show Rc G (c_tick1 c) wl from by rw [show (c_tick1 c) = c_bar (up2 (c_start (c_failI (c_endI c (c 20 1)) ((c_endI c (c 20 1)) 20 1))) 20 3 1) from by unfold c_tick1 c_go; rw [bN_t (by assumption)]]; exact hRc) hRr hRo hP hD ht⟩, hS.F ht⟩) hS.2.2 dX2_passOneTick_28
