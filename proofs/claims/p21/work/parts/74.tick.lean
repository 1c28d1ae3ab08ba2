set_option maxHeartbeats 4000000 in
set_option maxRecDepth 100000 in
theorem k_L_isTicked (l : Launch) (D : va_G) (G : Nat → Nat) (h0 : Nat) (c r : Nat → Nat → Nat) (o : Nat) (hI : IC c) (hn8 : c 20 1 ≤ 8) (h12 : ∀ v, v < c 20 1 → r 12 v = c 6 v) (h14 : ∀ u, u < c 20 1 → r 14 u = c 7 u) (hBr : BR r) (hw : ∀ u v, u < c 20 1 → v < c 20 1 → (wun r (8 * u + v) ↔ (c 8 u).testBit v = true)) (hg : c 20 3 ≠ 0) (hbar : c 20 6 ≤ 1000) (hcnt : c_cnt c ≤ c 20 4) (hG : ∀ u, u < c 20 1 → r 10 u = c 1 u ∧ r 11 u = c 2 u ∧ r 16 u = c 11 u ∧ r 17 u = c 12 u ∧ (c 9 u = 1 → r 15 u = c 10 u)) (hM : r 4 0 = c 20 4 ∧ r 4 1 = c 20 5) : Met l yL_isTicked wsL_isTicked ({ frames := 7, cells := 0, slots := 0, locals := 154 } : Room) (va_Pc [.ref (G 0), .ref (G 3), .ref (G 4), .ref (G 5), .ref (G 6)] (fun U => Pr D G h0 c r o U)) (va_Qi (fun (v9 : Int32) (u9 : Nat → Nat → Nat) => v9 = nI 1 ∧ (∀ a j, a ≠ 3 → a ≠ 15 → a ≠ 16 → u9 a j = r a j) ∧ (∀ u, u < c 20 1 → u9 16 u = c_tick1 c 11 u ∧ (c_tick1 c 9 u = 1 → u9 15 u = c_tick1 c 10 u)) ∧ (∀ u, c 20 1 ≤ u → u9 16 u = r 16 u ∧ u9 15 u = r 15 u) ∧ BR u9) (fun (u9 : Nat → Nat → Nat) t => Wr D G h0 (c_tick1 c) u9 o t) (fun q => h0 ≤ q)) 0 0 (fun q => h0 ≤ q) := by
  refine Met.ofW (cc := cL_isTicked) (maxL := 17) (ret := (some .boolean)) (by decide) rfl ?_
  intro p e s m args below meth cd s₁ B hml hv
  obtain ⟨rfl, hE, wl, hRc, hRr, hRo, hP, hD⟩ := hv
  have hx := B.exec
  have hb := B.bytes
  have hr := B.returns
  have hts := atoms_spec (ws := wsL_isTicked) B.pre
  have hown : s.vm.findClass RL = some m.cls := findClass_of_methodNamed B.named
  have hlocks := B.notSynchronized
  have hK := hE.2.1
  have hS : va_S (fun q => h0 ≤ q) s.heap s.heap [] := va_S.rf
  have hl := lv_entry ([.ref (G 0), .ref (G 3), .ref (G 4), .ref (G 5), .ref (G 6)]) (n := 17) (Nat.le_of_ble_eq_true rfl)
  rw [lg_entry_eq]
  generalize (lg_sl ([.ref (G 0), .ref (G 3), .ref (G 4), .ref (G 5), .ref (G 6)]) ++ List.replicate (17 - (lg_sl ([.ref (G 0), .ref (G 3), .ref (G 4), .ref (G 5), .ref (G 6)])).length) Slot.unset).toArray = ls at hl ⊢
  have hl : lv_has ls 17 [(0, .ref (G 0)), (1, .ref (G 3)), (2, .ref (G 4)), (3, .ref (G 5)), (4, .ref (G 6))] := hl
  obtain ⟨Q, hQ⟩ : ∃ Q, Q = MQ below (va_Qi (fun (v9 : Int32) (u9 : Nat → Nat → Nat) => v9 = nI 1 ∧ (∀ a j, a ≠ 3 → a ≠ 15 → a ≠ 16 → u9 a j = r a j) ∧ (∀ u, u < c 20 1 → u9 16 u = c_tick1 c 11 u ∧ (c_tick1 c 9 u = 1 → u9 15 u = c_tick1 c 10 u)) ∧ (∀ u, c 20 1 ≤ u → u9 16 u = r 16 u ∧ u9 15 u = r 15 u) ∧ BR u9) (fun (u9 : Nat → Nat → Nat) t => Wr D G h0 (c_tick1 c) u9 o t) (fun q => h0 ≤ q)) ([.ref (G 0), .ref (G 3), .ref (G 4), .ref (G 5), .ref (G 6)] : List Value).toArray s 0 0 (fun q => h0 ≤ q) := ⟨_, rfl⟩
  rw [← hQ]
  have hB := IC_B hI
  have hn := IC_n hI
  refine lv_aload_n hx hb dL_isTicked_0 rfl (lv_at hl 0 rfl) ?_
  refine y_calli (va_runV (As := []) (rest := []) ⟨hx, hb, hml, hown, hts⟩ (k_X2_bar l D G h0 c r o ) (cwV 0 hts gL_isTicked_X2_bar rfl rfl rfl (by decide +kernel) ⟨Nat.le_of_ble_eq_true rfl, Nat.le_of_ble_eq_true rfl⟩) ⟨fun a U g mk q => ⟨q.1, Pr_cg q.2⟩, va_recv (ci := 3) (q0 := 0) hK hP rfl (Q_o hRc), fun U hU hW => ⟨rfl, Pr_mk hE hRc hRr hRo hP hD hS hU hW⟩⟩ rfl rfl hl.1 rfl (lv_room (Nat.le_of_ble_eq_true rfl)) dL_isTicked_1 ⟨Nat.le_of_ble_eq_true rfl, Nat.le_of_ble_eq_true rfl⟩) hS (fun v9 _ H locs wl hv9 hRc hRr hRo hP hD hS => ?_)
  refine n_top (y := .int (nI (c 20 6))) (congrArg Value.int hv9) ?_
  clear hv9 v9
  refine lv_istore (lv' := [(5, .int (nI (c 20 6))), (0, .ref (G 0)), (1, .ref (G 3)), (2, .ref (G 4)), (3, .ref (G 5)), (4, .ref (G 6))]) hx hb dL_isTicked_4 hl (by decide) rfl (fun ls hl => ?_)
  refine lv_iconst (v := nI 0) hx hb dL_isTicked_6 (by decide) ?_
  refine lv_istore (lv' := [(6, .int (nI 0)), (5, .int (nI (c 20 6))), (0, .ref (G 0)), (1, .ref (G 3)), (2, .ref (G 4)), (3, .ref (G 5)), (4, .ref (G 6))]) hx hb dL_isTicked_7 hl (by decide) rfl (fun ls hl => ?_)
  have L9 : ∀ (d i : Nat), c 20 1 - i < d → i ≤ c 20 1 → ∀ (r1 : Nat → Nat → Nat), (∀ a j, a ≠ 3 → r1 a j = r a j) → (∀ k, k < i → r1 3 k = c 9 k ∧ r1 3 (8 + k) = c 4 k ∧ r1 3 (16 + k) = c 3 k) → (BR r1) → ∀ (H : Heap) (locs : List Loc) (wl : va_W) (ls : Array Slot), Rc G c wl → Rr G r1 wl → Ro G o wl → va_P D vwCl wl H → va_D (fun q => h0 ≤ q) wl → va_S (fun q => h0 ≤ q) s.heap H locs → lv_has ls 17 [(6, .int (nI i)), (0, .ref (G 0)), (1, .ref (G 3)), (2, .ref (G 4)), (3, .ref (G 5)), (4, .ref (G 6)), (5, .int (nI (c 20 6)))] → W p l e (headSpec wsL_isTicked ({ frames := 7, cells := 0, slots := 0, locals := 154 } : Room)).room s m ([.ref (G 0), .ref (G 3), .ref (G 4), .ref (G 5), .ref (G 6)] : List Value).toArray below meth cd H locs 0 0 Q (F0 m 9 ls []) := by
    intro d9
    induction d9 with
    | zero => intro i hd; exact absurd hd (Nat.not_lt_zero _)
    | succ d9 ih9 =>
      intro i hd hi r1  hr1 hr3 hBr1 H locs wl ls hRc hRr hRo hP hD hS hl
      refine lv_iload hx hb dL_isTicked_9 (lv_at hl 0 rfl) ?_
      refine lv_aload_n hx hb dL_isTicked_11 rfl (lv_at hl 1 rfl) ?_
      refine y_calli (va_runV (As := []) (rest := [.int (nI i)]) ⟨hx, hb, hml, hown, hts⟩ (k_X2_units l D G h0 c r1 o ) (cwV 0 hts gL_isTicked_X2_units rfl rfl rfl (by decide +kernel) ⟨Nat.le_of_ble_eq_true rfl, Nat.le_of_ble_eq_true rfl⟩) ⟨fun a U g mk q => ⟨q.1, Pr_cg q.2⟩, va_recv (ci := 3) (q0 := 0) hK hP rfl (Q_o hRc), fun U hU hW => ⟨rfl, Pr_mk hE hRc hRr hRo hP hD hS hU hW⟩⟩ rfl rfl hl.1 rfl (lv_room (Nat.le_of_ble_eq_true rfl)) dL_isTicked_12 ⟨Nat.le_of_ble_eq_true rfl, Nat.le_of_ble_eq_true rfl⟩) hS (fun v9 _ H locs wl hv9 hRc hRr hRo hP hD hS => ?_)
      refine n_top (y := .int (nI (c 20 1))) (congrArg Value.int hv9) ?_
      clear hv9 v9
      refine n_icmp_ge (tgt := 60) hx hb dL_isTicked_15 (by decide) (by omega) (hB _ _ (by decide)) (fun c_15 => ?_) (fun c_15 => ?_)
      · have hr3n : ∀ k, k < c 20 1 → r1 3 k = c 9 k ∧ r1 3 (8 + k) = c 4 k ∧ r1 3 (16 + k) = c 3 k := fun k hk => hr3 k (by omega)
        clear hr3
        refine lv_aload_n hx hb dL_isTicked_60 rfl (lv_at hl 1 rfl) ?_
        refine lv_bipush (v := nI 8) hx hb dL_isTicked_61 (by decide) ?_
        refine lv_iconst (v := nI 1) hx hb dL_isTicked_63 (by decide) ?_
        refine lv_iconst (v := nI 0) hx hb dL_isTicked_64 (by decide) ?_
        refine lv_iconst (v := nI 0) hx hb dL_isTicked_65 (by decide) ?_
        refine y_calli (va_SW (As := [.ref (G 0), .int (nI 8), .int (nI 1), .int (nI 0), .int (nI 0)]) (rest := []) hx hb hml hown hts (k_L_act_tick_ok l D G h0 c r1 o (nI 0) (nI 0) hI hg) (vx_cwSW 5 hts gL_isTicked_L_act rfl rfl rfl (by decide +kernel) ⟨(Nat.le_of_ble_eq_true rfl), (Nat.le_of_ble_eq_true rfl)⟩) (fun a U g mk q => ⟨q.1, Pr_cg q.2⟩) (fun U hU hW => ⟨rfl, Pr_mk hE hRc hRr hRo hP hD hS hU hW⟩) rfl hl.1 rfl (lv_room (Nat.le_of_ble_eq_true rfl)) dL_isTicked_66 (Nat.le_of_ble_eq_true rfl) (Nat.le_of_ble_eq_true rfl)) hS (fun v9 C H locs wl hv9 hRc hRr hRo hP hD hS => ?_)
        refine n_top (y := .int (nI 1)) (congrArg Value.int hv9.1) ?_
        have hC : C = c_tick1 c := hv9.2
        clear hv9
        have hI2 : IC C := by rw [hC]; exact IC_tick1 hI
        have hB2 := IC_B hI2
        have e20 : C 20 1 = c 20 1 := by rw [hC]; exact tk1_20 c (by decide) (by decide)
        have hn8C : C 20 1 ≤ 8 := by omega
        have hg1 : C 20 3 ≤ 1 := (IC_o hI2).1
        have hX12 : ∀ v, v < C 20 1 → r 12 v = C 6 v := fun v hv => by rw [hC, tk1_a c (by decide), tkS_n c 6 v (by omega)]; exact h12 v (by omega)
        have hX14 : ∀ v, v < C 20 1 → r 14 v = C 7 v := fun v hv => by rw [hC, tk1_a c (by decide), tkS_n c 7 v (by omega)]; exact h14 v (by omega)
        have hC12 : ∀ v, C 12 v = c 12 v := fun v => by rw [hC, tk1_a c (by decide), tkS_n c 12 v (by omega)]
        have h203 : C 20 3 = bN (0 < c_cnt C) := by rw [hC]; exact tk1_3 c
        have hcn : c_cnt C ≤ c 20 4 := by rw [hC]; exact tick_cnt hcnt
        have hps := part_sm hI2 (n := C 20 1) (by omega)
        have e205 : C 20 5 = c 20 5 := by rw [hC]; exact tk1_20 c (by decide) (by decide)
        refine lv_iconst (v := nI 1) hx hb dL_isTicked_69 (by decide) ?_
        refine n_icmp_ne (tgt := 77) hx hb dL_isTicked_70 (by decide) (by decide) (by decide) (fun c_70 => absurd c_70 (by decide)) (fun c_70 => ?_)
        refine lv_iconst (v := nI 1) hx hb dL_isTicked_73 (by decide) ?_
        refine lv_goto (tgt := 78) hx hb dL_isTicked_74 (by decide) ?_
        refine lv_istore (lv' := [(6, .int (nI 1)), (0, .ref (G 0)), (1, .ref (G 3)), (2, .ref (G 4)), (3, .ref (G 5)), (4, .ref (G 6)), (5, .int (nI (c 20 6)))]) hx hb dL_isTicked_78 hl (by decide) rfl (fun ls hl => ?_)
        refine lv_iconst (v := nI 0) hx hb dL_isTicked_80 (by decide) ?_
        refine lv_istore (lv' := [(7, .int (nI 0)), (6, .int (nI 1)), (0, .ref (G 0)), (1, .ref (G 3)), (2, .ref (G 4)), (3, .ref (G 5)), (4, .ref (G 6)), (5, .int (nI (c 20 6)))]) hx hb dL_isTicked_81 hl (by decide) rfl (fun ls hl => ?_)
        refine lv_iconst (v := nI 0) hx hb dL_isTicked_83 (by decide) ?_
        refine lv_istore (lv' := [(8, .int (nI 0)), (7, .int (nI 0)), (6, .int (nI 1)), (0, .ref (G 0)), (1, .ref (G 3)), (2, .ref (G 4)), (3, .ref (G 5)), (4, .ref (G 6)), (5, .int (nI (c 20 6)))]) hx hb dL_isTicked_84 hl (by decide) rfl (fun ls hl => ?_)
        refine lv_iconst (v := nI 0) hx hb dL_isTicked_86 (by decide) ?_
        refine lv_istore (lv' := [(9, .int (nI 0)), (8, .int (nI 0)), (7, .int (nI 0)), (6, .int (nI 1)), (0, .ref (G 0)), (1, .ref (G 3)), (2, .ref (G 4)), (3, .ref (G 5)), (4, .ref (G 6)), (5, .int (nI (c 20 6)))]) hx hb dL_isTicked_87 hl (by decide) rfl (fun ls hl => ?_)
        have L89 : ∀ (d i : Nat), C 20 1 - i < d → i ≤ C 20 1 → ∀ (r2 : Nat → Nat → Nat), (∀ a j, a ≠ 15 → a ≠ 16 → r2 a j = r1 a j) → (∀ k, k < i → r2 16 k = C 11 k ∧ (C 9 k = 1 → r2 15 k = C 10 k)) → (∀ k, i ≤ k → r2 16 k = r 16 k ∧ r2 15 k = r 15 k) → (BR r2) → ∀ (H : Heap) (locs : List Loc) (wl : va_W) (ls : Array Slot), Rc G C wl → Rr G r2 wl → Ro G o wl → va_P D vwCl wl H → va_D (fun q => h0 ≤ q) wl → va_S (fun q => h0 ≤ q) s.heap H locs → lv_has ls 17 [(9, .int (nI i)), (6, .int (nI 1)), (7, .int (nI (ct (fun w => C 9 w = 1) i))), (8, .int (nI (sm (c_part C) i))), (0, .ref (G 0)), (1, .ref (G 3)), (2, .ref (G 4)), (3, .ref (G 5)), (4, .ref (G 6)), (5, .int (nI (c 20 6)))] → W p l e (headSpec wsL_isTicked ({ frames := 7, cells := 0, slots := 0, locals := 154 } : Room)).room s m ([.ref (G 0), .ref (G 3), .ref (G 4), .ref (G 5), .ref (G 6)] : List Value).toArray below meth cd H locs 0 0 Q (F0 m 89 ls []) := by
          intro d89
          induction d89 with
          | zero => intro i hd; exact absurd hd (Nat.not_lt_zero _)
          | succ d89 ih89 =>
            intro i hd hi r2  hr2 hlo hhi hBr2 H locs wl ls hRc hRr hRo hP hD hS hl
            refine lv_iload hx hb dL_isTicked_89 (lv_at hl 0 rfl) ?_
            refine lv_aload_n hx hb dL_isTicked_91 rfl (lv_at hl 4 rfl) ?_
            refine y_calli (va_runV (As := []) (rest := [.int (nI i)]) ⟨hx, hb, hml, hown, hts⟩ (k_X2_units l D G h0 C r2 o ) (cwV 0 hts gL_isTicked_X2_units rfl rfl rfl (by decide +kernel) ⟨Nat.le_of_ble_eq_true rfl, Nat.le_of_ble_eq_true rfl⟩) ⟨fun a U g mk q => ⟨q.1, Pr_cg q.2⟩, va_recv (ci := 3) (q0 := 0) hK hP rfl (Q_o hRc), fun U hU hW => ⟨rfl, Pr_mk hE hRc hRr hRo hP hD hS hU hW⟩⟩ rfl rfl hl.1 rfl (lv_room (Nat.le_of_ble_eq_true rfl)) dL_isTicked_92 ⟨Nat.le_of_ble_eq_true rfl, Nat.le_of_ble_eq_true rfl⟩) hS (fun v9 _ H locs wl hv9 hRc hRr hRo hP hD hS => ?_)
            refine n_top (y := .int (nI (C 20 1))) (congrArg Value.int hv9) ?_
            clear hv9 v9
            refine n_icmp_ge (tgt := 572) hx hb dL_isTicked_95 (by decide) (by omega) (hB2 _ _ (by decide)) (fun c_95 => ?_) (fun c_95 => ?_)
            · have e4m : r2 4 0 = c 20 4 ∧ r2 4 1 = c 20 5 := by rw [hr2 4 0 (by decide) (by decide), hr2 4 1 (by decide) (by decide), hr1 4 0 (by decide), hr1 4 1 (by decide)]; exact hM
              have hcti : ct (fun w => C 9 w = 1) i = c_cnt C := by unfold c_cnt; rw [show C 20 1 = i by omega]
              have hpi : sm (c_part C) i ≤ 2000 := by rw [show i = C 20 1 by omega]; exact hps
              have h31 : itsV C (C 20 1) < 2 ^ 31 := by unfold itsV; split; decide; exact Nat.lt_of_le_of_lt (Nat.div_le_self _ _) (by omega)
              have J572 : (∀ (H : Heap) (locs : List Loc) (wl : va_W), Rc G C wl → Rr G r2 wl → Ro G o wl → va_P D vwCl wl H → va_D (fun q => h0 ≤ q) wl → va_S (fun q => h0 ≤ q) s.heap H locs → W p l e (headSpec wsL_isTicked ({ frames := 7, cells := 0, slots := 0, locals := 154 } : Room)).room s m ([.ref (G 0), .ref (G 3), .ref (G 4), .ref (G 5), .ref (G 6)] : List Value).toArray below meth cd H locs 0 0 Q (F0 m 582 ls [.int (nI (bN (0 < c_cnt C)))])) → W p l e (headSpec wsL_isTicked ({ frames := 7, cells := 0, slots := 0, locals := 154 } : Room)).room s m ([.ref (G 0), .ref (G 3), .ref (G 4), .ref (G 5), .ref (G 6)] : List Value).toArray below meth cd H locs 0 0 Q (F0 m 572 ls []) := by
                intro hk572
                refine lv_iload hx hb dL_isTicked_572 (lv_at hl 2 rfl) ?_
                refine n_if_le (tgt := 581) hx hb dL_isTicked_574 (by decide) (Nat.lt_of_le_of_lt (ct_le _) (by omega)) (fun c_574 => ?_) (fun c_574 => ?_)
                · refine lv_iconst (v := nI 0) hx hb dL_isTicked_581 (by decide) ?_
                  refine n_top (y := .int (nI (bN (0 < c_cnt C)))) (congrArg Value.int (show nI 0 = nI (bN (0 < c_cnt C)) from by exact congrArg nI (bN_f (by unfold c_cnt; rw [show C 20 1 = i by omega]; omega)).symm)) ?_
                  exact hk572 _ _ _ hRc hRr hRo hP hD hS
                · refine lv_iconst (v := nI 1) hx hb dL_isTicked_577 (by decide) ?_
                  refine lv_goto (tgt := 582) hx hb dL_isTicked_578 (by decide) ?_
                  refine n_top (y := .int (nI (bN (0 < c_cnt C)))) (congrArg Value.int (show nI 1 = nI (bN (0 < c_cnt C)) from by exact congrArg nI (bN_t (by unfold c_cnt; rw [show C 20 1 = i by omega]; exact c_574)).symm)) ?_
                  exact hk572 _ _ _ hRc hRr hRo hP hD hS
              refine J572 (fun H locs wl hRc hRr hRo hP hD hS => ?_)
              refine lv_istore (lv' := [(9, .int (nI (bN (0 < c_cnt C)))), (6, .int (nI 1)), (7, .int (nI (ct (fun w => C 9 w = 1) i))), (8, .int (nI (sm (c_part C) i))), (0, .ref (G 0)), (1, .ref (G 3)), (2, .ref (G 4)), (3, .ref (G 5)), (4, .ref (G 6)), (5, .int (nI (c 20 6)))]) hx hb dL_isTicked_582 hl (by decide) rfl (fun ls hl => ?_)
              have J584 : (∀ (H : Heap) (locs : List Loc) (wl : va_W), Rc G C wl → Rr G r2 wl → Ro G o wl → va_P D vwCl wl H → va_D (fun q => h0 ≤ q) wl → va_S (fun q => h0 ≤ q) s.heap H locs → W p l e (headSpec wsL_isTicked ({ frames := 7, cells := 0, slots := 0, locals := 154 } : Room)).room s m ([.ref (G 0), .ref (G 3), .ref (G 4), .ref (G 5), .ref (G 6)] : List Value).toArray below meth cd H locs 0 0 Q (F0 m 608 ls [.int (nI (itsV C (C 20 1)))])) → W p l e (headSpec wsL_isTicked ({ frames := 7, cells := 0, slots := 0, locals := 154 } : Room)).room s m ([.ref (G 0), .ref (G 3), .ref (G 4), .ref (G 5), .ref (G 6)] : List Value).toArray below meth cd H locs 0 0 Q (F0 m 584 ls []) := by
                intro hk584
                refine lv_aload hx hb dL_isTicked_584 (lv_at hl 8 rfl) ?_
                refine lv_iconst (v := nI 1) hx hb dL_isTicked_586 (by decide) ?_
                refine x_iald hx hb hK hP 6 (Q_a4 hRr) (by first | omega | decide | assumption) (by decide) dL_isTicked_587 (v := nI (r2 4 1)) rfl ?_
                refine n_if_ne (tgt := 597) hx hb dL_isTicked_588 (by decide) (hBr2 _ _ (by decide)) (fun c_588 => ?_) (fun c_588 => ?_)
                · refine lv_sipush (v := nI 1000) hx hb dL_isTicked_597 (by decide) ?_
                  refine lv_iload hx hb dL_isTicked_600 (lv_at hl 3 rfl) ?_
                  refine n_imul hx hb dL_isTicked_602 ?_
                  refine lv_aload hx hb dL_isTicked_603 (lv_at hl 8 rfl) ?_
                  refine lv_iconst (v := nI 1) hx hb dL_isTicked_605 (by decide) ?_
                  refine x_iald hx hb hK hP 6 (Q_a4 hRr) (by first | omega | decide | assumption) (by decide) dL_isTicked_606 (v := nI (r2 4 1)) rfl ?_
                  refine n_idiv hx hb dL_isTicked_607 (by omega) (by first | omega | decide | assumption) (hBr2 _ _ (by decide)) ?_
                  refine n_top (y := .int (nI (itsV C (C 20 1)))) (congrArg Value.int (show nI ((1000 * (sm (c_part C) i)) / (r2 4 1)) = nI (itsV C (C 20 1)) from by exact congrArg nI (by unfold itsV; rw [if_neg (by omega), show C 20 1 = i by omega, show r2 4 1 = C 20 5 by omega]))) ?_
                  exact hk584 _ _ _ hRc hRr hRo hP hD hS
                · refine lv_sipush (v := nI 1000) hx hb dL_isTicked_591 (by decide) ?_
                  refine lv_goto (tgt := 608) hx hb dL_isTicked_594 (by decide) ?_
                  refine n_top (y := .int (nI (itsV C (C 20 1)))) (congrArg Value.int (show nI 1000 = nI (itsV C (C 20 1)) from by exact congrArg nI (by unfold itsV; rw [if_pos (by omega)]))) ?_
                  exact hk584 _ _ _ hRc hRr hRo hP hD hS
              refine J584 (fun H locs wl hRc hRr hRo hP hD hS => ?_)
              refine lv_istore (lv' := [(10, .int (nI (itsV C (C 20 1)))), (9, .int (nI (bN (0 < c_cnt C)))), (6, .int (nI 1)), (7, .int (nI (ct (fun w => C 9 w = 1) i))), (8, .int (nI (sm (c_part C) i))), (0, .ref (G 0)), (1, .ref (G 3)), (2, .ref (G 4)), (3, .ref (G 5)), (4, .ref (G 6)), (5, .int (nI (c 20 6)))]) hx hb dL_isTicked_608 hl (by decide) rfl (fun ls hl => ?_)
              refine lv_iload hx hb dL_isTicked_610 (lv_at hl 2 rfl) ?_
              refine n_if_eq (tgt := 669) hx hb dL_isTicked_612 (by decide) (by decide) (fun c_612 => absurd c_612 (by decide)) (fun c_612 => ?_)
              refine lv_iload hx hb dL_isTicked_615 (lv_at hl 3 rfl) ?_
              refine lv_aload hx hb dL_isTicked_617 (lv_at hl 9 rfl) ?_
              refine lv_iconst (v := nI 0) hx hb dL_isTicked_619 (by decide) ?_
              refine x_iald hx hb hK hP 6 (Q_a4 hRr) (by first | omega | decide | assumption) (by decide) dL_isTicked_620 (v := nI (r2 4 0)) rfl ?_
              refine n_icmp_gt (tgt := 669) hx hb dL_isTicked_621 (by decide) (Nat.lt_of_le_of_lt (ct_le _) (by omega)) (hBr2 _ _ (by decide)) (fun c_621 => ?_) (fun c_621 => ?_)
              · exfalso; omega
              · refine lv_aload_n hx hb dL_isTicked_624 rfl (lv_at hl 5 rfl) ?_
                refine y_calli (va_runV (As := []) (rest := []) ⟨hx, hb, hml, hown, hts⟩ (k_X2_goesOn l D G h0 C r2 o hg1) (cwV 0 hts gL_isTicked_X2_goesOn rfl rfl rfl (by decide +kernel) ⟨Nat.le_of_ble_eq_true rfl, Nat.le_of_ble_eq_true rfl⟩) ⟨fun a U g mk q => ⟨q.1, Pr_cg q.2⟩, va_recv (ci := 3) (q0 := 0) hK hP rfl (Q_o hRc), fun U hU hW => ⟨rfl, Pr_mk hE hRc hRr hRo hP hD hS hU hW⟩⟩ rfl rfl hl.1 rfl (lv_room (Nat.le_of_ble_eq_true rfl)) dL_isTicked_625 ⟨Nat.le_of_ble_eq_true rfl, Nat.le_of_ble_eq_true rfl⟩) hS (fun v9 _ H locs wl hv9 hRc hRr hRo hP hD hS => ?_)
                refine n_top (y := .int (nI (C 20 3))) (congrArg Value.int hv9) ?_
                clear hv9 v9
                refine lv_iload hx hb dL_isTicked_628 (lv_at hl 1 rfl) ?_
                refine n_icmp_ne (tgt := 669) hx hb dL_isTicked_630 (by decide) (hB2 _ _ (by decide)) (Nat.lt_of_le_of_lt (bN_le _) (by decide)) (fun c_630 => ?_) (fun c_630 => ?_)
                · exfalso; exact c_630 h203
                · refine lv_aload_n hx hb dL_isTicked_633 rfl (lv_at hl 5 rfl) ?_
                  refine y_calli (va_runV (As := []) (rest := []) ⟨hx, hb, hml, hown, hts⟩ (k_X2_bar l D G h0 C r2 o ) (cwV 0 hts gL_isTicked_X2_bar rfl rfl rfl (by decide +kernel) ⟨Nat.le_of_ble_eq_true rfl, Nat.le_of_ble_eq_true rfl⟩) ⟨fun a U g mk q => ⟨q.1, Pr_cg q.2⟩, va_recv (ci := 3) (q0 := 0) hK hP rfl (Q_o hRc), fun U hU hW => ⟨rfl, Pr_mk hE hRc hRr hRo hP hD hS hU hW⟩⟩ rfl rfl hl.1 rfl (lv_room (Nat.le_of_ble_eq_true rfl)) dL_isTicked_634 ⟨Nat.le_of_ble_eq_true rfl, Nat.le_of_ble_eq_true rfl⟩) hS (fun v9 _ H locs wl hv9 hRc hRr hRo hP hD hS => ?_)
                  refine n_top (y := .int (nI (C 20 6))) (congrArg Value.int hv9) ?_
                  clear hv9 v9
                  have J637 : (∀ (H : Heap) (locs : List Loc) (wl : va_W), Rc G C wl → Rr G r2 wl → Ro G o wl → va_P D vwCl wl H → va_D (fun q => h0 ≤ q) wl → va_S (fun q => h0 ≤ q) s.heap H locs → W p l e (headSpec wsL_isTicked ({ frames := 7, cells := 0, slots := 0, locals := 154 } : Room)).room s m ([.ref (G 0), .ref (G 3), .ref (G 4), .ref (G 5), .ref (G 6)] : List Value).toArray below meth cd H locs 0 0 Q (F0 m 662 ls [.int (nI (C 20 6)), .int (nI (C 20 6))])) → W p l e (headSpec wsL_isTicked ({ frames := 7, cells := 0, slots := 0, locals := 154 } : Room)).room s m ([.ref (G 0), .ref (G 3), .ref (G 4), .ref (G 5), .ref (G 6)] : List Value).toArray below meth cd H locs 0 0 Q (F0 m 637 ls [.int (nI (C 20 6))]) := by
                    intro hk637
                    refine lv_iload hx hb dL_isTicked_637 (lv_at hl 1 rfl) ?_
                    refine n_ifb_ne (tgt := 648) hx hb dL_isTicked_639 (by decide) (fun c_639 => ?_) (fun c_639 => ?_)
                    · refine lv_iload hx hb dL_isTicked_648 (lv_at hl 0 rfl) ?_
                      refine lv_iload hx hb dL_isTicked_650 (lv_at hl 10 rfl) ?_
                      refine n_icmp_ge (tgt := 660) hx hb dL_isTicked_652 (by decide) h31 (hB _ _ (by decide)) (fun c_652 => ?_) (fun c_652 => ?_)
                      · refine lv_iload hx hb dL_isTicked_660 (lv_at hl 0 rfl) ?_
                        refine n_top (y := .int (nI (C 20 6))) (congrArg Value.int (show nI (itsV C (C 20 1)) = nI (C 20 6) from by exact congrArg nI ((bar_fin hC hbar).2.2 c_639 (by omega)).symm)) ?_
                        exact hk637 _ _ _ hRc hRr hRo hP hD hS
                      · refine lv_iload hx hb dL_isTicked_655 (lv_at hl 10 rfl) ?_
                        refine lv_goto (tgt := 662) hx hb dL_isTicked_657 (by decide) ?_
                        refine n_top (y := .int (nI (C 20 6))) (congrArg Value.int (show nI (c 20 6) = nI (C 20 6) from by exact congrArg nI ((bar_fin hC hbar).2.1 c_639 c_652).symm)) ?_
                        exact hk637 _ _ _ hRc hRr hRo hP hD hS
                    · refine lv_sipush (v := nI 1000) hx hb dL_isTicked_642 (by decide) ?_
                      refine lv_goto (tgt := 662) hx hb dL_isTicked_645 (by decide) ?_
                      refine n_top (y := .int (nI (C 20 6))) (congrArg Value.int (show nI 1000 = nI (C 20 6) from by exact congrArg nI ((bar_fin hC hbar).1 c_639).symm)) ?_
                      exact hk637 _ _ _ hRc hRr hRo hP hD hS
                  refine J637 (fun H locs wl hRc hRr hRo hP hD hS => ?_)
                  refine n_icmp_ne (tgt := 669) hx hb dL_isTicked_662 (by decide) (hB2 _ _ (by decide)) (hB2 _ _ (by decide)) (fun c_662 => ?_) (fun c_662 => ?_)
                  · exfalso; exact c_662 rfl
                  · refine lv_iconst (v := nI 1) hx hb dL_isTicked_665 (by decide) ?_
                    refine lv_goto (tgt := 670) hx hb dL_isTicked_666 (by decide) ?_
                    refine lv_istore (lv' := [(6, .int (nI 1)), (10, .int (nI (itsV C (C 20 1)))), (9, .int (nI (bN (0 < c_cnt C)))), (7, .int (nI (ct (fun w => C 9 w = 1) i))), (8, .int (nI (sm (c_part C) i))), (0, .ref (G 0)), (1, .ref (G 3)), (2, .ref (G 4)), (3, .ref (G 5)), (4, .ref (G 6)), (5, .int (nI (c 20 6)))]) hx hb dL_isTicked_670 hl (by decide) rfl (fun ls hl => ?_)
                    refine lv_iconst (v := nI 0) hx hb dL_isTicked_672 (by decide) ?_
                    refine lv_istore (lv' := [(11, .int (nI 0)), (6, .int (nI 1)), (10, .int (nI (itsV C (C 20 1)))), (9, .int (nI (bN (0 < c_cnt C)))), (7, .int (nI (ct (fun w => C 9 w = 1) i))), (8, .int (nI (sm (c_part C) i))), (0, .ref (G 0)), (1, .ref (G 3)), (2, .ref (G 4)), (3, .ref (G 5)), (4, .ref (G 6)), (5, .int (nI (c 20 6)))]) hx hb dL_isTicked_673 hl (by decide) rfl (fun ls hl => ?_)
                    have L675 : ∀ (d j : Nat), C 20 1 - j < d → j ≤ C 20 1 → ∀ (H : Heap) (locs : List Loc) (wl : va_W) (ls : Array Slot), Rc G C wl → Rr G r2 wl → Ro G o wl → va_P D vwCl wl H → va_D (fun q => h0 ≤ q) wl → va_S (fun q => h0 ≤ q) s.heap H locs → lv_has ls 17 [(11, .int (nI j)), (6, .int (nI 1)), (0, .ref (G 0)), (1, .ref (G 3)), (2, .ref (G 4)), (3, .ref (G 5)), (4, .ref (G 6)), (7, .int (nI (ct (fun w => C 9 w = 1) i)))] → W p l e (headSpec wsL_isTicked ({ frames := 7, cells := 0, slots := 0, locals := 154 } : Room)).room s m ([.ref (G 0), .ref (G 3), .ref (G 4), .ref (G 5), .ref (G 6)] : List Value).toArray below meth cd H locs 0 0 Q (F0 m 675 ls []) := by
                      intro d675
                      induction d675 with
                      | zero => intro j hd; exact absurd hd (Nat.not_lt_zero _)
                      | succ d675 ih675 =>
                        intro j hd hi  H locs wl ls hRc hRr hRo hP hD hS hl
                        refine lv_iload hx hb dL_isTicked_675 (lv_at hl 0 rfl) ?_
                        refine lv_aload_n hx hb dL_isTicked_677 rfl (lv_at hl 2 rfl) ?_
                        refine y_calli (va_runV (As := []) (rest := [.int (nI j)]) ⟨hx, hb, hml, hown, hts⟩ (k_X2_units l D G h0 C r2 o ) (cwV 0 hts gL_isTicked_X2_units rfl rfl rfl (by decide +kernel) ⟨Nat.le_of_ble_eq_true rfl, Nat.le_of_ble_eq_true rfl⟩) ⟨fun a U g mk q => ⟨q.1, Pr_cg q.2⟩, va_recv (ci := 3) (q0 := 0) hK hP rfl (Q_o hRc), fun U hU hW => ⟨rfl, Pr_mk hE hRc hRr hRo hP hD hS hU hW⟩⟩ rfl rfl hl.1 rfl (lv_room (Nat.le_of_ble_eq_true rfl)) dL_isTicked_678 ⟨Nat.le_of_ble_eq_true rfl, Nat.le_of_ble_eq_true rfl⟩) hS (fun v9 _ H locs wl hv9 hRc hRr hRo hP hD hS => ?_)
                        refine n_top (y := .int (nI (C 20 1))) (congrArg Value.int hv9) ?_
                        clear hv9 v9
                        refine n_icmp_ge (tgt := 739) hx hb dL_isTicked_681 (by decide) (by omega) (hB2 _ _ (by decide)) (fun c_681 => ?_) (fun c_681 => ?_)
                        · refine lv_iload hx hb dL_isTicked_739 (lv_at hl 1 rfl) ?_
                          rw [hQ]
                          have hrel : (fun (v9 : Int32) (u9 : Nat → Nat → Nat) => v9 = nI 1 ∧ (∀ a j, a ≠ 3 → a ≠ 15 → a ≠ 16 → u9 a j = r a j) ∧ (∀ u, u < c 20 1 → u9 16 u = c_tick1 c 11 u ∧ (c_tick1 c 9 u = 1 → u9 15 u = c_tick1 c 10 u)) ∧ (∀ u, c 20 1 ≤ u → u9 16 u = r 16 u ∧ u9 15 u = r 15 u) ∧ BR u9) (nI 1) r2 := by exact ⟨rfl, fun a j h3 h15 h16 => (hr2 a j h15 h16).trans (hr1 a j h3), fun u hu => by rw [← hC]; exact hlo u (by omega), fun u hu => hhi u (by omega), hBr2⟩
                          exact W.zret (v := nI 1) (ty := .boolean) hx hb hr (nb_le (by first | exact bN_le _ | decide | omega | assumption)) (fun t ht hW => ⟨⟨_, r2, rfl, hrel, Wr_mk (show Rc G (c_tick1 c) wl from by rw [show (c_tick1 c) = C from by exact hC.symm]; exact hRc) hRr hRo hP hD ht⟩, hS.F ht⟩) hS.2.2 dL_isTicked_741
                        · refine lv_iload hx hb dL_isTicked_684 (lv_at hl 1 rfl) ?_
                          refine n_if_eq (tgt := 739) hx hb dL_isTicked_686 (by decide) (by decide) (fun c_686 => absurd c_686 (by decide)) (fun c_686 => ?_)
                          refine lv_iload hx hb dL_isTicked_689 (lv_at hl 7 rfl) ?_
                          refine lv_aload hx hb dL_isTicked_691 (lv_at hl 6 rfl) ?_
                          refine lv_iconst (v := nI 0) hx hb dL_isTicked_693 (by decide) ?_
                          refine x_iald hx hb hK hP 6 (Q_a4 hRr) (by first | omega | decide | assumption) (by decide) dL_isTicked_694 (v := nI (r2 4 0)) rfl ?_
                          refine n_icmp_ge (tgt := 739) hx hb dL_isTicked_695 (by decide) (Nat.lt_of_le_of_lt (ct_le _) (by omega)) (hBr2 _ _ (by decide)) (fun c_695 => ?_) (fun c_695 => ?_)
                          · refine lv_iload hx hb dL_isTicked_739 (lv_at hl 1 rfl) ?_
                            rw [hQ]
                            have hrel : (fun (v9 : Int32) (u9 : Nat → Nat → Nat) => v9 = nI 1 ∧ (∀ a j, a ≠ 3 → a ≠ 15 → a ≠ 16 → u9 a j = r a j) ∧ (∀ u, u < c 20 1 → u9 16 u = c_tick1 c 11 u ∧ (c_tick1 c 9 u = 1 → u9 15 u = c_tick1 c 10 u)) ∧ (∀ u, c 20 1 ≤ u → u9 16 u = r 16 u ∧ u9 15 u = r 15 u) ∧ BR u9) (nI 1) r2 := by exact ⟨rfl, fun a j h3 h15 h16 => (hr2 a j h15 h16).trans (hr1 a j h3), fun u hu => by rw [← hC]; exact hlo u (by omega), fun u hu => hhi u (by omega), hBr2⟩
                            exact W.zret (v := nI 1) (ty := .boolean) hx hb hr (nb_le (by first | exact bN_le _ | decide | omega | assumption)) (fun t ht hW => ⟨⟨_, r2, rfl, hrel, Wr_mk (show Rc G (c_tick1 c) wl from by rw [show (c_tick1 c) = C from by exact hC.symm]; exact hRc) hRr hRo hP hD ht⟩, hS.F ht⟩) hS.2.2 dL_isTicked_741
                          · have J698 : (∀ (H : Heap) (locs : List Loc) (wl : va_W), Rc G C wl → Rr G r2 wl → Ro G o wl → va_P D vwCl wl H → va_D (fun q => h0 ≤ q) wl → va_S (fun q => h0 ≤ q) s.heap H locs → W p l e (headSpec wsL_isTicked ({ frames := 7, cells := 0, slots := 0, locals := 154 } : Room)).room s m ([.ref (G 0), .ref (G 3), .ref (G 4), .ref (G 5), .ref (G 6)] : List Value).toArray below meth cd H locs 0 0 Q (F0 m 731 ls [.int (nI 1)])) → W p l e (headSpec wsL_isTicked ({ frames := 7, cells := 0, slots := 0, locals := 154 } : Room)).room s m ([.ref (G 0), .ref (G 3), .ref (G 4), .ref (G 5), .ref (G 6)] : List Value).toArray below meth cd H locs 0 0 Q (F0 m 698 ls []) := by
                              intro hk698
                              refine lv_aload_n hx hb dL_isTicked_698 rfl (lv_at hl 2 rfl) ?_
                              refine lv_iload hx hb dL_isTicked_699 (lv_at hl 0 rfl) ?_
                              refine y_calli (va_runV (As := [.int (nI j)]) (rest := []) ⟨hx, hb, hml, hown, hts⟩ (k_X2_state_ok l D G h0 C r2 o hI2 j (by first | omega | assumption)) (cwV 1 hts gL_isTicked_X2_state rfl rfl rfl (by decide +kernel) ⟨Nat.le_of_ble_eq_true rfl, Nat.le_of_ble_eq_true rfl⟩) ⟨fun a U g mk q => ⟨q.1, Pr_cg q.2⟩, va_recv (ci := 3) (q0 := 0) hK hP rfl (Q_o hRc), fun U hU hW => ⟨rfl, Pr_mk hE hRc hRr hRo hP hD hS hU hW⟩⟩ rfl rfl hl.1 rfl (lv_room (Nat.le_of_ble_eq_true rfl)) dL_isTicked_701 ⟨Nat.le_of_ble_eq_true rfl, Nat.le_of_ble_eq_true rfl⟩) hS (fun v9 _ H locs wl hv9 hRc hRr hRo hP hD hS => ?_)
                              refine n_top (y := .int (nI (C 9 j))) (congrArg Value.int hv9) ?_
                              clear hv9 v9
                              refine n_if_ne (tgt := 726) hx hb dL_isTicked_704 (by decide) (hB2 _ _ (by decide)) (fun c_704 => ?_) (fun c_704 => ?_)
                              · refine lv_iconst (v := nI 1) hx hb dL_isTicked_726 (by decide) ?_
                                refine lv_goto (tgt := 731) hx hb dL_isTicked_727 (by decide) ?_
                                exact hk698 _ _ _ hRc hRr hRo hP hD hS
                              · refine lv_aload_n hx hb dL_isTicked_707 rfl (lv_at hl 2 rfl) ?_
                                refine lv_iload hx hb dL_isTicked_708 (lv_at hl 0 rfl) ?_
                                refine y_calli (va_runV (As := [.int (nI j)]) (rest := []) ⟨hx, hb, hml, hown, hts⟩ (k_X2_waitsFor_ok l D G h0 C r2 o hI2 j (by first | omega | assumption)) (cwV 1 hts gL_isTicked_X2_waitsFor rfl rfl rfl (by decide +kernel) ⟨Nat.le_of_ble_eq_true rfl, Nat.le_of_ble_eq_true rfl⟩) ⟨fun a U g mk q => ⟨q.1, Pr_cg q.2⟩, va_recv (ci := 3) (q0 := 0) hK hP rfl (Q_o hRc), fun U hU hW => ⟨rfl, Pr_mk hE hRc hRr hRo hP hD hS hU hW⟩⟩ rfl rfl hl.1 rfl (lv_room (Nat.le_of_ble_eq_true rfl)) dL_isTicked_710 ⟨Nat.le_of_ble_eq_true rfl, Nat.le_of_ble_eq_true rfl⟩) hS (fun v9 _ H locs wl hv9 hRc hRr hRo hP hD hS => ?_)
                                refine n_top (y := .int (siI (if C 9 j = 0 then fP (awC C j) (C 20 1) else 0))) (congrArg Value.int hv9) ?_
                                clear hv9 v9
                                refine lv_if_ge (tgt := 726) hx hb dL_isTicked_713 (by decide) (fun c_713 => ?_) (fun c_713 => ?_)
                                · refine lv_iconst (v := nI 1) hx hb dL_isTicked_726 (by decide) ?_
                                  refine lv_goto (tgt := 731) hx hb dL_isTicked_727 (by decide) ?_
                                  exact hk698 _ _ _ hRc hRr hRo hP hD hS
                                · refine lv_aload_n hx hb dL_isTicked_716 rfl (lv_at hl 2 rfl) ?_
                                  refine lv_aload_n hx hb dL_isTicked_717 rfl (lv_at hl 3 rfl) ?_
                                  refine lv_iload hx hb dL_isTicked_718 (lv_at hl 0 rfl) ?_
                                  refine y_calli (va_runS (As := [.ref (G 0), .ref (G 3), .int (nI j)]) (rest := []) ⟨hx, hb, hml, hown, hts⟩ (k_L_hasLost l D G h0 C r2 o hI2 hn8C (fun v hv => (hr2 12 v (by decide) (by decide)).trans ((hr1 12 v (by decide)).trans (hX12 v hv))) j (by omega) ((hr2 14 j (by decide) (by decide)).trans ((hr1 14 j (by decide)).trans (hX14 j (by omega)))) hBr2) (va_cwS 3 hts gL_isTicked_L_hasLost rfl rfl rfl (by decide +kernel) ⟨Nat.le_of_ble_eq_true rfl, Nat.le_of_ble_eq_true rfl⟩) ⟨fun a U g mk q => ⟨q.1, Pr_cg q.2⟩, fun U hU hW => ⟨rfl, Pr_mk hE hRc hRr hRo hP hD hS hU hW⟩⟩ rfl rfl hl.1 rfl (lv_room (Nat.le_of_ble_eq_true rfl)) dL_isTicked_720 ⟨Nat.le_of_ble_eq_true rfl, Nat.le_of_ble_eq_true rfl⟩) hS (fun v9 _ H locs wl hv9 hRc hRr hRo hP hD hS => ?_)
                                  refine n_top (y := .int (nI (bN (exQ (fun v => (C 7 j).testBit v = true ∧ lostP (C 9) (C 6) v) (C 20 1))))) (congrArg Value.int hv9) ?_
                                  clear hv9 v9
                                  refine n_ifb_eq (tgt := 730) hx hb dL_isTicked_723 (by decide) (fun c_723 => ?_) (fun c_723 => ?_)
                                  · exfalso; exact c_723 (opn hI hC (by omega) (by omega) (by omega) c_713)
                                  · refine lv_iconst (v := nI 1) hx hb dL_isTicked_726 (by decide) ?_
                                    refine lv_goto (tgt := 731) hx hb dL_isTicked_727 (by decide) ?_
                                    exact hk698 _ _ _ hRc hRr hRo hP hD hS
                            refine J698 (fun H locs wl hRc hRr hRo hP hD hS => ?_)
                            refine lv_istore (lv' := [(6, .int (nI 1)), (11, .int (nI j)), (0, .ref (G 0)), (1, .ref (G 3)), (2, .ref (G 4)), (3, .ref (G 5)), (4, .ref (G 6)), (7, .int (nI (ct (fun w => C 9 w = 1) i)))]) hx hb dL_isTicked_731 hl (by decide) rfl (fun ls hl => ?_)
                            refine lv_iinc (v := nI (j + 1)) (lv' := [(11, .int (nI (j + 1))), (6, .int (nI 1)), (0, .ref (G 0)), (1, .ref (G 3)), (2, .ref (G 4)), (3, .ref (G 5)), (4, .ref (G 6)), (7, .int (nI (ct (fun w => C 9 w = 1) i)))]) hx hb dL_isTicked_733 hl (k := 1) rfl (nI_add j 1) (by decide) rfl (fun ls hl => ?_)
                            refine lv_goto (tgt := 675) hx hb dL_isTicked_736 (by decide) ?_
                            exact ih675 (j + 1) (by omega) (by omega)   _ _ _ _ hRc hRr hRo hP hD hS (lv_sub hl [0, 1, 2, 3, 4, 5, 6, 7] rfl)
                    exact L675 _ 0 (Nat.lt_succ_self _) (by omega)   _ _ _ _ hRc hRr hRo hP hD hS (lv_sub hl [0, 1, 6, 7, 8, 9, 10, 4] rfl)
            · have hiN : i < c 20 1 := by omega
              obtain ⟨ht, hls0⟩ := tick_TS (c := c) (u := i) hiN
              rw [← hC] at ht hls0
              have hls : ∀ _ : Unit, c 9 i = 0 → C 9 i = 3 → ∃ v, v < c 20 1 ∧ LSP C i v := fun _ => hls0
              clear hls0
              obtain ⟨e3a, e3b, e3c⟩ := hr3n i hiN
              rw [← hr2 3 _ (by decide) (by decide)] at e3a e3b e3c
              obtain ⟨e10, e11, e16, e17, e15a⟩ := hG i hiN
              rw [← hr1 10 i (by decide), ← hr2 10 i (by decide) (by decide)] at e10
              rw [← hr1 11 i (by decide), ← hr2 11 i (by decide) (by decide)] at e11
              rw [← (hhi i (Nat.le_refl _)).1] at e16
              rw [← (hhi i (Nat.le_refl _)).2] at e15a
              rw [← hr1 17 i (by decide), ← hr2 17 i (by decide) (by decide), ← hC12 i] at e17
              have e15 : ∀ _ : Unit, c 9 i = 1 → r2 15 i = c 10 i := fun _ => e15a
              clear e15a
              obtain ⟨u1, -, -, u4, u5, -, u7, u8, -, u10, -⟩ := IC_U hI i
              obtain ⟨-, -, -, -, y5, -, y7, y8, -, -, y11⟩ := IC_U hI2 i
              obtain ⟨t5, ht5⟩ := Sel_ex (C 9 i = 1) (C 10 i) 0
              obtain ⟨tf, htf⟩ := Sel_ex (FAu c i) 1 0
              obtain ⟨ta, hta⟩ := Sel_ex (AGu c i) 1 0
              have hta2 := Sel_lt hta (m := 2) (by decide) (by decide)
              have htf2 := Sel_lt htf (m := 2) (by decide) (by decide)
              refine lv_iload hx hb dL_isTicked_98 (lv_at hl 1 rfl) ?_
              refine n_if_eq (tgt := 572) hx hb dL_isTicked_100 (by decide) (by decide) (fun c_100 => absurd c_100 (by decide)) (fun c_100 => ?_)
              refine lv_bipush (v := nI 8) hx hb dL_isTicked_103 (by decide) ?_
              refine lv_iload hx hb dL_isTicked_105 (lv_at hl 0 rfl) ?_
              refine n_imul hx hb dL_isTicked_107 ?_
              refine lv_istore (lv' := [(10, .int (nI (8 * i))), (9, .int (nI i)), (6, .int (nI 1)), (7, .int (nI (ct (fun w => C 9 w = 1) i))), (8, .int (nI (sm (c_part C) i))), (0, .ref (G 0)), (1, .ref (G 3)), (2, .ref (G 4)), (3, .ref (G 5)), (4, .ref (G 6)), (5, .int (nI (c 20 6)))]) hx hb dL_isTicked_108 hl (by decide) rfl (fun ls hl => ?_)
              refine lv_aload_n hx hb dL_isTicked_110 rfl (lv_at hl 5 rfl) ?_
              refine lv_iload hx hb dL_isTicked_111 (lv_at hl 1 rfl) ?_
              refine y_calli (va_runV (As := [.int (nI i)]) (rest := []) ⟨hx, hb, hml, hown, hts⟩ (k_X2_state_ok l D G h0 C r2 o hI2 i (by first | omega | assumption)) (cwV 1 hts gL_isTicked_X2_state rfl rfl rfl (by decide +kernel) ⟨Nat.le_of_ble_eq_true rfl, Nat.le_of_ble_eq_true rfl⟩) ⟨fun a U g mk q => ⟨q.1, Pr_cg q.2⟩, va_recv (ci := 3) (q0 := 0) hK hP rfl (Q_o hRc), fun U hU hW => ⟨rfl, Pr_mk hE hRc hRr hRo hP hD hS hU hW⟩⟩ rfl rfl hl.1 rfl (lv_room (Nat.le_of_ble_eq_true rfl)) dL_isTicked_113 ⟨Nat.le_of_ble_eq_true rfl, Nat.le_of_ble_eq_true rfl⟩) hS (fun v9 _ H locs wl hv9 hRc hRr hRo hP hD hS => ?_)
              refine n_top (y := .int (nI (C 9 i))) (congrArg Value.int hv9) ?_
              clear hv9 v9
              refine lv_istore (lv' := [(11, .int (nI (C 9 i))), (10, .int (nI (8 * i))), (9, .int (nI i)), (6, .int (nI 1)), (7, .int (nI (ct (fun w => C 9 w = 1) i))), (8, .int (nI (sm (c_part C) i))), (0, .ref (G 0)), (1, .ref (G 3)), (2, .ref (G 4)), (3, .ref (G 5)), (4, .ref (G 6)), (5, .int (nI (c 20 6)))]) hx hb dL_isTicked_116 hl (by decide) rfl (fun ls hl => ?_)
              have J118 : (∀ (H : Heap) (locs : List Loc) (wl : va_W), Rc G C wl → Rr G r2 wl → Ro G o wl → va_P D vwCl wl H → va_D (fun q => h0 ≤ q) wl → va_S (fun q => h0 ≤ q) s.heap H locs → W p l e (headSpec wsL_isTicked ({ frames := 7, cells := 0, slots := 0, locals := 154 } : Room)).room s m ([.ref (G 0), .ref (G 3), .ref (G 4), .ref (G 5), .ref (G 6)] : List Value).toArray below meth cd H locs 0 0 Q (F0 m 131 ls [.int (nI (bN (c 9 i = 1)))])) → W p l e (headSpec wsL_isTicked ({ frames := 7, cells := 0, slots := 0, locals := 154 } : Room)).room s m ([.ref (G 0), .ref (G 3), .ref (G 4), .ref (G 5), .ref (G 6)] : List Value).toArray below meth cd H locs 0 0 Q (F0 m 118 ls []) := by
                intro hk118
                refine lv_aload_n hx hb dL_isTicked_118 rfl (lv_at hl 9 rfl) ?_
                refine lv_iload hx hb dL_isTicked_119 (lv_at hl 2 rfl) ?_
                refine x_iald hx hb hK hP 5 (Q_a3 hRr) (by first | omega | decide | assumption) (by decide) dL_isTicked_121 (v := nI (r2 3 i)) rfl ?_
                refine lv_iconst (v := nI 1) hx hb dL_isTicked_122 (by decide) ?_
                refine n_icmp_ne (tgt := 130) hx hb dL_isTicked_123 (by decide) (hBr2 _ _ (by decide)) (by decide) (fun c_123 => ?_) (fun c_123 => ?_)
                · refine lv_iconst (v := nI 0) hx hb dL_isTicked_130 (by decide) ?_
                  refine n_top (y := .int (nI (bN (c 9 i = 1)))) (congrArg Value.int (show nI 0 = nI (bN (c 9 i = 1)) from by exact congrArg nI (bN_f (by omega)).symm)) ?_
                  exact hk118 _ _ _ hRc hRr hRo hP hD hS
                · refine lv_iconst (v := nI 1) hx hb dL_isTicked_126 (by decide) ?_
                  refine lv_goto (tgt := 131) hx hb dL_isTicked_127 (by decide) ?_
                  refine n_top (y := .int (nI (bN (c 9 i = 1)))) (congrArg Value.int (show nI 1 = nI (bN (c 9 i = 1)) from by exact congrArg nI (bN_t (by omega)).symm)) ?_
                  exact hk118 _ _ _ hRc hRr hRo hP hD hS
              refine J118 (fun H locs wl hRc hRr hRo hP hD hS => ?_)
              refine lv_istore (lv' := [(12, .int (nI (bN (c 9 i = 1)))), (11, .int (nI (C 9 i))), (10, .int (nI (8 * i))), (9, .int (nI i)), (6, .int (nI 1)), (7, .int (nI (ct (fun w => C 9 w = 1) i))), (8, .int (nI (sm (c_part C) i))), (0, .ref (G 0)), (1, .ref (G 3)), (2, .ref (G 4)), (3, .ref (G 5)), (4, .ref (G 6)), (5, .int (nI (c 20 6)))]) hx hb dL_isTicked_131 hl (by decide) rfl (fun ls hl => ?_)
              have J133 : (∀ (H : Heap) (locs : List Loc) (wl : va_W), Rc G C wl → Rr G r2 wl → Ro G o wl → va_P D vwCl wl H → va_D (fun q => h0 ≤ q) wl → va_S (fun q => h0 ≤ q) s.heap H locs → W p l e (headSpec wsL_isTicked ({ frames := 7, cells := 0, slots := 0, locals := 154 } : Room)).room s m ([.ref (G 0), .ref (G 3), .ref (G 4), .ref (G 5), .ref (G 6)] : List Value).toArray below meth cd H locs 0 0 Q (F0 m 158 ls [.int (nI (bN (En c i)))])) → W p l e (headSpec wsL_isTicked ({ frames := 7, cells := 0, slots := 0, locals := 154 } : Room)).room s m ([.ref (G 0), .ref (G 3), .ref (G 4), .ref (G 5), .ref (G 6)] : List Value).toArray below meth cd H locs 0 0 Q (F0 m 133 ls []) := by
                intro hk133
                refine lv_iload hx hb dL_isTicked_133 (lv_at hl 0 rfl) ?_
                refine n_ifb_eq (tgt := 157) hx hb dL_isTicked_135 (by decide) (fun c_135 => ?_) (fun c_135 => ?_)
                · refine lv_iconst (v := nI 0) hx hb dL_isTicked_157 (by decide) ?_
                  refine n_top (y := .int (nI (bN (En c i)))) (congrArg Value.int (show nI 0 = nI (bN (En c i)) from by exact congrArg nI ((bN_f (fun z => c_135 z.1)).symm))) ?_
                  exact hk133 _ _ _ hRc hRr hRo hP hD hS
                · have e15b := e15 () c_135
                  refine lv_aload_n hx hb dL_isTicked_138 rfl (lv_at hl 8 rfl) ?_
                  refine lv_iload hx hb dL_isTicked_139 (lv_at hl 2 rfl) ?_
                  refine lv_iconst (v := nI 5) hx hb dL_isTicked_141 (by decide) ?_
                  refine n_iadd hx hb dL_isTicked_142 ?_
                  refine x_iald hx hb hK hP 3 (Q_g hRr) (by first | omega | decide | assumption) (by decide) dL_isTicked_143 (v := nI (r2 15 i)) (gV_j _ (k := i) (j := 5) (by decide) (by decide)) ?_
                  refine lv_iconst (v := nI 1) hx hb dL_isTicked_144 (by decide) ?_
                  refine n_iadd hx hb dL_isTicked_145 ?_
                  refine lv_aload_n hx hb dL_isTicked_146 rfl (lv_at hl 8 rfl) ?_
                  refine lv_iload hx hb dL_isTicked_147 (lv_at hl 2 rfl) ?_
                  refine x_iald hx hb hK hP 3 (Q_g hRr) (by first | omega | decide | assumption) (by decide) dL_isTicked_149 (v := nI (r2 10 i)) (gV_0 _ i) ?_
                  refine n_icmp_lt (tgt := 157) hx hb dL_isTicked_150 (by decide) (by omega) (hBr2 _ _ (by decide)) (fun c_150 => ?_) (fun c_150 => ?_)
                  · refine lv_iconst (v := nI 0) hx hb dL_isTicked_157 (by decide) ?_
                    refine n_top (y := .int (nI (bN (En c i)))) (congrArg Value.int (show nI 0 = nI (bN (En c i)) from by exact congrArg nI ((bN_f (fun z => absurd z.2 (by omega))).symm))) ?_
                    exact hk133 _ _ _ hRc hRr hRo hP hD hS
                  · refine lv_iconst (v := nI 1) hx hb dL_isTicked_153 (by decide) ?_
                    refine lv_goto (tgt := 158) hx hb dL_isTicked_154 (by decide) ?_
                    refine n_top (y := .int (nI (bN (En c i)))) (congrArg Value.int (show nI 1 = nI (bN (En c i)) from by exact congrArg nI ((bN_t (show En c i from ⟨c_135, by omega⟩)).symm))) ?_
                    exact hk133 _ _ _ hRc hRr hRo hP hD hS
              refine J133 (fun H locs wl hRc hRr hRo hP hD hS => ?_)
              refine lv_istore (lv' := [(13, .int (nI (bN (En c i)))), (12, .int (nI (bN (c 9 i = 1)))), (11, .int (nI (C 9 i))), (10, .int (nI (8 * i))), (9, .int (nI i)), (6, .int (nI 1)), (7, .int (nI (ct (fun w => C 9 w = 1) i))), (8, .int (nI (sm (c_part C) i))), (0, .ref (G 0)), (1, .ref (G 3)), (2, .ref (G 4)), (3, .ref (G 5)), (4, .ref (G 6)), (5, .int (nI (c 20 6)))]) hx hb dL_isTicked_158 hl (by decide) rfl (fun ls hl => ?_)
              have J160 : (∀ (H : Heap) (locs : List Loc) (wl : va_W), Rc G C wl → Rr G r2 wl → Ro G o wl → va_P D vwCl wl H → va_D (fun q => h0 ≤ q) wl → va_S (fun q => h0 ≤ q) s.heap H locs → W p l e (headSpec wsL_isTicked ({ frames := 7, cells := 0, slots := 0, locals := 154 } : Room)).room s m ([.ref (G 0), .ref (G 3), .ref (G 4), .ref (G 5), .ref (G 6)] : List Value).toArray below meth cd H locs 0 0 Q (F0 m 180 ls [.int (nI (bN (FAu c i)))])) → W p l e (headSpec wsL_isTicked ({ frames := 7, cells := 0, slots := 0, locals := 154 } : Room)).room s m ([.ref (G 0), .ref (G 3), .ref (G 4), .ref (G 5), .ref (G 6)] : List Value).toArray below meth cd H locs 0 0 Q (F0 m 160 ls []) := by
                intro hk160
                refine lv_iload hx hb dL_isTicked_160 (lv_at hl 0 rfl) ?_
                refine n_ifb_eq (tgt := 179) hx hb dL_isTicked_162 (by decide) (fun c_162 => ?_) (fun c_162 => ?_)
                · refine lv_iconst (v := nI 0) hx hb dL_isTicked_179 (by decide) ?_
                  refine n_top (y := .int (nI (bN (FAu c i)))) (congrArg Value.int (show nI 0 = nI (bN (FAu c i)) from by exact congrArg nI ((bN_f (fun z => c_162 z.1)).symm))) ?_
                  exact hk160 _ _ _ hRc hRr hRo hP hD hS
                · refine lv_aload_n hx hb dL_isTicked_165 rfl (lv_at hl 11 rfl) ?_
                  refine lv_bipush (v := nI 8) hx hb dL_isTicked_166 (by decide) ?_
                  refine lv_iload hx hb dL_isTicked_168 (lv_at hl 4 rfl) ?_
                  refine n_iadd hx hb dL_isTicked_170 ?_
                  refine x_iald hx hb hK hP 5 (Q_a3 hRr) (by first | omega | decide | assumption) (by decide) dL_isTicked_171 (v := nI (r2 3 (8 + i))) rfl ?_
                  refine n_if_le (tgt := 179) hx hb dL_isTicked_172 (by decide) (hBr2 _ _ (by decide)) (fun c_172 => ?_) (fun c_172 => ?_)
                  · refine lv_iconst (v := nI 0) hx hb dL_isTicked_179 (by decide) ?_
                    refine n_top (y := .int (nI (bN (FAu c i)))) (congrArg Value.int (show nI 0 = nI (bN (FAu c i)) from by exact congrArg nI ((bN_f (fun z => absurd z.2 (by omega))).symm))) ?_
                    exact hk160 _ _ _ hRc hRr hRo hP hD hS
                  · refine lv_iconst (v := nI 1) hx hb dL_isTicked_175 (by decide) ?_
                    refine lv_goto (tgt := 180) hx hb dL_isTicked_176 (by decide) ?_
                    refine n_top (y := .int (nI (bN (FAu c i)))) (congrArg Value.int (show nI 1 = nI (bN (FAu c i)) from by exact congrArg nI ((bN_t (show FAu c i from ⟨c_162, by omega⟩)).symm))) ?_
                    exact hk160 _ _ _ hRc hRr hRo hP hD hS
              refine J160 (fun H locs wl hRc hRr hRo hP hD hS => ?_)
              refine lv_istore (lv' := [(14, .int (nI (bN (FAu c i)))), (13, .int (nI (bN (En c i)))), (12, .int (nI (bN (c 9 i = 1)))), (11, .int (nI (C 9 i))), (10, .int (nI (8 * i))), (9, .int (nI i)), (6, .int (nI 1)), (7, .int (nI (ct (fun w => C 9 w = 1) i))), (8, .int (nI (sm (c_part C) i))), (0, .ref (G 0)), (1, .ref (G 3)), (2, .ref (G 4)), (3, .ref (G 5)), (4, .ref (G 6)), (5, .int (nI (c 20 6)))]) hx hb dL_isTicked_180 hl (by decide) rfl (fun ls hl => ?_)
              have J182 : (∀ (H : Heap) (locs : List Loc) (wl : va_W), Rc G C wl → Rr G r2 wl → Ro G o wl → va_P D vwCl wl H → va_D (fun q => h0 ≤ q) wl → va_S (fun q => h0 ≤ q) s.heap H locs → W p l e (headSpec wsL_isTicked ({ frames := 7, cells := 0, slots := 0, locals := 154 } : Room)).room s m ([.ref (G 0), .ref (G 3), .ref (G 4), .ref (G 5), .ref (G 6)] : List Value).toArray below meth cd H locs 0 0 Q (F0 m 208 ls [.int (nI (bN (AGu c i)))])) → W p l e (headSpec wsL_isTicked ({ frames := 7, cells := 0, slots := 0, locals := 154 } : Room)).room s m ([.ref (G 0), .ref (G 3), .ref (G 4), .ref (G 5), .ref (G 6)] : List Value).toArray below meth cd H locs 0 0 Q (F0 m 182 ls []) := by
                intro hk182
                refine lv_iload hx hb dL_isTicked_182 (lv_at hl 0 rfl) ?_
                refine n_ifb_eq (tgt := 207) hx hb dL_isTicked_184 (by decide) (fun c_184 => ?_) (fun c_184 => ?_)
                · refine lv_iconst (v := nI 0) hx hb dL_isTicked_207 (by decide) ?_
                  refine n_top (y := .int (nI (bN (AGu c i)))) (congrArg Value.int (show nI 0 = nI (bN (AGu c i)) from by exact congrArg nI ((bN_f (fun z => c_184 z.1)).symm))) ?_
                  exact hk182 _ _ _ hRc hRr hRo hP hD hS
                · refine lv_aload_n hx hb dL_isTicked_187 rfl (lv_at hl 10 rfl) ?_
                  refine lv_iload hx hb dL_isTicked_188 (lv_at hl 4 rfl) ?_
                  refine lv_bipush (v := nI 6) hx hb dL_isTicked_190 (by decide) ?_
                  refine n_iadd hx hb dL_isTicked_192 ?_
                  refine x_iald hx hb hK hP 3 (Q_g hRr) (by first | omega | decide | assumption) (by decide) dL_isTicked_193 (v := nI (r2 16 i)) (gV_j _ (k := i) (j := 6) (by decide) (by decide)) ?_
                  refine lv_aload_n hx hb dL_isTicked_194 rfl (lv_at hl 10 rfl) ?_
                  refine lv_iload hx hb dL_isTicked_195 (lv_at hl 4 rfl) ?_
                  refine lv_iconst (v := nI 1) hx hb dL_isTicked_197 (by decide) ?_
                  refine n_iadd hx hb dL_isTicked_198 ?_
                  refine x_iald hx hb hK hP 3 (Q_g hRr) (by first | omega | decide | assumption) (by decide) dL_isTicked_199 (v := nI (r2 11 i)) (gV_j _ (k := i) (j := 1) (by decide) (by decide)) ?_
                  refine n_icmp_ge (tgt := 207) hx hb dL_isTicked_200 (by decide) (hBr2 _ _ (by decide)) (hBr2 _ _ (by decide)) (fun c_200 => ?_) (fun c_200 => ?_)
                  · refine lv_iconst (v := nI 0) hx hb dL_isTicked_207 (by decide) ?_
                    refine n_top (y := .int (nI (bN (AGu c i)))) (congrArg Value.int (show nI 0 = nI (bN (AGu c i)) from by exact congrArg nI ((bN_f (fun z => absurd z.2 (by omega))).symm))) ?_
                    exact hk182 _ _ _ hRc hRr hRo hP hD hS
                  · refine lv_iconst (v := nI 1) hx hb dL_isTicked_203 (by decide) ?_
                    refine lv_goto (tgt := 208) hx hb dL_isTicked_204 (by decide) ?_
                    refine n_top (y := .int (nI (bN (AGu c i)))) (congrArg Value.int (show nI 1 = nI (bN (AGu c i)) from by exact congrArg nI ((bN_t (show AGu c i from ⟨c_184, by omega⟩)).symm))) ?_
                    exact hk182 _ _ _ hRc hRr hRo hP hD hS
              refine J182 (fun H locs wl hRc hRr hRo hP hD hS => ?_)
              refine lv_istore (lv' := [(15, .int (nI (bN (AGu c i)))), (14, .int (nI (bN (FAu c i)))), (13, .int (nI (bN (En c i)))), (12, .int (nI (bN (c 9 i = 1)))), (11, .int (nI (C 9 i))), (10, .int (nI (8 * i))), (9, .int (nI i)), (6, .int (nI 1)), (7, .int (nI (ct (fun w => C 9 w = 1) i))), (8, .int (nI (sm (c_part C) i))), (0, .ref (G 0)), (1, .ref (G 3)), (2, .ref (G 4)), (3, .ref (G 5)), (4, .ref (G 6)), (5, .int (nI (c 20 6)))]) hx hb dL_isTicked_208 hl (by decide) rfl (fun ls hl => ?_)
              refine lv_aload_n hx hb dL_isTicked_210 rfl (lv_at hl 11 rfl) ?_
              refine lv_iload hx hb dL_isTicked_211 (lv_at hl 5 rfl) ?_
              refine lv_iconst (v := nI 5) hx hb dL_isTicked_213 (by decide) ?_
              refine n_iadd hx hb dL_isTicked_214 ?_
              have J215 : (∀ (H : Heap) (locs : List Loc) (wl : va_W), Rc G C wl → Rr G r2 wl → Ro G o wl → va_P D vwCl wl H → va_D (fun q => h0 ≤ q) wl → va_S (fun q => h0 ≤ q) s.heap H locs → W p l e (headSpec wsL_isTicked ({ frames := 7, cells := 0, slots := 0, locals := 154 } : Room)).room s m ([.ref (G 0), .ref (G 3), .ref (G 4), .ref (G 5), .ref (G 6)] : List Value).toArray below meth cd H locs 0 0 Q (F0 m 247 ls [.int (nI t5), .int (nI ((8 * i) + 5)), .ref (G 3)])) → W p l e (headSpec wsL_isTicked ({ frames := 7, cells := 0, slots := 0, locals := 154 } : Room)).room s m ([.ref (G 0), .ref (G 3), .ref (G 4), .ref (G 5), .ref (G 6)] : List Value).toArray below meth cd H locs 0 0 Q (F0 m 215 ls [.int (nI ((8 * i) + 5)), .ref (G 3)]) := by
                intro hk215
                refine lv_iload hx hb dL_isTicked_215 (lv_at hl 4 rfl) ?_
                refine lv_iconst (v := nI 1) hx hb dL_isTicked_217 (by decide) ?_
                refine n_icmp_eq (tgt := 225) hx hb dL_isTicked_218 (by decide) (hB2 _ _ (by decide)) (by decide) (fun c_218 => ?_) (fun c_218 => ?_)
                · refine lv_iload hx hb dL_isTicked_225 (lv_at hl 3 rfl) ?_
                  refine n_ifb_eq (tgt := 246) hx hb dL_isTicked_227 (by decide) (fun c_227 => ?_) (fun c_227 => ?_)
                  · refine lv_iconst (v := nI 0) hx hb dL_isTicked_246 (by decide) ?_
                    refine n_top (y := .int (nI t5)) (congrArg Value.int (show nI 0 = nI t5 from by exact congrArg nI (((ht5.1 c_218).trans (TS_0 ht c_227 c_218)).symm))) ?_
                    exact hk215 _ _ _ hRc hRr hRo hP hD hS
                  · refine lv_iload hx hb dL_isTicked_230 (lv_at hl 2 rfl) ?_
                    refine n_ifb_ne (tgt := 246) hx hb dL_isTicked_232 (by decide) (fun c_232 => ?_) (fun c_232 => ?_)
                    · refine lv_iconst (v := nI 0) hx hb dL_isTicked_246 (by decide) ?_
                      refine n_top (y := .int (nI t5)) (congrArg Value.int (show nI 0 = nI t5 from by exact congrArg nI (((ht5.1 c_218).trans (TS_e ht c_232 c_218)).symm))) ?_
                      exact hk215 _ _ _ hRc hRr hRo hP hD hS
                    · refine lv_aload_n hx hb dL_isTicked_235 rfl (lv_at hl 11 rfl) ?_
                      refine lv_iload hx hb dL_isTicked_236 (lv_at hl 5 rfl) ?_
                      refine lv_iconst (v := nI 5) hx hb dL_isTicked_238 (by decide) ?_
                      refine n_iadd hx hb dL_isTicked_239 ?_
                      refine x_iald hx hb hK hP 3 (Q_g hRr) (by first | omega | decide | assumption) (by decide) dL_isTicked_240 (v := nI (r2 15 i)) (gV_j _ (k := i) (j := 5) (by decide) (by decide)) ?_
                      refine lv_iconst (v := nI 1) hx hb dL_isTicked_241 (by decide) ?_
                      refine n_iadd hx hb dL_isTicked_242 ?_
                      refine lv_goto (tgt := 247) hx hb dL_isTicked_243 (by decide) ?_
                      refine n_top (y := .int (nI t5)) (congrArg Value.int (show nI ((r2 15 i) + 1) = nI t5 from by exact congrArg nI (by rw [ht5.1 c_218, (TS_g ht c_227 c_232).2, e15 () c_227]))) ?_
                      exact hk215 _ _ _ hRc hRr hRo hP hD hS
                · refine lv_iconst (v := nI 0) hx hb dL_isTicked_221 (by decide) ?_
                  refine lv_goto (tgt := 247) hx hb dL_isTicked_222 (by decide) ?_
                  refine n_top (y := .int (nI t5)) (congrArg Value.int (show nI 0 = nI t5 from by exact congrArg nI ((ht5.2 c_218).symm))) ?_
                  exact hk215 _ _ _ hRc hRr hRo hP hD hS
              refine J215 (fun H locs wl hRc hRr hRo hP hD hS => ?_)
              refine x_iast (Z := fun wl => Rc G C wl ∧ Rr G (up2 r2 15 i t5) wl ∧ Ro G o wl) hx hb hK hP hD hS 3 (Q_g hRr) (by first | omega | decide | assumption) (by decide) dL_isTicked_247 ⟨Rc_fr hRc (by decide) (by decide), P_g (r := r2) (k := i) (j := 5) t5 (by decide) (by decide) (by first | omega | decide | assumption) hRr, ⟨rfl, rfl, rfl⟩⟩ (fun H locs wl hZ hP hD hS => ?_)
              obtain ⟨hRc, hRr, hRo⟩ := hZ
              refine lv_aload_n hx hb dL_isTicked_248 rfl (lv_at hl 11 rfl) ?_
              refine lv_iload hx hb dL_isTicked_249 (lv_at hl 5 rfl) ?_
              refine lv_bipush (v := nI 6) hx hb dL_isTicked_251 (by decide) ?_
              refine n_iadd hx hb dL_isTicked_253 ?_
              refine lv_dup2_11 hx hb dL_isTicked_254 rfl rfl ?_
              refine x_iald hx hb hK hP 3 (Q_g hRr) (by first | omega | decide | assumption) (by decide) dL_isTicked_255 (v := nI (r2 16 i)) ((gV_j _ (k := i) (j := 6) (by decide) (by decide)).trans (congrArg nI (show (up2 r2 15 i t5) 16 i = r2 16 i from by simp [up2]))) ?_
              have J256 : (∀ (H : Heap) (locs : List Loc) (wl : va_W), Rc G C wl → Rr G (up2 r2 15 i t5) wl → Ro G o wl → va_P D vwCl wl H → va_D (fun q => h0 ≤ q) wl → va_S (fun q => h0 ≤ q) s.heap H locs → W p l e (headSpec wsL_isTicked ({ frames := 7, cells := 0, slots := 0, locals := 154 } : Room)).room s m ([.ref (G 0), .ref (G 3), .ref (G 4), .ref (G 5), .ref (G 6)] : List Value).toArray below meth cd H locs 0 0 Q (F0 m 266 ls [.int (nI ta), .int (nI (r2 16 i)), .int (nI ((8 * i) + 6)), .ref (G 3)])) → W p l e (headSpec wsL_isTicked ({ frames := 7, cells := 0, slots := 0, locals := 154 } : Room)).room s m ([.ref (G 0), .ref (G 3), .ref (G 4), .ref (G 5), .ref (G 6)] : List Value).toArray below meth cd H locs 0 0 Q (F0 m 256 ls [.int (nI (r2 16 i)), .int (nI ((8 * i) + 6)), .ref (G 3)]) := by
                intro hk256
                refine lv_iload hx hb dL_isTicked_256 (lv_at hl 0 rfl) ?_
                refine n_ifb_eq (tgt := 265) hx hb dL_isTicked_258 (by decide) (fun c_258 => ?_) (fun c_258 => ?_)
                · refine lv_iconst (v := nI 0) hx hb dL_isTicked_265 (by decide) ?_
                  refine n_top (y := .int (nI ta)) (congrArg Value.int (show nI 0 = nI ta from by exact congrArg nI ((hta.2 c_258).symm))) ?_
                  exact hk256 _ _ _ hRc hRr hRo hP hD hS
                · refine lv_iconst (v := nI 1) hx hb dL_isTicked_261 (by decide) ?_
                  refine lv_goto (tgt := 266) hx hb dL_isTicked_262 (by decide) ?_
                  refine n_top (y := .int (nI ta)) (congrArg Value.int (show nI 1 = nI ta from by exact congrArg nI ((hta.1 c_258).symm))) ?_
                  exact hk256 _ _ _ hRc hRr hRo hP hD hS
              refine J256 (fun H locs wl hRc hRr hRo hP hD hS => ?_)
              refine n_iadd hx hb dL_isTicked_266 ?_
              refine x_iast (Z := fun wl => Rc G C wl ∧ Rr G (up2 (up2 r2 15 i t5) 16 i ((r2 16 i) + ta)) wl ∧ Ro G o wl) hx hb hK hP hD hS 3 (Q_g hRr) (by first | omega | decide | assumption) (by decide) dL_isTicked_267 ⟨Rc_fr hRc (by decide) (by decide), P_g (r := (up2 r2 15 i t5)) (k := i) (j := 6) ((r2 16 i) + ta) (by decide) (by decide) (by first | omega | decide | assumption) hRr, ⟨rfl, rfl, rfl⟩⟩ (fun H locs wl hZ hP hD hS => ?_)
              obtain ⟨hRc, hRr, hRo⟩ := hZ
              have hR3 : ∀ a j, a ≠ 15 → a ≠ 16 → (up2 (up2 r2 15 i t5) 16 i ((r2 16 i) + ta)) a j = r1 a j := fun a j h h2 => by rw [up2_c h2, up2_c h]; exact hr2 a j h h2
              have hBr3 : BR (up2 (up2 r2 15 i t5) 16 i ((r2 16 i) + ta)) := BR_up (BR_up hBr2 (Sel_lt ht5 (by omega) (by decide))) (by omega)
              refine lv_iload hx hb dL_isTicked_268 (lv_at hl 8 rfl) ?_
              have J270 : (∀ (H : Heap) (locs : List Loc) (wl : va_W), Rc G C wl → Rr G (up2 (up2 r2 15 i t5) 16 i ((r2 16 i) + ta)) wl → Ro G o wl → va_P D vwCl wl H → va_D (fun q => h0 ≤ q) wl → va_S (fun q => h0 ≤ q) s.heap H locs → W p l e (headSpec wsL_isTicked ({ frames := 7, cells := 0, slots := 0, locals := 154 } : Room)).room s m ([.ref (G 0), .ref (G 3), .ref (G 4), .ref (G 5), .ref (G 6)] : List Value).toArray below meth cd H locs 0 0 Q (F0 m 281 ls [.int (nI (bN (C 9 i = 1))), .int (nI (ct (fun w => C 9 w = 1) i))])) → W p l e (headSpec wsL_isTicked ({ frames := 7, cells := 0, slots := 0, locals := 154 } : Room)).room s m ([.ref (G 0), .ref (G 3), .ref (G 4), .ref (G 5), .ref (G 6)] : List Value).toArray below meth cd H locs 0 0 Q (F0 m 270 ls [.int (nI (ct (fun w => C 9 w = 1) i))]) := by
                intro hk270
                refine lv_iload hx hb dL_isTicked_270 (lv_at hl 4 rfl) ?_
                refine lv_iconst (v := nI 1) hx hb dL_isTicked_272 (by decide) ?_
                refine n_icmp_ne (tgt := 280) hx hb dL_isTicked_273 (by decide) (hB2 _ _ (by decide)) (by decide) (fun c_273 => ?_) (fun c_273 => ?_)
                · refine lv_iconst (v := nI 0) hx hb dL_isTicked_280 (by decide) ?_
                  refine n_top (y := .int (nI (bN (C 9 i = 1)))) (congrArg Value.int (show nI 0 = nI (bN (C 9 i = 1)) from by exact congrArg nI (bN_f (by exact c_273)).symm)) ?_
                  exact hk270 _ _ _ hRc hRr hRo hP hD hS
                · refine lv_iconst (v := nI 1) hx hb dL_isTicked_276 (by decide) ?_
                  refine lv_goto (tgt := 281) hx hb dL_isTicked_277 (by decide) ?_
                  refine n_top (y := .int (nI (bN (C 9 i = 1)))) (congrArg Value.int (show nI 1 = nI (bN (C 9 i = 1)) from by exact congrArg nI (bN_t (by exact c_273)).symm)) ?_
                  exact hk270 _ _ _ hRc hRr hRo hP hD hS
              refine J270 (fun H locs wl hRc hRr hRo hP hD hS => ?_)
              refine n_iadd hx hb dL_isTicked_281 ?_
              refine lv_istore (lv' := [(7, .int (nI ((ct (fun w => C 9 w = 1) i) + (bN (C 9 i = 1))))), (15, .int (nI (bN (AGu c i)))), (14, .int (nI (bN (FAu c i)))), (13, .int (nI (bN (En c i)))), (12, .int (nI (bN (c 9 i = 1)))), (11, .int (nI (C 9 i))), (10, .int (nI (8 * i))), (9, .int (nI i)), (6, .int (nI 1)), (8, .int (nI (sm (c_part C) i))), (0, .ref (G 0)), (1, .ref (G 3)), (2, .ref (G 4)), (3, .ref (G 5)), (4, .ref (G 6)), (5, .int (nI (c 20 6)))]) hx hb dL_isTicked_282 hl (by decide) rfl (fun ls hl => ?_)
              refine lv_iload hx hb dL_isTicked_284 (lv_at hl 9 rfl) ?_
              have J286 : (∀ (H : Heap) (locs : List Loc) (wl : va_W), Rc G C wl → Rr G (up2 (up2 r2 15 i t5) 16 i ((r2 16 i) + ta)) wl → Ro G o wl → va_P D vwCl wl H → va_D (fun q => h0 ≤ q) wl → va_S (fun q => h0 ≤ q) s.heap H locs → W p l e (headSpec wsL_isTicked ({ frames := 7, cells := 0, slots := 0, locals := 154 } : Room)).room s m ([.ref (G 0), .ref (G 3), .ref (G 4), .ref (G 5), .ref (G 6)] : List Value).toArray below meth cd H locs 0 0 Q (F0 m 350 ls [.int (nI (c_part C i)), .int (nI (sm (c_part C) i))])) → W p l e (headSpec wsL_isTicked ({ frames := 7, cells := 0, slots := 0, locals := 154 } : Room)).room s m ([.ref (G 0), .ref (G 3), .ref (G 4), .ref (G 5), .ref (G 6)] : List Value).toArray below meth cd H locs 0 0 Q (F0 m 286 ls [.int (nI (sm (c_part C) i))]) := by
                intro hk286
                refine lv_iload hx hb dL_isTicked_286 (lv_at hl 5 rfl) ?_
                refine lv_iconst (v := nI 2) hx hb dL_isTicked_288 (by decide) ?_
                refine n_icmp_eq (tgt := 298) hx hb dL_isTicked_289 (by decide) (hB2 _ _ (by decide)) (by decide) (fun c_289 => ?_) (fun c_289 => ?_)
                · refine lv_aload_n hx hb dL_isTicked_298 rfl (lv_at hl 11 rfl) ?_
                  refine lv_iload hx hb dL_isTicked_299 (lv_at hl 6 rfl) ?_
                  refine lv_bipush (v := nI 7) hx hb dL_isTicked_301 (by decide) ?_
                  refine n_iadd hx hb dL_isTicked_303 ?_
                  refine x_iald hx hb hK hP 3 (Q_g hRr) (by first | omega | decide | assumption) (by decide) dL_isTicked_304 (v := nI (r2 17 i)) ((gV_j _ (k := i) (j := 7) (by decide) (by decide)).trans (congrArg nI (show (up2 (up2 r2 15 i t5) 16 i ((r2 16 i) + ta)) 17 i = r2 17 i from by simp [up2]))) ?_
                  refine lv_goto (tgt := 350) hx hb dL_isTicked_305 (by decide) ?_
                  refine n_top (y := .int (nI (c_part C i))) (congrArg Value.int (show nI (r2 17 i) = nI (c_part C i) from by exact congrArg nI (by unfold c_part; rw [if_pos (Or.inl c_289)]; exact e17))) ?_
                  exact hk286 _ _ _ hRc hRr hRo hP hD hS
                · refine lv_iload hx hb dL_isTicked_292 (lv_at hl 5 rfl) ?_
                  refine lv_iconst (v := nI 3) hx hb dL_isTicked_294 (by decide) ?_
                  refine n_icmp_ne (tgt := 308) hx hb dL_isTicked_295 (by decide) (hB2 _ _ (by decide)) (by decide) (fun c_295 => ?_) (fun c_295 => ?_)
                  · refine lv_iload hx hb dL_isTicked_308 (lv_at hl 5 rfl) ?_
                    refine lv_iconst (v := nI 1) hx hb dL_isTicked_310 (by decide) ?_
                    refine n_icmp_ne (tgt := 349) hx hb dL_isTicked_311 (by decide) (hB2 _ _ (by decide)) (by decide) (fun c_311 => ?_) (fun c_311 => ?_)
                    · refine lv_iconst (v := nI 0) hx hb dL_isTicked_349 (by decide) ?_
                      refine n_top (y := .int (nI (c_part C i))) (congrArg Value.int (show nI 0 = nI (c_part C i) from by exact congrArg nI (by unfold c_part; rw [if_neg (by omega), if_neg c_311]))) ?_
                      exact hk286 _ _ _ hRc hRr hRo hP hD hS
                    · refine lv_aload_n hx hb dL_isTicked_314 rfl (lv_at hl 11 rfl) ?_
                      refine lv_iload hx hb dL_isTicked_315 (lv_at hl 6 rfl) ?_
                      refine lv_iconst (v := nI 5) hx hb dL_isTicked_317 (by decide) ?_
                      refine n_iadd hx hb dL_isTicked_318 ?_
                      refine x_iald hx hb hK hP 3 (Q_g hRr) (by first | omega | decide | assumption) (by decide) dL_isTicked_319 (v := nI t5) ((gV_j _ (k := i) (j := 5) (by decide) (by decide)).trans (congrArg nI (show (up2 (up2 r2 15 i t5) 16 i ((r2 16 i) + ta)) 15 i = t5 from by simp [up2]))) ?_
                      refine lv_aload_n hx hb dL_isTicked_320 rfl (lv_at hl 11 rfl) ?_
                      refine lv_iload hx hb dL_isTicked_321 (lv_at hl 6 rfl) ?_
                      refine lv_bipush (v := nI 7) hx hb dL_isTicked_323 (by decide) ?_
                      refine n_iadd hx hb dL_isTicked_325 ?_
                      refine x_iald hx hb hK hP 3 (Q_g hRr) (by first | omega | decide | assumption) (by decide) dL_isTicked_326 (v := nI (r2 17 i)) ((gV_j _ (k := i) (j := 7) (by decide) (by decide)).trans (congrArg nI (show (up2 (up2 r2 15 i t5) 16 i ((r2 16 i) + ta)) 17 i = r2 17 i from by simp [up2]))) ?_
                      refine n_icmp_ge (tgt := 339) hx hb dL_isTicked_327 (by decide) (Sel_lt ht5 (by omega) (by decide)) (hBr2 _ _ (by decide)) (fun c_327 => ?_) (fun c_327 => ?_)
                      · refine lv_aload_n hx hb dL_isTicked_339 rfl (lv_at hl 11 rfl) ?_
                        refine lv_iload hx hb dL_isTicked_340 (lv_at hl 6 rfl) ?_
                        refine lv_bipush (v := nI 7) hx hb dL_isTicked_342 (by decide) ?_
                        refine n_iadd hx hb dL_isTicked_344 ?_
                        refine x_iald hx hb hK hP 3 (Q_g hRr) (by first | omega | decide | assumption) (by decide) dL_isTicked_345 (v := nI (r2 17 i)) ((gV_j _ (k := i) (j := 7) (by decide) (by decide)).trans (congrArg nI (show (up2 (up2 r2 15 i t5) 16 i ((r2 16 i) + ta)) 17 i = r2 17 i from by simp [up2]))) ?_
                        refine lv_goto (tgt := 350) hx hb dL_isTicked_346 (by decide) ?_
                        refine n_top (y := .int (nI (c_part C i))) (congrArg Value.int (show nI (r2 17 i) = nI (c_part C i) from by exact congrArg nI (by unfold c_part; rw [if_neg (by omega), if_pos c_311, ← ht5.1 c_311, ← e17]; exact (Nat.min_eq_right (by omega)).symm))) ?_
                        exact hk286 _ _ _ hRc hRr hRo hP hD hS
                      · refine lv_aload_n hx hb dL_isTicked_330 rfl (lv_at hl 11 rfl) ?_
                        refine lv_iload hx hb dL_isTicked_331 (lv_at hl 6 rfl) ?_
                        refine lv_iconst (v := nI 5) hx hb dL_isTicked_333 (by decide) ?_
                        refine n_iadd hx hb dL_isTicked_334 ?_
                        refine x_iald hx hb hK hP 3 (Q_g hRr) (by first | omega | decide | assumption) (by decide) dL_isTicked_335 (v := nI t5) ((gV_j _ (k := i) (j := 5) (by decide) (by decide)).trans (congrArg nI (show (up2 (up2 r2 15 i t5) 16 i ((r2 16 i) + ta)) 15 i = t5 from by simp [up2]))) ?_
                        refine lv_goto (tgt := 350) hx hb dL_isTicked_336 (by decide) ?_
                        refine n_top (y := .int (nI (c_part C i))) (congrArg Value.int (show nI t5 = nI (c_part C i) from by exact congrArg nI (by unfold c_part; rw [if_neg (by omega), if_pos c_311, ← ht5.1 c_311, ← e17]; exact (Nat.min_eq_left (by omega)).symm))) ?_
                        exact hk286 _ _ _ hRc hRr hRo hP hD hS
                  · refine lv_aload_n hx hb dL_isTicked_298 rfl (lv_at hl 11 rfl) ?_
                    refine lv_iload hx hb dL_isTicked_299 (lv_at hl 6 rfl) ?_
                    refine lv_bipush (v := nI 7) hx hb dL_isTicked_301 (by decide) ?_
                    refine n_iadd hx hb dL_isTicked_303 ?_
                    refine x_iald hx hb hK hP 3 (Q_g hRr) (by first | omega | decide | assumption) (by decide) dL_isTicked_304 (v := nI (r2 17 i)) ((gV_j _ (k := i) (j := 7) (by decide) (by decide)).trans (congrArg nI (show (up2 (up2 r2 15 i t5) 16 i ((r2 16 i) + ta)) 17 i = r2 17 i from by simp [up2]))) ?_
                    refine lv_goto (tgt := 350) hx hb dL_isTicked_305 (by decide) ?_
                    refine n_top (y := .int (nI (c_part C i))) (congrArg Value.int (show nI (r2 17 i) = nI (c_part C i) from by exact congrArg nI (by unfold c_part; rw [if_pos (Or.inr c_295)]; exact e17))) ?_
                    exact hk286 _ _ _ hRc hRr hRo hP hD hS
              refine J286 (fun H locs wl hRc hRr hRo hP hD hS => ?_)
              refine n_iadd hx hb dL_isTicked_350 ?_
              refine lv_istore (lv' := [(8, .int (nI ((sm (c_part C) i) + (c_part C i)))), (7, .int (nI ((ct (fun w => C 9 w = 1) i) + (bN (C 9 i = 1))))), (15, .int (nI (bN (AGu c i)))), (14, .int (nI (bN (FAu c i)))), (13, .int (nI (bN (En c i)))), (12, .int (nI (bN (c 9 i = 1)))), (11, .int (nI (C 9 i))), (10, .int (nI (8 * i))), (9, .int (nI i)), (6, .int (nI 1)), (0, .ref (G 0)), (1, .ref (G 3)), (2, .ref (G 4)), (3, .ref (G 5)), (4, .ref (G 6)), (5, .int (nI (c 20 6)))]) hx hb dL_isTicked_351 hl (by decide) rfl (fun ls hl => ?_)
              refine lv_aload_n hx hb dL_isTicked_353 rfl (lv_at hl 13 rfl) ?_
              refine lv_bipush (v := nI 16) hx hb dL_isTicked_354 (by decide) ?_
              refine lv_iload hx hb dL_isTicked_356 (lv_at hl 8 rfl) ?_
              refine n_iadd hx hb dL_isTicked_358 ?_
              refine x_iald hx hb hK hP 5 (Q_a3 hRr) (by first | omega | decide | assumption) (by decide) dL_isTicked_359 (v := nI (r2 3 (16 + i))) (congrArg nI (show (up2 (up2 r2 15 i t5) 16 i ((r2 16 i) + ta)) 3 (16 + i) = r2 3 (16 + i) from by simp [up2])) ?_
              refine lv_aload_n hx hb dL_isTicked_360 rfl (lv_at hl 11 rfl) ?_
              refine lv_iload hx hb dL_isTicked_361 (lv_at hl 7 rfl) ?_
              refine x_iald hx hb hK hP 3 (Q_g hRr) (by first | omega | decide | assumption) (by decide) dL_isTicked_363 (v := nI (r2 10 i)) ((gV_0 _ i).trans (congrArg nI (show (up2 (up2 r2 15 i t5) 16 i ((r2 16 i) + ta)) 10 i = r2 10 i from by simp [up2]))) ?_
              refine n_iadd hx hb dL_isTicked_364 ?_
              refine lv_iconst (v := nI 2) hx hb dL_isTicked_365 (by decide) ?_
              refine n_idiv hx hb dL_isTicked_366 (by omega) (by first | omega | decide | assumption) (by decide) ?_
              refine lv_istore (lv' := [(16, .int (nI (((r2 3 (16 + i)) + (r2 10 i)) / 2))), (8, .int (nI ((sm (c_part C) i) + (c_part C i)))), (7, .int (nI ((ct (fun w => C 9 w = 1) i) + (bN (C 9 i = 1))))), (15, .int (nI (bN (AGu c i)))), (14, .int (nI (bN (FAu c i)))), (13, .int (nI (bN (En c i)))), (12, .int (nI (bN (c 9 i = 1)))), (11, .int (nI (C 9 i))), (10, .int (nI (8 * i))), (9, .int (nI i)), (6, .int (nI 1)), (0, .ref (G 0)), (1, .ref (G 3)), (2, .ref (G 4)), (3, .ref (G 5)), (4, .ref (G 6)), (5, .int (nI (c 20 6)))]) hx hb dL_isTicked_367 hl (by decide) rfl (fun ls hl => ?_)
              refine lv_aload_n hx hb dL_isTicked_369 rfl (lv_at hl 11 rfl) ?_
              refine lv_iload hx hb dL_isTicked_370 (lv_at hl 9 rfl) ?_
              refine y_calli (va_runV (As := [.int (nI i)]) (rest := []) ⟨hx, hb, hml, hown, hts⟩ (k_X2_faults_ok l D G h0 C (up2 (up2 r2 15 i t5) 16 i ((r2 16 i) + ta)) o hI2 i (by first | omega | assumption)) (cwV 1 hts gL_isTicked_X2_faults rfl rfl rfl (by decide +kernel) ⟨Nat.le_of_ble_eq_true rfl, Nat.le_of_ble_eq_true rfl⟩) ⟨fun a U g mk q => ⟨q.1, Pr_cg q.2⟩, va_recv (ci := 3) (q0 := 0) hK hP rfl (Q_o hRc), fun U hU hW => ⟨rfl, Pr_mk hE hRc hRr hRo hP hD hS hU hW⟩⟩ rfl rfl hl.1 rfl (lv_room (Nat.le_of_ble_eq_true rfl)) dL_isTicked_372 ⟨Nat.le_of_ble_eq_true rfl, Nat.le_of_ble_eq_true rfl⟩) hS (fun v9 _ H locs wl hv9 hRc hRr hRo hP hD hS => ?_)
              refine n_top (y := .int (nI (C 4 i))) (congrArg Value.int hv9) ?_
              clear hv9 v9
              refine lv_aload_n hx hb dL_isTicked_375 rfl (lv_at hl 14 rfl) ?_
              refine lv_bipush (v := nI 8) hx hb dL_isTicked_376 (by decide) ?_
              refine lv_iload hx hb dL_isTicked_378 (lv_at hl 9 rfl) ?_
              refine n_iadd hx hb dL_isTicked_380 ?_
              refine x_iald hx hb hK hP 5 (Q_a3 hRr) (by first | omega | decide | assumption) (by decide) dL_isTicked_381 (v := nI (r2 3 (8 + i))) (congrArg nI (show (up2 (up2 r2 15 i t5) 16 i ((r2 16 i) + ta)) 3 (8 + i) = r2 3 (8 + i) from by simp [up2])) ?_
              have J382 : (∀ (H : Heap) (locs : List Loc) (wl : va_W), Rc G C wl → Rr G (up2 (up2 r2 15 i t5) 16 i ((r2 16 i) + ta)) wl → Ro G o wl → va_P D vwCl wl H → va_D (fun q => h0 ≤ q) wl → va_S (fun q => h0 ≤ q) s.heap H locs → W p l e (headSpec wsL_isTicked ({ frames := 7, cells := 0, slots := 0, locals := 154 } : Room)).room s m ([.ref (G 0), .ref (G 3), .ref (G 4), .ref (G 5), .ref (G 6)] : List Value).toArray below meth cd H locs 0 0 Q (F0 m 392 ls [.int (nI tf), .int (nI (r2 3 (8 + i))), .int (nI (C 4 i))])) → W p l e (headSpec wsL_isTicked ({ frames := 7, cells := 0, slots := 0, locals := 154 } : Room)).room s m ([.ref (G 0), .ref (G 3), .ref (G 4), .ref (G 5), .ref (G 6)] : List Value).toArray below meth cd H locs 0 0 Q (F0 m 382 ls [.int (nI (r2 3 (8 + i))), .int (nI (C 4 i))]) := by
                intro hk382
                refine lv_iload hx hb dL_isTicked_382 (lv_at hl 4 rfl) ?_
                refine n_ifb_eq (tgt := 391) hx hb dL_isTicked_384 (by decide) (fun c_384 => ?_) (fun c_384 => ?_)
                · refine lv_iconst (v := nI 0) hx hb dL_isTicked_391 (by decide) ?_
                  refine n_top (y := .int (nI tf)) (congrArg Value.int (show nI 0 = nI tf from by exact congrArg nI ((htf.2 c_384).symm))) ?_
                  exact hk382 _ _ _ hRc hRr hRo hP hD hS
                · refine lv_iconst (v := nI 1) hx hb dL_isTicked_387 (by decide) ?_
                  refine lv_goto (tgt := 392) hx hb dL_isTicked_388 (by decide) ?_
                  refine n_top (y := .int (nI tf)) (congrArg Value.int (show nI 1 = nI tf from by exact congrArg nI ((htf.1 c_384).symm))) ?_
                  exact hk382 _ _ _ hRc hRr hRo hP hD hS
              refine J382 (fun H locs wl hRc hRr hRo hP hD hS => ?_)
              refine n_isub hx hb dL_isTicked_392 (by have h9 := TS_f ht htf; omega) ?_
              refine n_icmp_ne (tgt := 441) hx hb dL_isTicked_393 (by decide) (hB2 _ _ (by decide)) (by omega) (fun c_393 => ?_) (fun c_393 => ?_)
              · exfalso; exact c_393 (by have h9 := TS_f ht htf; omega)
              · refine lv_aload_n hx hb dL_isTicked_396 rfl (lv_at hl 11 rfl) ?_
                refine lv_iload hx hb dL_isTicked_397 (lv_at hl 9 rfl) ?_
                refine y_calli (va_runV (As := [.int (nI i)]) (rest := []) ⟨hx, hb, hml, hown, hts⟩ (k_X2_learned_ok l D G h0 C (up2 (up2 r2 15 i t5) 16 i ((r2 16 i) + ta)) o hI2 i (by first | omega | assumption)) (cwV 1 hts gL_isTicked_X2_learned rfl rfl rfl (by decide +kernel) ⟨Nat.le_of_ble_eq_true rfl, Nat.le_of_ble_eq_true rfl⟩) ⟨fun a U g mk q => ⟨q.1, Pr_cg q.2⟩, va_recv (ci := 3) (q0 := 0) hK hP rfl (Q_o hRc), fun U hU hW => ⟨rfl, Pr_mk hE hRc hRr hRo hP hD hS hU hW⟩⟩ rfl rfl hl.1 rfl (lv_room (Nat.le_of_ble_eq_true rfl)) dL_isTicked_399 ⟨Nat.le_of_ble_eq_true rfl, Nat.le_of_ble_eq_true rfl⟩) hS (fun v9 _ H locs wl hv9 hRc hRr hRo hP hD hS => ?_)
                refine n_top (y := .int (nI (C 3 i))) (congrArg Value.int hv9) ?_
                clear hv9 v9
                have J402 : (∀ (H : Heap) (locs : List Loc) (wl : va_W), Rc G C wl → Rr G (up2 (up2 r2 15 i t5) 16 i ((r2 16 i) + ta)) wl → Ro G o wl → va_P D vwCl wl H → va_D (fun q => h0 ≤ q) wl → va_S (fun q => h0 ≤ q) s.heap H locs → W p l e (headSpec wsL_isTicked ({ frames := 7, cells := 0, slots := 0, locals := 154 } : Room)).room s m ([.ref (G 0), .ref (G 3), .ref (G 4), .ref (G 5), .ref (G 6)] : List Value).toArray below meth cd H locs 0 0 Q (F0 m 434 ls [.int (nI (C 3 i)), .int (nI (C 3 i))])) → W p l e (headSpec wsL_isTicked ({ frames := 7, cells := 0, slots := 0, locals := 154 } : Room)).room s m ([.ref (G 0), .ref (G 3), .ref (G 4), .ref (G 5), .ref (G 6)] : List Value).toArray below meth cd H locs 0 0 Q (F0 m 402 ls [.int (nI (C 3 i))]) := by
                  intro hk402
                  refine lv_iload hx hb dL_isTicked_402 (lv_at hl 5 rfl) ?_
                  refine n_ifb_eq (tgt := 427) hx hb dL_isTicked_404 (by decide) (fun c_404 => ?_) (fun c_404 => ?_)
                  · refine lv_aload_n hx hb dL_isTicked_427 rfl (lv_at hl 14 rfl) ?_
                    refine lv_bipush (v := nI 16) hx hb dL_isTicked_428 (by decide) ?_
                    refine lv_iload hx hb dL_isTicked_430 (lv_at hl 9 rfl) ?_
                    refine n_iadd hx hb dL_isTicked_432 ?_
                    refine x_iald hx hb hK hP 5 (Q_a3 hRr) (by first | omega | decide | assumption) (by decide) dL_isTicked_433 (v := nI (r2 3 (16 + i))) (congrArg nI (show (up2 (up2 r2 15 i t5) 16 i ((r2 16 i) + ta)) 3 (16 + i) = r2 3 (16 + i) from by simp [up2])) ?_
                    refine n_top (y := .int (nI (C 3 i))) (congrArg Value.int (show nI (r2 3 (16 + i)) = nI (C 3 i) from by exact congrArg nI (e3c.trans (TS_l3 ht (fun z => c_404 z.1)).symm))) ?_
                    exact hk402 _ _ _ hRc hRr hRo hP hD hS
                  · refine lv_iload hx hb dL_isTicked_407 (lv_at hl 4 rfl) ?_
                    refine n_ifb_ne (tgt := 427) hx hb dL_isTicked_409 (by decide) (fun c_409 => ?_) (fun c_409 => ?_)
                    · refine lv_aload_n hx hb dL_isTicked_427 rfl (lv_at hl 14 rfl) ?_
                      refine lv_bipush (v := nI 16) hx hb dL_isTicked_428 (by decide) ?_
                      refine lv_iload hx hb dL_isTicked_430 (lv_at hl 9 rfl) ?_
                      refine n_iadd hx hb dL_isTicked_432 ?_
                      refine x_iald hx hb hK hP 5 (Q_a3 hRr) (by first | omega | decide | assumption) (by decide) dL_isTicked_433 (v := nI (r2 3 (16 + i))) (congrArg nI (show (up2 (up2 r2 15 i t5) 16 i ((r2 16 i) + ta)) 3 (16 + i) = r2 3 (16 + i) from by simp [up2])) ?_
                      refine n_top (y := .int (nI (C 3 i))) (congrArg Value.int (show nI (r2 3 (16 + i)) = nI (C 3 i) from by exact congrArg nI (e3c.trans (TS_l3 ht (fun z => z.2 c_409)).symm))) ?_
                      exact hk402 _ _ _ hRc hRr hRo hP hD hS
                    · refine lv_iload hx hb dL_isTicked_412 (lv_at hl 0 rfl) ?_
                      refine lv_iconst (v := nI 1) hx hb dL_isTicked_414 (by decide) ?_
                      refine n_icmp_ge (tgt := 422) hx hb dL_isTicked_415 (by decide) (by omega) (by decide) (fun c_415 => ?_) (fun c_415 => ?_)
                      · refine lv_iload hx hb dL_isTicked_422 (lv_at hl 0 rfl) ?_
                        refine lv_goto (tgt := 434) hx hb dL_isTicked_424 (by decide) ?_
                        refine n_top (y := .int (nI (C 3 i))) (congrArg Value.int (show nI (((r2 3 (16 + i)) + (r2 10 i)) / 2) = nI (C 3 i) from by exact congrArg nI (by have h9 := TS_l2 ht c_404 c_409 (by omega); omega))) ?_
                        exact hk402 _ _ _ hRc hRr hRo hP hD hS
                      · refine lv_iconst (v := nI 1) hx hb dL_isTicked_418 (by decide) ?_
                        refine lv_goto (tgt := 434) hx hb dL_isTicked_419 (by decide) ?_
                        refine n_top (y := .int (nI (C 3 i))) (congrArg Value.int (show nI 1 = nI (C 3 i) from by exact congrArg nI (by have h9 := TS_l1 ht c_404 c_409 (by omega); omega))) ?_
                        exact hk402 _ _ _ hRc hRr hRo hP hD hS
                refine J402 (fun H locs wl hRc hRr hRo hP hD hS => ?_)
                refine n_icmp_ne (tgt := 441) hx hb dL_isTicked_434 (by decide) (hB2 _ _ (by decide)) (hB2 _ _ (by decide)) (fun c_434 => ?_) (fun c_434 => ?_)
                · exfalso; exact c_434 rfl
                · refine lv_iconst (v := nI 1) hx hb dL_isTicked_437 (by decide) ?_
                  refine lv_goto (tgt := 442) hx hb dL_isTicked_438 (by decide) ?_
                  refine lv_istore (lv' := [(6, .int (nI 1)), (16, .int (nI (((r2 3 (16 + i)) + (r2 10 i)) / 2))), (8, .int (nI ((sm (c_part C) i) + (c_part C i)))), (7, .int (nI ((ct (fun w => C 9 w = 1) i) + (bN (C 9 i = 1))))), (15, .int (nI (bN (AGu c i)))), (14, .int (nI (bN (FAu c i)))), (13, .int (nI (bN (En c i)))), (12, .int (nI (bN (c 9 i = 1)))), (11, .int (nI (C 9 i))), (10, .int (nI (8 * i))), (9, .int (nI i)), (0, .ref (G 0)), (1, .ref (G 3)), (2, .ref (G 4)), (3, .ref (G 5)), (4, .ref (G 6)), (5, .int (nI (c 20 6)))]) hx hb dL_isTicked_442 hl (by decide) rfl (fun ls hl => ?_)
                  refine lv_iload hx hb dL_isTicked_444 (lv_at hl 0 rfl) ?_
                  refine n_if_eq (tgt := 563) hx hb dL_isTicked_446 (by decide) (by decide) (fun c_446 => absurd c_446 (by decide)) (fun c_446 => ?_)
                  have J449 : (∀ (H : Heap) (locs : List Loc) (wl : va_W), Rc G C wl → Rr G (up2 (up2 r2 15 i t5) 16 i ((r2 16 i) + ta)) wl → Ro G o wl → va_P D vwCl wl H → va_D (fun q => h0 ≤ q) wl → va_S (fun q => h0 ≤ q) s.heap H locs → W p l e (headSpec wsL_isTicked ({ frames := 7, cells := 0, slots := 0, locals := 154 } : Room)).room s m ([.ref (G 0), .ref (G 3), .ref (G 4), .ref (G 5), .ref (G 6)] : List Value).toArray below meth cd H locs 0 0 Q (F0 m 508 ls [])) → W p l e (headSpec wsL_isTicked ({ frames := 7, cells := 0, slots := 0, locals := 154 } : Room)).room s m ([.ref (G 0), .ref (G 3), .ref (G 4), .ref (G 5), .ref (G 6)] : List Value).toArray below meth cd H locs 0 0 Q (F0 m 449 ls []) := by
                    intro hk449
                    refine lv_iload hx hb dL_isTicked_449 (lv_at hl 7 rfl) ?_
                    refine n_ifb_eq (tgt := 508) hx hb dL_isTicked_451 (by decide) (fun c_451 => ?_) (fun c_451 => ?_)
                    · exact hk449 _ _ _ hRc hRr hRo hP hD hS
                    · refine lv_iload hx hb dL_isTicked_454 (lv_at hl 6 rfl) ?_
                      refine n_ifb_ne (tgt := 468) hx hb dL_isTicked_456 (by decide) (fun c_456 => ?_) (fun c_456 => ?_)
                      · refine lv_iload hx hb dL_isTicked_468 (lv_at hl 5 rfl) ?_
                        refine n_ifb_ne (tgt := 482) hx hb dL_isTicked_470 (by decide) (fun c_470 => ?_) (fun c_470 => ?_)
                        · refine lv_iload hx hb dL_isTicked_482 (lv_at hl 4 rfl) ?_
                          refine n_ifb_ne (tgt := 496) hx hb dL_isTicked_484 (by decide) (fun c_484 => ?_) (fun c_484 => ?_)
                          · refine lv_iload hx hb dL_isTicked_496 (lv_at hl 8 rfl) ?_
                            refine lv_iconst (v := nI 2) hx hb dL_isTicked_498 (by decide) ?_
                            refine n_icmp_eq (tgt := 563) hx hb dL_isTicked_499 (by decide) (hB2 _ _ (by decide)) (by decide) (fun c_499 => ?_) (fun c_499 => ?_)
                            · exfalso; exact (TS_s4 ht c_484).1 c_499
                            · refine lv_iload hx hb dL_isTicked_502 (lv_at hl 8 rfl) ?_
                              refine lv_iconst (v := nI 4) hx hb dL_isTicked_504 (by decide) ?_
                              refine n_icmp_eq (tgt := 563) hx hb dL_isTicked_505 (by decide) (hB2 _ _ (by decide)) (by decide) (fun c_505 => ?_) (fun c_505 => ?_)
                              · exfalso; exact (TS_s4 ht c_484).2 c_505
                              · exact hk449 _ _ _ hRc hRr hRo hP hD hS
                          · refine lv_iload hx hb dL_isTicked_487 (lv_at hl 8 rfl) ?_
                            refine lv_iconst (v := nI 3) hx hb dL_isTicked_489 (by decide) ?_
                            refine n_icmp_ne (tgt := 563) hx hb dL_isTicked_490 (by decide) (hB2 _ _ (by decide)) (by decide) (fun c_490 => ?_) (fun c_490 => ?_)
                            · exfalso; exact c_490 (TS_s3 ht c_470 c_484)
                            · refine lv_goto (tgt := 508) hx hb dL_isTicked_493 (by decide) ?_
                              exact hk449 _ _ _ hRc hRr hRo hP hD hS
                        · refine lv_iload hx hb dL_isTicked_473 (lv_at hl 8 rfl) ?_
                          refine lv_iconst (v := nI 2) hx hb dL_isTicked_475 (by decide) ?_
                          refine n_icmp_ne (tgt := 563) hx hb dL_isTicked_476 (by decide) (hB2 _ _ (by decide)) (by decide) (fun c_476 => ?_) (fun c_476 => ?_)
                          · exfalso; exact c_476 (TS_s2 ht c_456 c_470)
                          · refine lv_goto (tgt := 508) hx hb dL_isTicked_479 (by decide) ?_
                            exact hk449 _ _ _ hRc hRr hRo hP hD hS
                      · refine lv_iload hx hb dL_isTicked_459 (lv_at hl 8 rfl) ?_
                        refine lv_iconst (v := nI 1) hx hb dL_isTicked_461 (by decide) ?_
                        refine n_icmp_ne (tgt := 563) hx hb dL_isTicked_462 (by decide) (hB2 _ _ (by decide)) (by decide) (fun c_462 => ?_) (fun c_462 => ?_)
                        · exfalso; exact c_462 (TS_g ht c_451 c_456).1
                        · refine lv_goto (tgt := 508) hx hb dL_isTicked_465 (by decide) ?_
                          exact hk449 _ _ _ hRc hRr hRo hP hD hS
                  refine J449 (fun H locs wl hRc hRr hRo hP hD hS => ?_)
                  have J508 : (∀ (H : Heap) (locs : List Loc) (wl : va_W), Rc G C wl → Rr G (up2 (up2 r2 15 i t5) 16 i ((r2 16 i) + ta)) wl → Ro G o wl → va_P D vwCl wl H → va_D (fun q => h0 ≤ q) wl → va_S (fun q => h0 ≤ q) s.heap H locs → W p l e (headSpec wsL_isTicked ({ frames := 7, cells := 0, slots := 0, locals := 154 } : Room)).room s m ([.ref (G 0), .ref (G 3), .ref (G 4), .ref (G 5), .ref (G 6)] : List Value).toArray below meth cd H locs 0 0 Q (F0 m 525 ls [])) → W p l e (headSpec wsL_isTicked ({ frames := 7, cells := 0, slots := 0, locals := 154 } : Room)).room s m ([.ref (G 0), .ref (G 3), .ref (G 4), .ref (G 5), .ref (G 6)] : List Value).toArray below meth cd H locs 0 0 Q (F0 m 508 ls []) := by
                    intro hk508
                    refine lv_aload_n hx hb dL_isTicked_508 rfl (lv_at hl 14 rfl) ?_
                    refine lv_iload hx hb dL_isTicked_509 (lv_at hl 10 rfl) ?_
                    refine x_iald hx hb hK hP 5 (Q_a3 hRr) (by first | omega | decide | assumption) (by decide) dL_isTicked_511 (v := nI (r2 3 i)) (congrArg nI (show (up2 (up2 r2 15 i t5) 16 i ((r2 16 i) + ta)) 3 i = r2 3 i from by simp [up2])) ?_
                    refine lv_iconst (v := nI 2) hx hb dL_isTicked_512 (by decide) ?_
                    refine n_icmp_lt (tgt := 525) hx hb dL_isTicked_513 (by decide) (hBr2 _ _ (by decide)) (by decide) (fun c_513 => ?_) (fun c_513 => ?_)
                    · exact hk508 _ _ _ hRc hRr hRo hP hD hS
                    · refine lv_iload hx hb dL_isTicked_516 (lv_at hl 8 rfl) ?_
                      refine lv_aload_n hx hb dL_isTicked_518 rfl (lv_at hl 14 rfl) ?_
                      refine lv_iload hx hb dL_isTicked_519 (lv_at hl 10 rfl) ?_
                      refine x_iald hx hb hK hP 5 (Q_a3 hRr) (by first | omega | decide | assumption) (by decide) dL_isTicked_521 (v := nI (r2 3 i)) (congrArg nI (show (up2 (up2 r2 15 i t5) 16 i ((r2 16 i) + ta)) 3 i = r2 3 i from by simp [up2])) ?_
                      refine n_icmp_ne (tgt := 563) hx hb dL_isTicked_522 (by decide) (hB2 _ _ (by decide)) (hBr2 _ _ (by decide)) (fun c_522 => ?_) (fun c_522 => ?_)
                      · exfalso; exact c_522 (by rw [e3a]; exact TS_s5 ht (by omega))
                      · exact hk508 _ _ _ hRc hRr hRo hP hD hS
                  refine J508 (fun H locs wl hRc hRr hRo hP hD hS => ?_)
                  have J525 : (∀ (H : Heap) (locs : List Loc) (wl : va_W), Rc G C wl → Rr G (up2 (up2 r2 15 i t5) 16 i ((r2 16 i) + ta)) wl → Ro G o wl → va_P D vwCl wl H → va_D (fun q => h0 ≤ q) wl → va_S (fun q => h0 ≤ q) s.heap H locs → W p l e (headSpec wsL_isTicked ({ frames := 7, cells := 0, slots := 0, locals := 154 } : Room)).room s m ([.ref (G 0), .ref (G 3), .ref (G 4), .ref (G 5), .ref (G 6)] : List Value).toArray below meth cd H locs 0 0 Q (F0 m 564 ls [.int (nI 1)])) → W p l e (headSpec wsL_isTicked ({ frames := 7, cells := 0, slots := 0, locals := 154 } : Room)).room s m ([.ref (G 0), .ref (G 3), .ref (G 4), .ref (G 5), .ref (G 6)] : List Value).toArray below meth cd H locs 0 0 Q (F0 m 525 ls []) := by
                    intro hk525
                    refine lv_aload_n hx hb dL_isTicked_525 rfl (lv_at hl 14 rfl) ?_
                    refine lv_iload hx hb dL_isTicked_526 (lv_at hl 10 rfl) ?_
                    refine x_iald hx hb hK hP 5 (Q_a3 hRr) (by first | omega | decide | assumption) (by decide) dL_isTicked_528 (v := nI (r2 3 i)) (congrArg nI (show (up2 (up2 r2 15 i t5) 16 i ((r2 16 i) + ta)) 3 i = r2 3 i from by simp [up2])) ?_
                    refine n_if_ne (tgt := 559) hx hb dL_isTicked_529 (by decide) (hBr2 _ _ (by decide)) (fun c_529 => ?_) (fun c_529 => ?_)
                    · refine lv_iconst (v := nI 1) hx hb dL_isTicked_559 (by decide) ?_
                      refine lv_goto (tgt := 564) hx hb dL_isTicked_560 (by decide) ?_
                      exact hk525 _ _ _ hRc hRr hRo hP hD hS
                    · refine lv_iload hx hb dL_isTicked_532 (lv_at hl 8 rfl) ?_
                      refine n_if_eq (tgt := 559) hx hb dL_isTicked_534 (by decide) (hB2 _ _ (by decide)) (fun c_534 => ?_) (fun c_534 => ?_)
                      · refine lv_iconst (v := nI 1) hx hb dL_isTicked_559 (by decide) ?_
                        refine lv_goto (tgt := 564) hx hb dL_isTicked_560 (by decide) ?_
                        exact hk525 _ _ _ hRc hRr hRo hP hD hS
                      · refine lv_iload hx hb dL_isTicked_537 (lv_at hl 8 rfl) ?_
                        refine lv_iconst (v := nI 1) hx hb dL_isTicked_539 (by decide) ?_
                        refine n_icmp_eq (tgt := 559) hx hb dL_isTicked_540 (by decide) (hB2 _ _ (by decide)) (by decide) (fun c_540 => ?_) (fun c_540 => ?_)
                        · refine lv_iconst (v := nI 1) hx hb dL_isTicked_559 (by decide) ?_
                          refine lv_goto (tgt := 564) hx hb dL_isTicked_560 (by decide) ?_
                          exact hk525 _ _ _ hRc hRr hRo hP hD hS
                        · refine lv_iload hx hb dL_isTicked_543 (lv_at hl 8 rfl) ?_
                          refine lv_iconst (v := nI 3) hx hb dL_isTicked_545 (by decide) ?_
                          refine n_icmp_ne (tgt := 563) hx hb dL_isTicked_546 (by decide) (hB2 _ _ (by decide)) (by decide) (fun c_546 => ?_) (fun c_546 => ?_)
                          · exfalso; have h9 := TS_s6 ht (by omega); omega
                          · refine lv_aload_n hx hb dL_isTicked_549 rfl (lv_at hl 11 rfl) ?_
                            refine lv_aload_n hx hb dL_isTicked_550 rfl (lv_at hl 12 rfl) ?_
                            refine lv_iload hx hb dL_isTicked_551 (lv_at hl 10 rfl) ?_
                            refine y_calli (va_runS (As := [.ref (G 0), .ref (G 3), .int (nI i)]) (rest := []) ⟨hx, hb, hml, hown, hts⟩ (k_L_hasLost l D G h0 C (up2 (up2 r2 15 i t5) 16 i ((r2 16 i) + ta)) o hI2 hn8C (fun v hv => (hR3 12 v (by decide) (by decide)).trans ((hr1 12 v (by decide)).trans (hX12 v hv))) i (by omega) ((hR3 14 i (by decide) (by decide)).trans ((hr1 14 i (by decide)).trans (hX14 i (by omega)))) hBr3) (va_cwS 3 hts gL_isTicked_L_hasLost rfl rfl rfl (by decide +kernel) ⟨Nat.le_of_ble_eq_true rfl, Nat.le_of_ble_eq_true rfl⟩) ⟨fun a U g mk q => ⟨q.1, Pr_cg q.2⟩, fun U hU hW => ⟨rfl, Pr_mk hE hRc hRr hRo hP hD hS hU hW⟩⟩ rfl rfl hl.1 rfl (lv_room (Nat.le_of_ble_eq_true rfl)) dL_isTicked_553 ⟨Nat.le_of_ble_eq_true rfl, Nat.le_of_ble_eq_true rfl⟩) hS (fun v9 _ H locs wl hv9 hRc hRr hRo hP hD hS => ?_)
                            refine n_top (y := .int (nI (bN (exQ (fun v => (C 7 i).testBit v = true ∧ lostP (C 9) (C 6) v) (C 20 1))))) (congrArg Value.int hv9) ?_
                            clear hv9 v9
                            refine n_ifb_eq (tgt := 563) hx hb dL_isTicked_556 (by decide) (fun c_556 => ?_) (fun c_556 => ?_)
                            · exfalso; exact c_556 (by rw [e20]; exact hls () (by omega) (by omega))
                            · refine lv_iconst (v := nI 1) hx hb dL_isTicked_559 (by decide) ?_
                              refine lv_goto (tgt := 564) hx hb dL_isTicked_560 (by decide) ?_
                              exact hk525 _ _ _ hRc hRr hRo hP hD hS
                  refine J525 (fun H locs wl hRc hRr hRo hP hD hS => ?_)
                  refine lv_istore (lv' := [(6, .int (nI 1)), (16, .int (nI (((r2 3 (16 + i)) + (r2 10 i)) / 2))), (8, .int (nI ((sm (c_part C) i) + (c_part C i)))), (7, .int (nI ((ct (fun w => C 9 w = 1) i) + (bN (C 9 i = 1))))), (15, .int (nI (bN (AGu c i)))), (14, .int (nI (bN (FAu c i)))), (13, .int (nI (bN (En c i)))), (12, .int (nI (bN (c 9 i = 1)))), (11, .int (nI (C 9 i))), (10, .int (nI (8 * i))), (9, .int (nI i)), (0, .ref (G 0)), (1, .ref (G 3)), (2, .ref (G 4)), (3, .ref (G 5)), (4, .ref (G 6)), (5, .int (nI (c 20 6)))]) hx hb dL_isTicked_564 hl (by decide) rfl (fun ls hl => ?_)
                  refine lv_iinc (v := nI (i + 1)) (lv' := [(9, .int (nI (i + 1))), (6, .int (nI 1)), (16, .int (nI (((r2 3 (16 + i)) + (r2 10 i)) / 2))), (8, .int (nI ((sm (c_part C) i) + (c_part C i)))), (7, .int (nI ((ct (fun w => C 9 w = 1) i) + (bN (C 9 i = 1))))), (15, .int (nI (bN (AGu c i)))), (14, .int (nI (bN (FAu c i)))), (13, .int (nI (bN (En c i)))), (12, .int (nI (bN (c 9 i = 1)))), (11, .int (nI (C 9 i))), (10, .int (nI (8 * i))), (0, .ref (G 0)), (1, .ref (G 3)), (2, .ref (G 4)), (3, .ref (G 5)), (4, .ref (G 6)), (5, .int (nI (c 20 6)))]) hx hb dL_isTicked_566 hl (k := 10) rfl (nI_add i 1) (by decide) rfl (fun ls hl => ?_)
                  refine lv_goto (tgt := 89) hx hb dL_isTicked_569 (by decide) ?_
                  exact ih89 (i + 1) (by omega) (by omega) (up2 (up2 r2 15 i t5) 16 i ((r2 16 i) + ta)) (by exact hR3) (by exact fun k hk => by rcases Nat.lt_or_ge k i with e | e; (rw [up2_i (show k ≠ i by omega), up2_c (show (16 : Nat) ≠ 15 by decide), up2_c (show (15 : Nat) ≠ 16 by decide), up2_i (show k ≠ i by omega)]; exact hlo k e); obtain rfl : k = i := (by omega); rw [up2_s, up2_c (show (15 : Nat) ≠ 16 by decide), up2_s]; exact ⟨by rw [e16]; exact (TS_a ht hta).symm, ht5.1⟩) (by exact fun k hk => by rw [up2_i (show k ≠ i by omega), up2_c (show (16 : Nat) ≠ 15 by decide), up2_c (show (15 : Nat) ≠ 16 by decide), up2_i (show k ≠ i by omega)]; exact hhi k (by omega)) (by exact hBr3) _ _ _ _ hRc hRr hRo hP hD hS (show lv_has ls 17 [(9, .int (nI (i + 1))), (6, .int (nI 1)), (7, .int (nI (ct (fun w => C 9 w = 1) (i + 1)))), (8, .int (nI (sm (c_part C) (i + 1)))), (0, .ref (G 0)), (1, .ref (G 3)), (2, .ref (G 4)), (3, .ref (G 5)), (4, .ref (G 6)), (5, .int (nI (c 20 6)))] from by rw [show ((.int (nI (ct (fun w => C 9 w = 1) (i + 1))) : Value)) = .int (nI ((ct (fun w => C 9 w = 1) i) + (bN (C 9 i = 1)))) from by rfl, show ((.int (nI (sm (c_part C) (i + 1))) : Value)) = .int (nI ((sm (c_part C) i) + (c_part C i))) from by rfl]; exact lv_sub hl [0, 1, 4, 3, 11, 12, 13, 14, 15, 16] rfl)
        exact L89 _ 0 (Nat.lt_succ_self _) (by omega) (r1) (by exact fun _ _ _ _ => rfl) (by exact fun k hk => absurd hk (Nat.not_lt_zero k)) (by exact fun k _ => ⟨hr1 16 k (by decide), hr1 15 k (by decide)⟩) (by exact hBr1) _ _ _ _ hRc hRr hRo hP hD hS (show lv_has ls 17 [(9, .int (nI 0)), (6, .int (nI 1)), (7, .int (nI (ct (fun w => C 9 w = 1) 0))), (8, .int (nI (sm (c_part C) 0))), (0, .ref (G 0)), (1, .ref (G 3)), (2, .ref (G 4)), (3, .ref (G 5)), (4, .ref (G 6)), (5, .int (nI (c 20 6)))] from by rw [show ((.int (nI (ct (fun w => C 9 w = 1) 0)) : Value)) = .int (nI 0) from by rfl, show ((.int (nI (sm (c_part C) 0)) : Value)) = .int (nI 0) from by rfl]; exact lv_sub hl [0, 3, 2, 1, 4, 5, 6, 7, 8, 9] rfl)
      · refine lv_aload_n hx hb dL_isTicked_18 rfl (lv_at hl 4 rfl) ?_
        refine lv_iload hx hb dL_isTicked_19 (lv_at hl 0 rfl) ?_
        refine lv_aload_n hx hb dL_isTicked_21 rfl (lv_at hl 1 rfl) ?_
        refine lv_iload hx hb dL_isTicked_22 (lv_at hl 0 rfl) ?_
        refine y_calli (va_runV (As := [.int (nI i)]) (rest := [.int (nI i), .ref (G 5)]) ⟨hx, hb, hml, hown, hts⟩ (k_X2_state_ok l D G h0 c r1 o hI i (by first | omega | assumption)) (cwV 1 hts gL_isTicked_X2_state rfl rfl rfl (by decide +kernel) ⟨Nat.le_of_ble_eq_true rfl, Nat.le_of_ble_eq_true rfl⟩) ⟨fun a U g mk q => ⟨q.1, Pr_cg q.2⟩, va_recv (ci := 3) (q0 := 0) hK hP rfl (Q_o hRc), fun U hU hW => ⟨rfl, Pr_mk hE hRc hRr hRo hP hD hS hU hW⟩⟩ rfl rfl hl.1 rfl (lv_room (Nat.le_of_ble_eq_true rfl)) dL_isTicked_24 ⟨Nat.le_of_ble_eq_true rfl, Nat.le_of_ble_eq_true rfl⟩) hS (fun v9 _ H locs wl hv9 hRc hRr hRo hP hD hS => ?_)
        refine n_top (y := .int (nI (c 9 i))) (congrArg Value.int hv9) ?_
        clear hv9 v9
        refine x_iast (Z := fun wl => Rc G c wl ∧ Rr G (up2 r1 3 i (c 9 i)) wl ∧ Ro G o wl) hx hb hK hP hD hS 5 (Q_a3 hRr) (by first | omega | decide | assumption) (by decide) dL_isTicked_27 ⟨Rc_fr hRc (by decide) (by decide), P_a3 (r := r1) (c 9 i) (by first | omega | decide | assumption) hRr, ⟨rfl, rfl, rfl⟩⟩ (fun H locs wl hZ hP hD hS => ?_)
        obtain ⟨hRc, hRr, hRo⟩ := hZ
        refine lv_aload_n hx hb dL_isTicked_28 rfl (lv_at hl 4 rfl) ?_
        refine lv_bipush (v := nI 8) hx hb dL_isTicked_29 (by decide) ?_
        refine lv_iload hx hb dL_isTicked_31 (lv_at hl 0 rfl) ?_
        refine n_iadd hx hb dL_isTicked_33 ?_
        refine lv_aload_n hx hb dL_isTicked_34 rfl (lv_at hl 1 rfl) ?_
        refine lv_iload hx hb dL_isTicked_35 (lv_at hl 0 rfl) ?_
        refine y_calli (va_runV (As := [.int (nI i)]) (rest := [.int (nI (8 + i)), .ref (G 5)]) ⟨hx, hb, hml, hown, hts⟩ (k_X2_faults_ok l D G h0 c (up2 r1 3 i (c 9 i)) o hI i (by first | omega | assumption)) (cwV 1 hts gL_isTicked_X2_faults rfl rfl rfl (by decide +kernel) ⟨Nat.le_of_ble_eq_true rfl, Nat.le_of_ble_eq_true rfl⟩) ⟨fun a U g mk q => ⟨q.1, Pr_cg q.2⟩, va_recv (ci := 3) (q0 := 0) hK hP rfl (Q_o hRc), fun U hU hW => ⟨rfl, Pr_mk hE hRc hRr hRo hP hD hS hU hW⟩⟩ rfl rfl hl.1 rfl (lv_room (Nat.le_of_ble_eq_true rfl)) dL_isTicked_37 ⟨Nat.le_of_ble_eq_true rfl, Nat.le_of_ble_eq_true rfl⟩) hS (fun v9 _ H locs wl hv9 hRc hRr hRo hP hD hS => ?_)
        refine n_top (y := .int (nI (c 4 i))) (congrArg Value.int hv9) ?_
        clear hv9 v9
        refine x_iast (Z := fun wl => Rc G c wl ∧ Rr G (up2 (up2 r1 3 i (c 9 i)) 3 (8 + i) (c 4 i)) wl ∧ Ro G o wl) hx hb hK hP hD hS 5 (Q_a3 hRr) (by first | omega | decide | assumption) (by decide) dL_isTicked_40 ⟨Rc_fr hRc (by decide) (by decide), P_a3 (r := (up2 r1 3 i (c 9 i))) (c 4 i) (by first | omega | decide | assumption) hRr, ⟨rfl, rfl, rfl⟩⟩ (fun H locs wl hZ hP hD hS => ?_)
        obtain ⟨hRc, hRr, hRo⟩ := hZ
        refine lv_aload_n hx hb dL_isTicked_41 rfl (lv_at hl 4 rfl) ?_
        refine lv_bipush (v := nI 16) hx hb dL_isTicked_42 (by decide) ?_
        refine lv_iload hx hb dL_isTicked_44 (lv_at hl 0 rfl) ?_
        refine n_iadd hx hb dL_isTicked_46 ?_
        refine lv_aload_n hx hb dL_isTicked_47 rfl (lv_at hl 1 rfl) ?_
        refine lv_iload hx hb dL_isTicked_48 (lv_at hl 0 rfl) ?_
        refine y_calli (va_runV (As := [.int (nI i)]) (rest := [.int (nI (16 + i)), .ref (G 5)]) ⟨hx, hb, hml, hown, hts⟩ (k_X2_learned_ok l D G h0 c (up2 (up2 r1 3 i (c 9 i)) 3 (8 + i) (c 4 i)) o hI i (by first | omega | assumption)) (cwV 1 hts gL_isTicked_X2_learned rfl rfl rfl (by decide +kernel) ⟨Nat.le_of_ble_eq_true rfl, Nat.le_of_ble_eq_true rfl⟩) ⟨fun a U g mk q => ⟨q.1, Pr_cg q.2⟩, va_recv (ci := 3) (q0 := 0) hK hP rfl (Q_o hRc), fun U hU hW => ⟨rfl, Pr_mk hE hRc hRr hRo hP hD hS hU hW⟩⟩ rfl rfl hl.1 rfl (lv_room (Nat.le_of_ble_eq_true rfl)) dL_isTicked_50 ⟨Nat.le_of_ble_eq_true rfl, Nat.le_of_ble_eq_true rfl⟩) hS (fun v9 _ H locs wl hv9 hRc hRr hRo hP hD hS => ?_)
        refine n_top (y := .int (nI (c 3 i))) (congrArg Value.int hv9) ?_
        clear hv9 v9
        refine x_iast (Z := fun wl => Rc G c wl ∧ Rr G (up2 (up2 (up2 r1 3 i (c 9 i)) 3 (8 + i) (c 4 i)) 3 (16 + i) (c 3 i)) wl ∧ Ro G o wl) hx hb hK hP hD hS 5 (Q_a3 hRr) (by first | omega | decide | assumption) (by decide) dL_isTicked_53 ⟨Rc_fr hRc (by decide) (by decide), P_a3 (r := (up2 (up2 r1 3 i (c 9 i)) 3 (8 + i) (c 4 i))) (c 3 i) (by first | omega | decide | assumption) hRr, ⟨rfl, rfl, rfl⟩⟩ (fun H locs wl hZ hP hD hS => ?_)
        obtain ⟨hRc, hRr, hRo⟩ := hZ
        refine lv_iinc (v := nI (i + 1)) (lv' := [(6, .int (nI (i + 1))), (0, .ref (G 0)), (1, .ref (G 3)), (2, .ref (G 4)), (3, .ref (G 5)), (4, .ref (G 6)), (5, .int (nI (c 20 6)))]) hx hb dL_isTicked_54 hl (k := 0) rfl (nI_add i 1) (by decide) rfl (fun ls hl => ?_)
        refine lv_goto (tgt := 9) hx hb dL_isTicked_57 (by decide) ?_
        exact ih9 (i + 1) (by omega) (by omega) (up2 (up2 (up2 r1 3 i (c 9 i)) 3 (8 + i) (c 4 i)) 3 (16 + i) (c 3 i)) (by exact fun a j ha => by rw [up2_c ha, up2_c ha, up2_c ha]; exact hr1 a j ha) (by exact fillR (by omega) hr3) (by exact BR_up (BR_up (BR_up hBr1 (hB _ _ (by decide))) (hB _ _ (by decide))) (hB _ _ (by decide))) _ _ _ _ hRc hRr hRo hP hD hS (lv_sub hl [0, 1, 2, 3, 4, 5, 6] rfl)
  exact L9 _ 0 (Nat.lt_succ_self _) (by omega) (r) (by exact fun _ _ _ => rfl) (by exact fun k hk => absurd hk (Nat.not_lt_zero k)) (by exact hBr) _ _ _ _ hRc hRr hRo hP hD hS (lv_sub hl [0, 2, 3, 4, 5, 6, 1] rfl)
