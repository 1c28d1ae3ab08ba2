set_option maxHeartbeats 4000000 in
set_option maxRecDepth 100000 in
theorem k_X3_passes (l : Launch) (D : va_G) (G : Nat → Nat) (h0 : Nat) (c r : Nat → Nat → Nat) (o : Nat) (hI : IR r) : Met l yX3_passes wsX3_passes ({ frames := 4, cells := 0, slots := 0, locals := 92 } : Room) (va_Pc [.ref (G 3)] (fun U => Pr D G h0 c r o U)) (va_Qv (fun (_ : Unit) => True) (fun _ t => Wr D G h0 c (r_tick1 r) o t) (fun q => h0 ≤ q)) 0 0 (fun q => h0 ≤ q) := by
  refine Met.ofW (cc := cX3_passes) (maxL := 2) (ret := none) (by decide) rfl ?_
  intro p e s m args below meth cd s₁ B hml hv
  obtain ⟨rfl, hE, wl, hRc, hRr, hRo, hP, hD⟩ := hv
  have hx := B.exec
  have hb := B.bytes
  have hr := B.returns
  have hts := atoms_spec (ws := wsX3_passes) B.pre
  have hown : s.vm.findClass RX3 = some m.cls := findClass_of_methodNamed B.named
  have hlocks := B.notSynchronized
  have hK := hE.2.1
  have hS : va_S (fun q => h0 ≤ q) s.heap s.heap [] := va_S.rf
  have hl := lv_entry ([.ref (G 3)]) (n := 2) (Nat.le_of_ble_eq_true rfl)
  rw [lg_entry_eq]
  generalize (lg_sl ([.ref (G 3)]) ++ List.replicate (2 - (lg_sl ([.ref (G 3)])).length) Slot.unset).toArray = ls at hl ⊢
  have hl : lv_has ls 2 [(0, .ref (G 3))] := hl
  have inX3 : ∀ w ∈ wsX30, w ∈ wsX3_passes := by decide +kernel
  obtain ⟨Q, hQ⟩ : ∃ Q, Q = MQ below (va_Qv (fun (_ : Unit) => True) (fun _ t => Wr D G h0 c (r_tick1 r) o t) (fun q => h0 ≤ q)) ([.ref (G 3)] : List Value).toArray s 0 0 (fun q => h0 ≤ q) := ⟨_, rfl⟩
  rw [← hQ]
  have hBr := IR_B hI
  have hn := IR_n hI
  have hs := IR_s hI
  refine lv_iconst (v := nI 0) hx hb dX3_passes_0 (by decide) ?_
  refine lv_istore_n (lv' := [(1, .int (nI 0)), (0, .ref (G 3))]) hx hb dX3_passes_1 rfl hl (by decide) rfl (fun ls hl => ?_)
  have L2 : ∀ (d i : Nat), r 30 0 - i < d → i ≤ r 30 0 → ∀ (r1 : Nat → Nat → Nat), (r1 = r_endI r i) → ∀ (H : Heap) (locs : List Loc) (wl : va_W) (ls : Array Slot), Rc G c wl → Rr G r1 wl → Ro G o wl → va_P D vwCl wl H → va_D (fun q => h0 ≤ q) wl → va_S (fun q => h0 ≤ q) s.heap H locs → lv_has ls 2 [(1, .int (nI i)), (0, .ref (G 3))] → W p l e (headSpec wsX3_passes ({ frames := 4, cells := 0, slots := 0, locals := 92 } : Room)).room s m ([.ref (G 3)] : List Value).toArray below meth cd H locs 0 0 Q (F0 m 2 ls []) := by
    intro d2
    induction d2 with
    | zero => intro i hd; exact absurd hd (Nat.not_lt_zero _)
    | succ d2 ih2 =>
      intro i hd hi r1  hc1 H locs wl ls hRc hRr hRo hP hD hS hl
      have hI1 : IR r1 := by rw [hc1]; exact IR_endI hI i
      have hBr1 := IR_B hI1
      have e30_0 : r1 30 0 = r 30 0 := by rw [hc1]; exact rendI_n r 30 0 (by omega) i
      have hU1 := IR_U hI1 i
      unfold RU at hU1
      refine lv_iload_n hx hb dX3_passes_2 rfl (lv_at hl 0 rfl) ?_
      refine lv_aload_n hx hb dX3_passes_3 rfl (lv_at hl 1 rfl) ?_
      refine va_get (D := D) (ci := 4) (v := .int (nI (r 30 0))) (C := RX3) (T := TX3) (N := 23) hx hb hts inX3 hown hK hP 3 (Q_m hRr) rfl 0 (by decide) (hts (.fieldLink RX3 60 "BootStageModel" "units" "I") (by decide +kernel)) (fun _ h9 => h9) (congrArg (fun z => some (Value.int (nI z))) (show r1 30 0 = r 30 0 from by simp [up2, e30_0])) dX3_passes_4 ?_
      refine n_icmp_ge (tgt := 70) hx hb dX3_passes_7 (by decide) (by omega) (hBr _ _ (by decide)) (fun c_7 => ?_) (fun c_7 => ?_)
      · refine lv_iconst (v := nI 0) hx hb dX3_passes_70 (by decide) ?_
        refine lv_istore_n (lv' := [(1, .int (nI 0)), (0, .ref (G 3))]) hx hb dX3_passes_71 rfl hl (by decide) rfl (fun ls hl => ?_)
        have L72 : ∀ (d k : Nat), r 30 0 - k < d → k ≤ r 30 0 → ∀ (r2 : Nat → Nat → Nat), (r2 = r_failI (r_endI r (r 30 0)) k) → ∀ (H : Heap) (locs : List Loc) (wl : va_W) (ls : Array Slot), Rc G c wl → Rr G r2 wl → Ro G o wl → va_P D vwCl wl H → va_D (fun q => h0 ≤ q) wl → va_S (fun q => h0 ≤ q) s.heap H locs → lv_has ls 2 [(1, .int (nI k)), (0, .ref (G 3))] → W p l e (headSpec wsX3_passes ({ frames := 4, cells := 0, slots := 0, locals := 92 } : Room)).room s m ([.ref (G 3)] : List Value).toArray below meth cd H locs 0 0 Q (F0 m 72 ls []) := by
          intro d72
          induction d72 with
          | zero => intro k hd; exact absurd hd (Nat.not_lt_zero _)
          | succ d72 ih72 =>
            intro k hd hi r2  hc2 H locs wl ls hRc hRr hRo hP hD hS hl
            have hI2 : IR r2 := by rw [hc2]; exact IR_failI (IR_endI hI _) k
            have hBr2 := IR_B hI2
            have e30_0 : r2 30 0 = r 30 0 := by rw [hc2]; exact (rfailI_n _ 30 0 (by omega) k).trans (rendI_n r 30 0 (by omega) _)
            have hs2 := IR_s hI2
            refine lv_iload_n hx hb dX3_passes_72 rfl (lv_at hl 0 rfl) ?_
            refine lv_aload_n hx hb dX3_passes_73 rfl (lv_at hl 1 rfl) ?_
            refine va_get (D := D) (ci := 4) (v := .int (nI (r 30 0))) (C := RX3) (T := TX3) (N := 23) hx hb hts inX3 hown hK hP 3 (Q_m hRr) rfl 0 (by decide) (hts (.fieldLink RX3 60 "BootStageModel" "units" "I") (by decide +kernel)) (fun _ h9 => h9) (congrArg (fun z => some (Value.int (nI z))) (show r2 30 0 = r 30 0 from by simp [up2, e30_0])) dX3_passes_74 ?_
            refine n_icmp_ge (tgt := 120) hx hb dX3_passes_77 (by decide) (by omega) (hBr _ _ (by decide)) (fun c_77 => ?_) (fun c_77 => ?_)
            · refine lv_iconst (v := nI 0) hx hb dX3_passes_120 (by decide) ?_
              refine lv_istore_n (lv' := [(1, .int (nI 0)), (0, .ref (G 3))]) hx hb dX3_passes_121 rfl hl (by decide) rfl (fun ls hl => ?_)
              have L122 : ∀ (d j : Nat), r 30 0 - j < d → j ≤ r 30 0 → ∀ (r3 : Nat → Nat → Nat), (r3 = r_stI (r_failI (r_endI r (r 30 0)) (r 30 0)) j) → ∀ (H : Heap) (locs : List Loc) (wl : va_W) (ls : Array Slot), Rc G c wl → Rr G r3 wl → Ro G o wl → va_P D vwCl wl H → va_D (fun q => h0 ≤ q) wl → va_S (fun q => h0 ≤ q) s.heap H locs → lv_has ls 2 [(1, .int (nI j)), (0, .ref (G 3))] → W p l e (headSpec wsX3_passes ({ frames := 4, cells := 0, slots := 0, locals := 92 } : Room)).room s m ([.ref (G 3)] : List Value).toArray below meth cd H locs 0 0 Q (F0 m 122 ls []) := by
                intro d122
                induction d122 with
                | zero => intro j hd; exact absurd hd (Nat.not_lt_zero _)
                | succ d122 ih122 =>
                  intro j hd hi r3  hc3 H locs wl ls hRc hRr hRo hP hD hS hl
                  have hI3 : IR r3 := by rw [hc3]; exact IR_stI (IR_failI (IR_endI hI _) _) j
                  have hBr3 := IR_B hI3
                  have e30_0 : r3 30 0 = r 30 0 := by rw [hc3]; exact (rstI_n _ 30 0 (by omega) j).trans ((rfailI_n _ 30 0 (by omega) _).trans (rendI_n r 30 0 (by omega) _))
                  have hcn := rcnt_le hI3
                  refine lv_iload_n hx hb dX3_passes_122 rfl (lv_at hl 0 rfl) ?_
                  refine lv_aload_n hx hb dX3_passes_123 rfl (lv_at hl 1 rfl) ?_
                  refine va_get (D := D) (ci := 4) (v := .int (nI (r 30 0))) (C := RX3) (T := TX3) (N := 23) hx hb hts inX3 hown hK hP 3 (Q_m hRr) rfl 0 (by decide) (hts (.fieldLink RX3 60 "BootStageModel" "units" "I") (by decide +kernel)) (fun _ h9 => h9) (congrArg (fun z => some (Value.int (nI z))) (show r3 30 0 = r 30 0 from by simp [up2, e30_0])) dX3_passes_124 ?_
                  refine n_icmp_ge (tgt := 179) hx hb dX3_passes_127 (by decide) (by omega) (hBr _ _ (by decide)) (fun c_127 => ?_) (fun c_127 => ?_)
                  · have hr3 : r_t3 r = r3 := by unfold r_t3; rw [hc3, show j = r 30 0 by omega]
                    refine lv_aload_n hx hb dX3_passes_179 rfl (lv_at hl 1 rfl) ?_
                    refine lv_aload_n hx hb dX3_passes_180 rfl (lv_at hl 1 rfl) ?_
                    refine y_calli (va_runV (As := []) (rest := [.ref (G 3)]) ⟨hx, hb, hml, hown, hts⟩ (k_X3_starting l D G h0 c r3 o hI3) (cwV 0 hts gX3_passes_X3_starting rfl rfl rfl (by decide +kernel) ⟨Nat.le_of_ble_eq_true rfl, Nat.le_of_ble_eq_true rfl⟩) ⟨fun a U g mk q => ⟨q.1, Pr_cg q.2⟩, va_recv (ci := 4) (q0 := 3) hK hP rfl (Q_m hRr), fun U hU hW => ⟨rfl, Pr_mk hE hRc hRr hRo hP hD hS hU hW⟩⟩ rfl rfl hl.1 rfl (lv_room (Nat.le_of_ble_eq_true rfl)) dX3_passes_181 ⟨Nat.le_of_ble_eq_true rfl, Nat.le_of_ble_eq_true rfl⟩) hS (fun v9 _ H locs wl hv9 hRc hRr hRo hP hD hS => ?_)
                    refine n_top (y := .int (nI (r_cnt r3))) (congrArg Value.int hv9) ?_
                    clear hv9 v9
                    refine n_if_le (tgt := 191) hx hb dX3_passes_184 (by decide) (by omega) (fun c_184 => ?_) (fun c_184 => ?_)
                    · refine lv_iconst (v := nI 0) hx hb dX3_passes_191 (by decide) ?_
                      refine x_put (D := D) (G := G) (ci := 4) (ty := .boolean) (C := RX3) (T := TX3) (N := 23) (Z := fun wl => Rc G c wl ∧ Rr G (up2 r3 30 13 0) wl ∧ Ro G o wl) hx hb hts inX3 tyX3 tyX3_ok nmX3 hown hK hP hD hS 3 (Q_m hRr) rfl 13 (by decide) (hts (.fieldLink RX3 67 "BootStageModel" "goesOn" "Z") (by decide +kernel)) (fun _ h9 => h9) rfl (by decide +kernel) (nb_le (by first | exact bN_le _ | decide | omega | assumption)) (nb_ft (by first | exact bN_le _ | decide | omega | assumption)) (Nat.le_of_ble_eq_true rfl) dX3_passes_192 ⟨Rc_fr hRc (by decide) (by decide), P_m13 0 hRr, Ro_fr hRo (by decide)⟩ (fun H locs wl hZ hP hD hS => ?_)
                      obtain ⟨hRc, hRr, hRo⟩ := hZ
                      refine lv_aload_n hx hb dX3_passes_195 rfl (lv_at hl 1 rfl) ?_
                      refine lv_aload_n hx hb dX3_passes_196 rfl (lv_at hl 1 rfl) ?_
                      refine va_get (D := D) (ci := 4) (v := .int (nI 0)) (C := RX3) (T := TX3) (N := 23) hx hb hts inX3 hown hK hP 3 (Q_m hRr) rfl 13 (by decide) (hts (.fieldLink RX3 67 "BootStageModel" "goesOn" "Z") (by decide +kernel)) (fun _ h9 => h9) (congrArg (fun z => some (Value.int (nI z))) (show (up2 r3 30 13 0) 30 13 = 0 from by simp [up2])) dX3_passes_197 ?_
                      refine n_if_eq (tgt := 210) hx hb dX3_passes_200 (by decide) (by decide) (fun c_200 => ?_) (fun c_200 => absurd c_200 (by decide))
                      refine lv_sipush (v := nI 1000) hx hb dX3_passes_210 (by decide) ?_
                      refine x_put (D := D) (G := G) (ci := 4) (ty := .int) (C := RX3) (T := TX3) (N := 23) (Z := fun wl => Rc G c wl ∧ Rr G (up2 (up2 r3 30 13 0) 30 16 1000) wl ∧ Ro G o wl) hx hb hts inX3 tyX3 tyX3_ok nmX3 hown hK hP hD hS 3 (Q_m hRr) rfl 16 (by decide) (hts (.fieldLink RX3 105 "BootStageModel" "bar" "I") (by decide +kernel)) (fun _ h9 => h9) rfl (by decide +kernel) rfl rfl (Nat.le_of_ble_eq_true rfl) dX3_passes_213 ⟨Rc_fr hRc (by decide) (by decide), P_m16 1000 hRr, Ro_fr hRo (by decide)⟩ (fun H locs wl hZ hP hD hS => ?_)
                      obtain ⟨hRc, hRr, hRo⟩ := hZ
                      rw [hQ]
                      exact W.vret hx hb hr (fun t ht hW => ⟨⟨(), rfl, trivial, Wr_mk hRc (show Rr G (r_tick1 r) wl from by rw [show (r_tick1 r) = up2 (up2 r3 30 13 0) 30 16 1000 from by unfold r_tick1; rw [hr3]; rw [bN_f (show ¬ 0 < r_cnt r3 by omega)]; rfl]; exact hRr) hRo hP hD ht⟩, hS.F ht⟩) hS.2.2 dX3_passes_216
                    · refine lv_iconst (v := nI 1) hx hb dX3_passes_187 (by decide) ?_
                      refine lv_goto (tgt := 192) hx hb dX3_passes_188 (by decide) ?_
                      refine x_put (D := D) (G := G) (ci := 4) (ty := .boolean) (C := RX3) (T := TX3) (N := 23) (Z := fun wl => Rc G c wl ∧ Rr G (up2 r3 30 13 1) wl ∧ Ro G o wl) hx hb hts inX3 tyX3 tyX3_ok nmX3 hown hK hP hD hS 3 (Q_m hRr) rfl 13 (by decide) (hts (.fieldLink RX3 67 "BootStageModel" "goesOn" "Z") (by decide +kernel)) (fun _ h9 => h9) rfl (by decide +kernel) (nb_le (by first | exact bN_le _ | decide | omega | assumption)) (nb_ft (by first | exact bN_le _ | decide | omega | assumption)) (Nat.le_of_ble_eq_true rfl) dX3_passes_192 ⟨Rc_fr hRc (by decide) (by decide), P_m13 1 hRr, Ro_fr hRo (by decide)⟩ (fun H locs wl hZ hP hD hS => ?_)
                      obtain ⟨hRc, hRr, hRo⟩ := hZ
                      refine lv_aload_n hx hb dX3_passes_195 rfl (lv_at hl 1 rfl) ?_
                      refine lv_aload_n hx hb dX3_passes_196 rfl (lv_at hl 1 rfl) ?_
                      refine va_get (D := D) (ci := 4) (v := .int (nI 1)) (C := RX3) (T := TX3) (N := 23) hx hb hts inX3 hown hK hP 3 (Q_m hRr) rfl 13 (by decide) (hts (.fieldLink RX3 67 "BootStageModel" "goesOn" "Z") (by decide +kernel)) (fun _ h9 => h9) (congrArg (fun z => some (Value.int (nI z))) (show (up2 r3 30 13 1) 30 13 = 1 from by simp [up2])) dX3_passes_197 ?_
                      refine n_if_eq (tgt := 210) hx hb dX3_passes_200 (by decide) (by decide) (fun c_200 => absurd c_200 (by decide)) (fun c_200 => ?_)
                      refine lv_aload_n hx hb dX3_passes_203 rfl (lv_at hl 1 rfl) ?_
                      refine y_calli (va_runV (As := []) (rest := [.ref (G 3)]) ⟨hx, hb, hml, hown, hts⟩ (k_X3_raised l D G h0 c (up2 r3 30 13 1) o (IR_obj hI3 (Or.inr (Or.inr (Or.inl ⟨rfl, by decide⟩))))) (cwV 0 hts gX3_passes_X3_raised rfl rfl rfl (by decide +kernel) ⟨Nat.le_of_ble_eq_true rfl, Nat.le_of_ble_eq_true rfl⟩) ⟨fun a U g mk q => ⟨q.1, Pr_cg q.2⟩, va_recv (ci := 4) (q0 := 3) hK hP rfl (Q_m hRr), fun U hU hW => ⟨rfl, Pr_mk hE hRc hRr hRo hP hD hS hU hW⟩⟩ rfl rfl hl.1 rfl (lv_room (Nat.le_of_ble_eq_true rfl)) dX3_passes_204 ⟨Nat.le_of_ble_eq_true rfl, Nat.le_of_ble_eq_true rfl⟩) hS (fun v9 _ H locs wl hv9 hRc hRr hRo hP hD hS => ?_)
                      refine n_top (y := .int (nI (r_rs (up2 r3 30 13 1)))) (congrArg Value.int hv9) ?_
                      clear hv9 v9
                      refine lv_goto (tgt := 213) hx hb dX3_passes_207 (by decide) ?_
                      refine x_put (D := D) (G := G) (ci := 4) (ty := .int) (C := RX3) (T := TX3) (N := 23) (Z := fun wl => Rc G c wl ∧ Rr G (up2 (up2 r3 30 13 1) 30 16 (r_rs (up2 r3 30 13 1))) wl ∧ Ro G o wl) hx hb hts inX3 tyX3 tyX3_ok nmX3 hown hK hP hD hS 3 (Q_m hRr) rfl 16 (by decide) (hts (.fieldLink RX3 105 "BootStageModel" "bar" "I") (by decide +kernel)) (fun _ h9 => h9) rfl (by decide +kernel) rfl rfl (Nat.le_of_ble_eq_true rfl) dX3_passes_213 ⟨Rc_fr hRc (by decide) (by decide), P_m16 (r_rs (up2 r3 30 13 1)) hRr, Ro_fr hRo (by decide)⟩ (fun H locs wl hZ hP hD hS => ?_)
                      obtain ⟨hRc, hRr, hRo⟩ := hZ
                      rw [hQ]
                      exact W.vret hx hb hr (fun t ht hW => ⟨⟨(), rfl, trivial, Wr_mk hRc (show Rr G (r_tick1 r) wl from by rw [show (r_tick1 r) = up2 (up2 r3 30 13 1) 30 16 (r_rs (up2 r3 30 13 1)) from by unfold r_tick1; rw [hr3]; rw [bN_t c_184]; rfl]; exact hRr) hRo hP hD ht⟩, hS.F ht⟩) hS.2.2 dX3_passes_216
                  · refine lv_aload_n hx hb dX3_passes_130 rfl (lv_at hl 1 rfl) ?_
                    refine va_get (D := D) (ci := 4) (v := .ref (G 15)) (C := RX3) (T := TX3) (N := 23) hx hb hts inX3 hown hK hP 3 (Q_m hRr) rfl 17 (by decide) (hts (.fieldLink RX3 41 "BootStageModel" "states" "[I") (by decide +kernel)) (fun _ h9 => h9) rfl dX3_passes_131 ?_
                    refine lv_iload_n hx hb dX3_passes_134 rfl (lv_at hl 0 rfl) ?_
                    refine x_iald hx hb hK hP 15 (Q_a17 hRr) (by first | omega | decide | assumption) (by decide) dX3_passes_135 (v := nI (r3 17 j)) rfl ?_
                    refine n_if_ne (tgt := 173) hx hb dX3_passes_136 (by decide) (hBr3 _ _ (by decide)) (fun c_136 => ?_) (fun c_136 => ?_)
                    · refine lv_iinc (v := nI (j + 1)) (lv' := [(1, .int (nI (j + 1))), (0, .ref (G 3))]) hx hb dX3_passes_173 hl (k := 0) rfl (nI_add j 1) (by decide) rfl (fun ls hl => ?_)
                      refine lv_goto (tgt := 122) hx hb dX3_passes_176 (by decide) ?_
                      exact ih122 (j + 1) (by omega) (by omega) (r3) (by show _ = r_st1 (r_stI (r_failI (r_endI r (r 30 0)) (r 30 0)) j) j; rw [← hc3]; unfold r_st1; rw [if_neg (fun z => absurd z.1 (by omega))]) _ _ _ _ hRc hRr hRo hP hD hS (lv_sub hl [0, 1] rfl)
                    · refine lv_aload_n hx hb dX3_passes_139 rfl (lv_at hl 1 rfl) ?_
                      refine y_calli (va_runV (As := []) (rest := []) ⟨hx, hb, hml, hown, hts⟩ (k_X3_starting l D G h0 c r3 o hI3) (cwV 0 hts gX3_passes_X3_starting rfl rfl rfl (by decide +kernel) ⟨Nat.le_of_ble_eq_true rfl, Nat.le_of_ble_eq_true rfl⟩) ⟨fun a U g mk q => ⟨q.1, Pr_cg q.2⟩, va_recv (ci := 4) (q0 := 3) hK hP rfl (Q_m hRr), fun U hU hW => ⟨rfl, Pr_mk hE hRc hRr hRo hP hD hS hU hW⟩⟩ rfl rfl hl.1 rfl (lv_room (Nat.le_of_ble_eq_true rfl)) dX3_passes_140 ⟨Nat.le_of_ble_eq_true rfl, Nat.le_of_ble_eq_true rfl⟩) hS (fun v9 _ H locs wl hv9 hRc hRr hRo hP hD hS => ?_)
                      refine n_top (y := .int (nI (r_cnt r3))) (congrArg Value.int hv9) ?_
                      clear hv9 v9
                      refine lv_aload_n hx hb dX3_passes_143 rfl (lv_at hl 1 rfl) ?_
                      refine va_get (D := D) (ci := 4) (v := .int (nI (r3 30 14))) (C := RX3) (T := TX3) (N := 23) hx hb hts inX3 hown hK hP 3 (Q_m hRr) rfl 14 (by decide) (hts (.fieldLink RX3 99 "BootStageModel" "bound" "I") (by decide +kernel)) (fun _ h9 => h9) rfl dX3_passes_144 ?_
                      refine n_icmp_ge (tgt := 173) hx hb dX3_passes_147 (by decide) (by omega) (hBr3 _ _ (by decide)) (fun c_147 => ?_) (fun c_147 => ?_)
                      · refine lv_iinc (v := nI (j + 1)) (lv' := [(1, .int (nI (j + 1))), (0, .ref (G 3))]) hx hb dX3_passes_173 hl (k := 0) rfl (nI_add j 1) (by decide) rfl (fun ls hl => ?_)
                        refine lv_goto (tgt := 122) hx hb dX3_passes_176 (by decide) ?_
                        exact ih122 (j + 1) (by omega) (by omega) (r3) (by show _ = r_st1 (r_stI (r_failI (r_endI r (r 30 0)) (r 30 0)) j) j; rw [← hc3]; unfold r_st1; rw [if_neg (fun z => absurd z.2.1 (by omega))]) _ _ _ _ hRc hRr hRo hP hD hS (lv_sub hl [0, 1] rfl)
                      · refine lv_aload_n hx hb dX3_passes_150 rfl (lv_at hl 1 rfl) ?_
                        refine lv_iload_n hx hb dX3_passes_151 rfl (lv_at hl 0 rfl) ?_
                        refine lv_iconst (v := nI 1) hx hb dX3_passes_152 (by decide) ?_
                        refine y_calli (va_runV (As := [.int (nI j), .int (nI 1)]) (rest := []) ⟨hx, hb, hml, hown, hts⟩ (k_X3_isSo l D G h0 c r3 o hI3 j 1 (by first | omega | assumption) (by decide)) (cwV 2 hts gX3_passes_X3_isSo rfl rfl rfl (by decide +kernel) ⟨Nat.le_of_ble_eq_true rfl, Nat.le_of_ble_eq_true rfl⟩) ⟨fun a U g mk q => ⟨q.1, Pr_cg q.2⟩, va_recv (ci := 4) (q0 := 3) hK hP rfl (Q_m hRr), fun U hU hW => ⟨rfl, Pr_mk hE hRc hRr hRo hP hD hS hU hW⟩⟩ rfl rfl hl.1 rfl (lv_room (Nat.le_of_ble_eq_true rfl)) dX3_passes_153 ⟨Nat.le_of_ble_eq_true rfl, Nat.le_of_ble_eq_true rfl⟩) hS (fun v9 _ H locs wl hv9 hRc hRr hRo hP hD hS => ?_)
                        refine n_top (y := .int (nI (bN (soR r3 j)))) (congrArg Value.int hv9) ?_
                        clear hv9 v9
                        refine n_ifb_eq (tgt := 173) hx hb dX3_passes_156 (by decide) (fun c_156 => ?_) (fun c_156 => ?_)
                        · refine lv_iinc (v := nI (j + 1)) (lv' := [(1, .int (nI (j + 1))), (0, .ref (G 3))]) hx hb dX3_passes_173 hl (k := 0) rfl (nI_add j 1) (by decide) rfl (fun ls hl => ?_)
                          refine lv_goto (tgt := 122) hx hb dX3_passes_176 (by decide) ?_
                          exact ih122 (j + 1) (by omega) (by omega) (r3) (by show _ = r_st1 (r_stI (r_failI (r_endI r (r 30 0)) (r 30 0)) j) j; rw [← hc3]; unfold r_st1; rw [if_neg (fun z => c_156 (bN_1.mp z.2.2))]) _ _ _ _ hRc hRr hRo hP hD hS (lv_sub hl [0, 1] rfl)
                        · refine lv_aload_n hx hb dX3_passes_159 rfl (lv_at hl 1 rfl) ?_
                          refine va_get (D := D) (ci := 4) (v := .ref (G 15)) (C := RX3) (T := TX3) (N := 23) hx hb hts inX3 hown hK hP 3 (Q_m hRr) rfl 17 (by decide) (hts (.fieldLink RX3 41 "BootStageModel" "states" "[I") (by decide +kernel)) (fun _ h9 => h9) rfl dX3_passes_160 ?_
                          refine lv_iload_n hx hb dX3_passes_163 rfl (lv_at hl 0 rfl) ?_
                          refine lv_iconst (v := nI 1) hx hb dX3_passes_164 (by decide) ?_
                          refine x_iast (Z := fun wl => Rc G c wl ∧ Rr G (up2 r3 17 j 1) wl ∧ Ro G o wl) hx hb hK hP hD hS 15 (Q_a17 hRr) (by first | omega | decide | assumption) (by decide) dX3_passes_165 ⟨Rc_fr hRc (by decide) (by decide), P_a17 1 (by first | omega | decide | assumption) hRr, Ro_fr hRo (by decide)⟩ (fun H locs wl hZ hP hD hS => ?_)
                          obtain ⟨hRc, hRr, hRo⟩ := hZ
                          refine lv_aload_n hx hb dX3_passes_166 rfl (lv_at hl 1 rfl) ?_
                          refine va_get (D := D) (ci := 4) (v := .ref (G 16)) (C := RX3) (T := TX3) (N := 23) hx hb hts inX3 hown hK hP 3 (Q_m hRr) rfl 18 (by decide) (hts (.fieldLink RX3 44 "BootStageModel" "ticks" "[I") (by decide +kernel)) (fun _ h9 => h9) rfl dX3_passes_167 ?_
                          refine lv_iload_n hx hb dX3_passes_170 rfl (lv_at hl 0 rfl) ?_
                          refine lv_iconst (v := nI 0) hx hb dX3_passes_171 (by decide) ?_
                          refine x_iast (Z := fun wl => Rc G c wl ∧ Rr G (up2 (up2 r3 17 j 1) 18 j 0) wl ∧ Ro G o wl) hx hb hK hP hD hS 16 (Q_a18 hRr) (by first | omega | decide | assumption) (by decide) dX3_passes_172 ⟨Rc_fr hRc (by decide) (by decide), P_a18 0 (by first | omega | decide | assumption) hRr, Ro_fr hRo (by decide)⟩ (fun H locs wl hZ hP hD hS => ?_)
                          obtain ⟨hRc, hRr, hRo⟩ := hZ
                          refine lv_iinc (v := nI (j + 1)) (lv' := [(1, .int (nI (j + 1))), (0, .ref (G 3))]) hx hb dX3_passes_173 hl (k := 0) rfl (nI_add j 1) (by decide) rfl (fun ls hl => ?_)
                          refine lv_goto (tgt := 122) hx hb dX3_passes_176 (by decide) ?_
                          exact ih122 (j + 1) (by omega) (by omega) (up2 (up2 r3 17 j 1) 18 j 0) (by show _ = r_st1 (r_stI (r_failI (r_endI r (r 30 0)) (r 30 0)) j) j; rw [← hc3]; unfold r_st1; rw [if_pos ⟨c_136, c_147, bN_t c_156⟩]) _ _ _ _ hRc hRr hRo hP hD hS (lv_sub hl [0, 1] rfl)
              exact L122 _ 0 (Nat.lt_succ_self _) (by omega) (r2) (by rw [hc2, show k = r 30 0 by omega]; rfl) _ _ _ _ hRc hRr hRo hP hD hS (lv_sub hl [0, 1] rfl)
            · refine lv_aload_n hx hb dX3_passes_80 rfl (lv_at hl 1 rfl) ?_
              refine va_get (D := D) (ci := 4) (v := .ref (G 15)) (C := RX3) (T := TX3) (N := 23) hx hb hts inX3 hown hK hP 3 (Q_m hRr) rfl 17 (by decide) (hts (.fieldLink RX3 41 "BootStageModel" "states" "[I") (by decide +kernel)) (fun _ h9 => h9) rfl dX3_passes_81 ?_
              refine lv_iload_n hx hb dX3_passes_84 rfl (lv_at hl 0 rfl) ?_
              refine lv_aload_n hx hb dX3_passes_85 rfl (lv_at hl 1 rfl) ?_
              refine va_get (D := D) (ci := 4) (v := .ref (G 15)) (C := RX3) (T := TX3) (N := 23) hx hb hts inX3 hown hK hP 3 (Q_m hRr) rfl 17 (by decide) (hts (.fieldLink RX3 41 "BootStageModel" "states" "[I") (by decide +kernel)) (fun _ h9 => h9) rfl dX3_passes_86 ?_
              refine lv_iload_n hx hb dX3_passes_89 rfl (lv_at hl 0 rfl) ?_
              refine x_iald hx hb hK hP 15 (Q_a17 hRr) (by first | omega | decide | assumption) (by decide) dX3_passes_90 (v := nI (r2 17 k)) rfl ?_
              refine n_if_ne (tgt := 107) hx hb dX3_passes_91 (by decide) (hBr2 _ _ (by decide)) (fun c_91 => ?_) (fun c_91 => ?_)
              · refine lv_aload_n hx hb dX3_passes_107 rfl (lv_at hl 1 rfl) ?_
                refine va_get (D := D) (ci := 4) (v := .ref (G 15)) (C := RX3) (T := TX3) (N := 23) hx hb hts inX3 hown hK hP 3 (Q_m hRr) rfl 17 (by decide) (hts (.fieldLink RX3 41 "BootStageModel" "states" "[I") (by decide +kernel)) (fun _ h9 => h9) rfl dX3_passes_108 ?_
                refine lv_iload_n hx hb dX3_passes_111 rfl (lv_at hl 0 rfl) ?_
                refine x_iald hx hb hK hP 15 (Q_a17 hRr) (by first | omega | decide | assumption) (by decide) dX3_passes_112 (v := nI (r2 17 k)) rfl ?_
                refine x_iast (Z := fun wl => Rc G c wl ∧ Rr G (up2 r2 17 k (r2 17 k)) wl ∧ Ro G o wl) hx hb hK hP hD hS 15 (Q_a17 hRr) (by first | omega | decide | assumption) (by decide) dX3_passes_113 ⟨Rc_fr hRc (by decide) (by decide), P_a17 (r2 17 k) (by first | omega | decide | assumption) hRr, Ro_fr hRo (by decide)⟩ (fun H locs wl hZ hP hD hS => ?_)
                obtain ⟨hRc, hRr, hRo⟩ := hZ
                refine lv_iinc (v := nI (k + 1)) (lv' := [(1, .int (nI (k + 1))), (0, .ref (G 3))]) hx hb dX3_passes_114 hl (k := 0) rfl (nI_add k 1) (by decide) rfl (fun ls hl => ?_)
                refine lv_goto (tgt := 72) hx hb dX3_passes_117 (by decide) ?_
                exact ih72 (k + 1) (by omega) (by omega) (up2 r2 17 k (r2 17 k)) (by show _ = r_fail1 (r_failI (r_endI r (r 30 0)) k) k; rw [← hc2]; unfold r_fail1; rw [if_neg (fun z => absurd z.1 (by omega))]) _ _ _ _ hRc hRr hRo hP hD hS (lv_sub hl [0, 1] rfl)
              · refine lv_aload_n hx hb dX3_passes_94 rfl (lv_at hl 1 rfl) ?_
                refine lv_iload_n hx hb dX3_passes_95 rfl (lv_at hl 0 rfl) ?_
                refine lv_iconst (v := nI 0) hx hb dX3_passes_96 (by decide) ?_
                refine y_calli (va_runV (As := [.int (nI k), .int (nI 0)]) (rest := [.int (nI k), .ref (G 15)]) ⟨hx, hb, hml, hown, hts⟩ (k_X3_isSo l D G h0 c r2 o hI2 k 0 (by first | omega | assumption) (by decide)) (cwV 2 hts gX3_passes_X3_isSo rfl rfl rfl (by decide +kernel) ⟨Nat.le_of_ble_eq_true rfl, Nat.le_of_ble_eq_true rfl⟩) ⟨fun a U g mk q => ⟨q.1, Pr_cg q.2⟩, va_recv (ci := 4) (q0 := 3) hK hP rfl (Q_m hRr), fun U hU hW => ⟨rfl, Pr_mk hE hRc hRr hRo hP hD hS hU hW⟩⟩ rfl rfl hl.1 rfl (lv_room (Nat.le_of_ble_eq_true rfl)) dX3_passes_97 ⟨Nat.le_of_ble_eq_true rfl, Nat.le_of_ble_eq_true rfl⟩) hS (fun v9 _ H locs wl hv9 hRc hRr hRo hP hD hS => ?_)
                refine n_top (y := .int (nI (bN (hLR r2 k)))) (congrArg Value.int hv9) ?_
                clear hv9 v9
                refine n_ifb_eq (tgt := 107) hx hb dX3_passes_100 (by decide) (fun c_100 => ?_) (fun c_100 => ?_)
                · refine lv_aload_n hx hb dX3_passes_107 rfl (lv_at hl 1 rfl) ?_
                  refine va_get (D := D) (ci := 4) (v := .ref (G 15)) (C := RX3) (T := TX3) (N := 23) hx hb hts inX3 hown hK hP 3 (Q_m hRr) rfl 17 (by decide) (hts (.fieldLink RX3 41 "BootStageModel" "states" "[I") (by decide +kernel)) (fun _ h9 => h9) rfl dX3_passes_108 ?_
                  refine lv_iload_n hx hb dX3_passes_111 rfl (lv_at hl 0 rfl) ?_
                  refine x_iald hx hb hK hP 15 (Q_a17 hRr) (by first | omega | decide | assumption) (by decide) dX3_passes_112 (v := nI (r2 17 k)) rfl ?_
                  refine x_iast (Z := fun wl => Rc G c wl ∧ Rr G (up2 r2 17 k (r2 17 k)) wl ∧ Ro G o wl) hx hb hK hP hD hS 15 (Q_a17 hRr) (by first | omega | decide | assumption) (by decide) dX3_passes_113 ⟨Rc_fr hRc (by decide) (by decide), P_a17 (r2 17 k) (by first | omega | decide | assumption) hRr, Ro_fr hRo (by decide)⟩ (fun H locs wl hZ hP hD hS => ?_)
                  obtain ⟨hRc, hRr, hRo⟩ := hZ
                  refine lv_iinc (v := nI (k + 1)) (lv' := [(1, .int (nI (k + 1))), (0, .ref (G 3))]) hx hb dX3_passes_114 hl (k := 0) rfl (nI_add k 1) (by decide) rfl (fun ls hl => ?_)
                  refine lv_goto (tgt := 72) hx hb dX3_passes_117 (by decide) ?_
                  exact ih72 (k + 1) (by omega) (by omega) (up2 r2 17 k (r2 17 k)) (by show _ = r_fail1 (r_failI (r_endI r (r 30 0)) k) k; rw [← hc2]; unfold r_fail1; rw [if_neg (fun z => c_100 (bN_1.mp z.2))]) _ _ _ _ hRc hRr hRo hP hD hS (lv_sub hl [0, 1] rfl)
                · refine lv_iconst (v := nI 3) hx hb dX3_passes_103 (by decide) ?_
                  refine lv_goto (tgt := 113) hx hb dX3_passes_104 (by decide) ?_
                  refine x_iast (Z := fun wl => Rc G c wl ∧ Rr G (up2 r2 17 k 3) wl ∧ Ro G o wl) hx hb hK hP hD hS 15 (Q_a17 hRr) (by first | omega | decide | assumption) (by decide) dX3_passes_113 ⟨Rc_fr hRc (by decide) (by decide), P_a17 3 (by first | omega | decide | assumption) hRr, Ro_fr hRo (by decide)⟩ (fun H locs wl hZ hP hD hS => ?_)
                  obtain ⟨hRc, hRr, hRo⟩ := hZ
                  refine lv_iinc (v := nI (k + 1)) (lv' := [(1, .int (nI (k + 1))), (0, .ref (G 3))]) hx hb dX3_passes_114 hl (k := 0) rfl (nI_add k 1) (by decide) rfl (fun ls hl => ?_)
                  refine lv_goto (tgt := 72) hx hb dX3_passes_117 (by decide) ?_
                  exact ih72 (k + 1) (by omega) (by omega) (up2 r2 17 k 3) (by show _ = r_fail1 (r_failI (r_endI r (r 30 0)) k) k; rw [← hc2]; unfold r_fail1; rw [if_pos ⟨c_91, bN_t c_100⟩]) _ _ _ _ hRc hRr hRo hP hD hS (lv_sub hl [0, 1] rfl)
        exact L72 _ 0 (Nat.lt_succ_self _) (by omega) (r1) (by rw [hc1, show i = r 30 0 by omega]; rfl) _ _ _ _ hRc hRr hRo hP hD hS (lv_sub hl [0, 1] rfl)
      · refine lv_aload_n hx hb dX3_passes_10 rfl (lv_at hl 1 rfl) ?_
        refine va_get (D := D) (ci := 4) (v := .ref (G 16)) (C := RX3) (T := TX3) (N := 23) hx hb hts inX3 hown hK hP 3 (Q_m hRr) rfl 18 (by decide) (hts (.fieldLink RX3 44 "BootStageModel" "ticks" "[I") (by decide +kernel)) (fun _ h9 => h9) rfl dX3_passes_11 ?_
        refine lv_iload_n hx hb dX3_passes_14 rfl (lv_at hl 0 rfl) ?_
        refine lv_dup2_11 hx hb dX3_passes_15 rfl rfl ?_
        refine x_iald hx hb hK hP 16 (Q_a18 hRr) (by first | omega | decide | assumption) (by decide) dX3_passes_16 (v := nI (r1 18 i)) rfl ?_
        refine lv_aload_n hx hb dX3_passes_17 rfl (lv_at hl 1 rfl) ?_
        refine va_get (D := D) (ci := 4) (v := .ref (G 15)) (C := RX3) (T := TX3) (N := 23) hx hb hts inX3 hown hK hP 3 (Q_m hRr) rfl 17 (by decide) (hts (.fieldLink RX3 41 "BootStageModel" "states" "[I") (by decide +kernel)) (fun _ h9 => h9) rfl dX3_passes_18 ?_
        refine lv_iload_n hx hb dX3_passes_21 rfl (lv_at hl 0 rfl) ?_
        refine x_iald hx hb hK hP 15 (Q_a17 hRr) (by first | omega | decide | assumption) (by decide) dX3_passes_22 (v := nI (r1 17 i)) rfl ?_
        refine lv_iconst (v := nI 1) hx hb dX3_passes_23 (by decide) ?_
        refine n_icmp_ne (tgt := 31) hx hb dX3_passes_24 (by decide) (hBr1 _ _ (by decide)) (by decide) (fun c_24 => ?_) (fun c_24 => ?_)
        · refine lv_iconst (v := nI 0) hx hb dX3_passes_31 (by decide) ?_
          refine n_iadd hx hb dX3_passes_32 ?_
          refine x_iast (Z := fun wl => Rc G c wl ∧ Rr G (up2 r1 18 i ((r1 18 i) + 0)) wl ∧ Ro G o wl) hx hb hK hP hD hS 16 (Q_a18 hRr) (by first | omega | decide | assumption) (by decide) dX3_passes_33 ⟨Rc_fr hRc (by decide) (by decide), P_a18 ((r1 18 i) + 0) (by first | omega | decide | assumption) hRr, Ro_fr hRo (by decide)⟩ (fun H locs wl hZ hP hD hS => ?_)
          obtain ⟨hRc, hRr, hRo⟩ := hZ
          refine lv_aload_n hx hb dX3_passes_34 rfl (lv_at hl 1 rfl) ?_
          refine va_get (D := D) (ci := 4) (v := .ref (G 15)) (C := RX3) (T := TX3) (N := 23) hx hb hts inX3 hown hK hP 3 (Q_m hRr) rfl 17 (by decide) (hts (.fieldLink RX3 41 "BootStageModel" "states" "[I") (by decide +kernel)) (fun _ h9 => h9) rfl dX3_passes_35 ?_
          refine lv_iload_n hx hb dX3_passes_38 rfl (lv_at hl 0 rfl) ?_
          refine x_iald hx hb hK hP 15 (Q_a17 hRr) (by first | omega | decide | assumption) (by decide) dX3_passes_39 (v := nI (r1 17 i)) (congrArg nI (show (up2 r1 18 i ((r1 18 i) + 0)) 17 i = r1 17 i from by simp [up2])) ?_
          refine lv_iconst (v := nI 1) hx hb dX3_passes_40 (by decide) ?_
          refine n_icmp_ne (tgt := 64) hx hb dX3_passes_41 (by decide) (hBr1 _ _ (by decide)) (by decide) (fun c_41 => ?_) (fun c_41 => ?_)
          · refine lv_iinc (v := nI (i + 1)) (lv' := [(1, .int (nI (i + 1))), (0, .ref (G 3))]) hx hb dX3_passes_64 hl (k := 0) rfl (nI_add i 1) (by decide) rfl (fun ls hl => ?_)
            refine lv_goto (tgt := 2) hx hb dX3_passes_67 (by decide) ?_
            exact ih2 (i + 1) (by omega) (by omega) (up2 r1 18 i ((r1 18 i) + 0)) (by show _ = r_end1 (r_endI r i) i; rw [← hc1]; unfold r_end1 r_tk; rw [if_neg (fun z => c_24 z.1), if_neg c_24]) _ _ _ _ hRc hRr hRo hP hD hS (lv_sub hl [0, 1] rfl)
          · exfalso; omega
        · refine lv_iconst (v := nI 1) hx hb dX3_passes_27 (by decide) ?_
          refine lv_goto (tgt := 32) hx hb dX3_passes_28 (by decide) ?_
          refine n_iadd hx hb dX3_passes_32 ?_
          refine x_iast (Z := fun wl => Rc G c wl ∧ Rr G (up2 r1 18 i ((r1 18 i) + 1)) wl ∧ Ro G o wl) hx hb hK hP hD hS 16 (Q_a18 hRr) (by first | omega | decide | assumption) (by decide) dX3_passes_33 ⟨Rc_fr hRc (by decide) (by decide), P_a18 ((r1 18 i) + 1) (by first | omega | decide | assumption) hRr, Ro_fr hRo (by decide)⟩ (fun H locs wl hZ hP hD hS => ?_)
          obtain ⟨hRc, hRr, hRo⟩ := hZ
          refine lv_aload_n hx hb dX3_passes_34 rfl (lv_at hl 1 rfl) ?_
          refine va_get (D := D) (ci := 4) (v := .ref (G 15)) (C := RX3) (T := TX3) (N := 23) hx hb hts inX3 hown hK hP 3 (Q_m hRr) rfl 17 (by decide) (hts (.fieldLink RX3 41 "BootStageModel" "states" "[I") (by decide +kernel)) (fun _ h9 => h9) rfl dX3_passes_35 ?_
          refine lv_iload_n hx hb dX3_passes_38 rfl (lv_at hl 0 rfl) ?_
          refine x_iald hx hb hK hP 15 (Q_a17 hRr) (by first | omega | decide | assumption) (by decide) dX3_passes_39 (v := nI (r1 17 i)) (congrArg nI (show (up2 r1 18 i ((r1 18 i) + 1)) 17 i = r1 17 i from by simp [up2])) ?_
          refine lv_iconst (v := nI 1) hx hb dX3_passes_40 (by decide) ?_
          refine n_icmp_ne (tgt := 64) hx hb dX3_passes_41 (by decide) (hBr1 _ _ (by decide)) (by decide) (fun c_41 => ?_) (fun c_41 => ?_)
          · exfalso; omega
          · refine lv_aload_n hx hb dX3_passes_44 rfl (lv_at hl 1 rfl) ?_
            refine va_get (D := D) (ci := 4) (v := .ref (G 16)) (C := RX3) (T := TX3) (N := 23) hx hb hts inX3 hown hK hP 3 (Q_m hRr) rfl 18 (by decide) (hts (.fieldLink RX3 44 "BootStageModel" "ticks" "[I") (by decide +kernel)) (fun _ h9 => h9) rfl dX3_passes_45 ?_
            refine lv_iload_n hx hb dX3_passes_48 rfl (lv_at hl 0 rfl) ?_
            refine x_iald hx hb hK hP 16 (Q_a18 hRr) (by first | omega | decide | assumption) (by decide) dX3_passes_49 (v := nI ((r1 18 i) + 1)) (congrArg nI (show (up2 r1 18 i ((r1 18 i) + 1)) 18 i = (r1 18 i) + 1 from by simp [up2])) ?_
            refine lv_aload_n hx hb dX3_passes_50 rfl (lv_at hl 1 rfl) ?_
            refine va_get (D := D) (ci := 4) (v := .ref (G 5)) (C := RX3) (T := TX3) (N := 23) hx hb hts inX3 hown hK hP 3 (Q_m hRr) rfl 1 (by decide) (hts (.fieldLink RX3 7 "BootStageModel" "times" "[I") (by decide +kernel)) (fun _ h9 => h9) rfl dX3_passes_51 ?_
            refine lv_iload_n hx hb dX3_passes_54 rfl (lv_at hl 0 rfl) ?_
            refine x_iald hx hb hK hP 5 (Q_a1 hRr) (by first | omega | decide | assumption) (by decide) dX3_passes_55 (v := nI (r1 1 i)) (congrArg nI (show (up2 r1 18 i ((r1 18 i) + 1)) 1 i = r1 1 i from by simp [up2])) ?_
            refine n_icmp_lt (tgt := 64) hx hb dX3_passes_56 (by decide) (by omega) (hBr1 _ _ (by decide)) (fun c_56 => ?_) (fun c_56 => ?_)
            · refine lv_iinc (v := nI (i + 1)) (lv' := [(1, .int (nI (i + 1))), (0, .ref (G 3))]) hx hb dX3_passes_64 hl (k := 0) rfl (nI_add i 1) (by decide) rfl (fun ls hl => ?_)
              refine lv_goto (tgt := 2) hx hb dX3_passes_67 (by decide) ?_
              exact ih2 (i + 1) (by omega) (by omega) (up2 r1 18 i ((r1 18 i) + 1)) (by show _ = r_end1 (r_endI r i) i; rw [← hc1]; unfold r_end1 r_tk; rw [if_neg (fun z => absurd z.2 (by omega)), if_pos c_24]) _ _ _ _ hRc hRr hRo hP hD hS (lv_sub hl [0, 1] rfl)
            · refine lv_aload_n hx hb dX3_passes_59 rfl (lv_at hl 1 rfl) ?_
              refine lv_iload_n hx hb dX3_passes_60 rfl (lv_at hl 0 rfl) ?_
              refine y_callv (va_runV (As := [.int (nI i)]) (rest := []) ⟨hx, hb, hml, hown, hts⟩ (k_X3_ends l D G h0 c (up2 r1 18 i ((r1 18 i) + 1)) o (BRr_up hBr1 (by omega)) i (by first | omega | assumption) (by rw [up2_c (show (2 : Nat) ≠ 18 by decide), up2_c (show (1 : Nat) ≠ 18 by decide)]; omega)) (cwV 1 hts gX3_passes_X3_ends rfl rfl rfl (by decide +kernel) ⟨Nat.le_of_ble_eq_true rfl, Nat.le_of_ble_eq_true rfl⟩) ⟨fun a U g mk q => ⟨q.1, Pr_cg q.2⟩, va_recv (ci := 4) (q0 := 3) hK hP rfl (Q_m hRr), fun U hU hW => ⟨rfl, Pr_mk hE hRc hRr hRo hP hD hS hU hW⟩⟩ rfl rfl hl.1 rfl (lv_room (Nat.le_of_ble_eq_true rfl)) dX3_passes_61 ⟨Nat.le_of_ble_eq_true rfl, Nat.le_of_ble_eq_true rfl⟩) hS (fun _ H locs wl _ hRc hRr hRo hP hD hS => ?_)
              refine lv_iinc (v := nI (i + 1)) (lv' := [(1, .int (nI (i + 1))), (0, .ref (G 3))]) hx hb dX3_passes_64 hl (k := 0) rfl (nI_add i 1) (by decide) rfl (fun ls hl => ?_)
              refine lv_goto (tgt := 2) hx hb dX3_passes_67 (by decide) ?_
              exact ih2 (i + 1) (by omega) (by omega) (r_ends (up2 r1 18 i ((r1 18 i) + 1)) i) (by show _ = r_end1 (r_endI r i) i; rw [← hc1]; unfold r_end1 r_tk; rw [if_pos ⟨c_24, c_56⟩, if_pos c_24]) _ _ _ _ hRc hRr hRo hP hD hS (lv_sub hl [0, 1] rfl)
  exact L2 _ 0 (Nat.lt_succ_self _) (by omega) (r) (by rfl) _ _ _ _ hRc hRr hRo hP hD hS (lv_sub hl [0, 1] rfl)
set_option maxHeartbeats 4000000 in
set_option maxRecDepth 100000 in
theorem k_X3_tick (l : Launch) (D : va_G) (G : Nat → Nat) (h0 : Nat) (c r : Nat → Nat → Nat) (o : Nat) (x : Int32) (hI : IR r) : Met l yX3_tick wsX3_tick ({ frames := 5, cells := 0, slots := 0, locals := 113 } : Room) (va_Pc [.ref (G 3), .int x] (fun U => Pr D G h0 c r o U)) (va_Qi (fun (v9 : Int32) (u9 : Nat → Nat → Nat) => (¬ inR x 1 200 ∧ u9 = up2 r 30 22 1) ∨ (inR x 1 200 ∧ r 30 13 = 0 ∧ u9 = up2 r 30 22 2) ∨ (∃ t i, (1 ≤ t ∧ t ≤ 200) ∧ x = nI t ∧ r 30 13 ≠ 0 ∧ i ≤ t ∧ (∀ j, j < i → r_tkI (up2 r 30 22 0) j 30 13 ≠ 0) ∧ (i = t ∨ r_tkI (up2 r 30 22 0) i 30 13 = 0) ∧ v9 = nI i ∧ u9 = r_tkI (up2 r 30 22 0) i)) (fun (u9 : Nat → Nat → Nat) t => Wr D G h0 c u9 o t) (fun q => h0 ≤ q)) 0 0 (fun q => h0 ≤ q) := by
  refine Met.ofW (cc := cX3_tick) (maxL := 3) (ret := (some .int)) (by decide) rfl ?_
  intro p e s m args below meth cd s₁ B hml hv
  obtain ⟨rfl, hE, wl, hRc, hRr, hRo, hP, hD⟩ := hv
  have hx := B.exec
  have hb := B.bytes
  have hr := B.returns
  have hts := atoms_spec (ws := wsX3_tick) B.pre
  have hown : s.vm.findClass RX3 = some m.cls := findClass_of_methodNamed B.named
  have hlocks := B.notSynchronized
  have hK := hE.2.1
  have hS : va_S (fun q => h0 ≤ q) s.heap s.heap [] := va_S.rf
  have hl := lv_entry ([.ref (G 3), .int x]) (n := 3) (Nat.le_of_ble_eq_true rfl)
  rw [lg_entry_eq]
  generalize (lg_sl ([.ref (G 3), .int x]) ++ List.replicate (3 - (lg_sl ([.ref (G 3), .int x])).length) Slot.unset).toArray = ls at hl ⊢
  have hl : lv_has ls 3 [(0, .ref (G 3)), (1, .int x)] := hl
  have inX3 : ∀ w ∈ wsX30, w ∈ wsX3_tick := by decide +kernel
  obtain ⟨Q, hQ⟩ : ∃ Q, Q = MQ below (va_Qi (fun (v9 : Int32) (u9 : Nat → Nat → Nat) => (¬ inR x 1 200 ∧ u9 = up2 r 30 22 1) ∨ (inR x 1 200 ∧ r 30 13 = 0 ∧ u9 = up2 r 30 22 2) ∨ (∃ t i, (1 ≤ t ∧ t ≤ 200) ∧ x = nI t ∧ r 30 13 ≠ 0 ∧ i ≤ t ∧ (∀ j, j < i → r_tkI (up2 r 30 22 0) j 30 13 ≠ 0) ∧ (i = t ∨ r_tkI (up2 r 30 22 0) i 30 13 = 0) ∧ v9 = nI i ∧ u9 = r_tkI (up2 r 30 22 0) i)) (fun (u9 : Nat → Nat → Nat) t => Wr D G h0 c u9 o t) (fun q => h0 ≤ q)) ([.ref (G 3), .int x] : List Value).toArray s 0 0 (fun q => h0 ≤ q) := ⟨_, rfl⟩
  rw [← hQ]
  have hBr := IR_B hI
  have hn := IR_n hI
  have hs := IR_s hI
  refine lv_aload_n hx hb dX3_tick_0 rfl (lv_at hl 0 rfl) ?_
  refine lv_iload_n hx hb dX3_tick_1 rfl (lv_at hl 1 rfl) ?_
  refine lv_iconst (v := nI 1) hx hb dX3_tick_2 (by decide) ?_
  refine lv_sipush (v := nI 200) hx hb dX3_tick_3 (by decide) ?_
  refine y_calli (va_runS (As := [.int x, .int (nI 1), .int (nI 200)]) (rest := [.ref (G 3)]) ⟨hx, hb, hml, hown, hts⟩ (k_X3_isIn l D G h0 c r o x (nI 1) (nI 200)) (va_cwS 3 hts gX3_tick_X3_isIn rfl rfl rfl (by decide +kernel) ⟨Nat.le_of_ble_eq_true rfl, Nat.le_of_ble_eq_true rfl⟩) ⟨fun a U g mk q => ⟨q.1, Pr_cg q.2⟩, fun U hU hW => ⟨rfl, Pr_mk hE hRc hRr hRo hP hD hS hU hW⟩⟩ rfl rfl hl.1 rfl (lv_room (Nat.le_of_ble_eq_true rfl)) dX3_tick_6 ⟨Nat.le_of_ble_eq_true rfl, Nat.le_of_ble_eq_true rfl⟩) hS (fun v9 _ H locs wl hv9 hRc hRr hRo hP hD hS => ?_)
  refine n_top (y := .int (nI (bN (inR x 1 200)))) (congrArg Value.int hv9) ?_
  clear hv9 v9
  refine n_ifb_ne (tgt := 16) hx hb dX3_tick_9 (by decide) (fun c_9 => ?_) (fun c_9 => ?_)
  · obtain ⟨t_x, ht_x, hx_x⟩ := inR_nI c_9 (by decide) (by decide)
    refine lv_aload_n hx hb dX3_tick_16 rfl (lv_at hl 0 rfl) ?_
    refine va_get (D := D) (ci := 4) (v := .int (nI (r 30 13))) (C := RX3) (T := TX3) (N := 23) hx hb hts inX3 hown hK hP 3 (Q_m hRr) rfl 13 (by decide) (hts (.fieldLink RX3 67 "BootStageModel" "goesOn" "Z") (by decide +kernel)) (fun _ h9 => h9) rfl dX3_tick_17 ?_
    refine n_if_eq (tgt := 27) hx hb dX3_tick_20 (by decide) (hBr _ _ (by decide)) (fun c_20 => ?_) (fun c_20 => ?_)
    · refine lv_iconst (v := nI 2) hx hb dX3_tick_27 (by decide) ?_
      refine y_calli (va_runV (As := [.int (nI 2)]) (rest := []) ⟨hx, hb, hml, hown, hts⟩ (k_X3_goes l D G h0 c r o 2 (by decide)) (cwV 1 hts gX3_tick_X3_goes rfl rfl rfl (by decide +kernel) ⟨Nat.le_of_ble_eq_true rfl, Nat.le_of_ble_eq_true rfl⟩) ⟨fun a U g mk q => ⟨q.1, Pr_cg q.2⟩, va_recv (ci := 4) (q0 := 3) hK hP rfl (Q_m hRr), fun U hU hW => ⟨rfl, Pr_mk hE hRc hRr hRo hP hD hS hU hW⟩⟩ rfl rfl hl.1 rfl (lv_room (Nat.le_of_ble_eq_true rfl)) dX3_tick_28 ⟨Nat.le_of_ble_eq_true rfl, Nat.le_of_ble_eq_true rfl⟩) hS (fun v9 _ H locs wl hv9 hRc hRr hRo hP hD hS => ?_)
      refine n_top (y := .int (nI 0)) (congrArg Value.int (hv9.trans (congrArg nI (bN_f (by decide))))) ?_
      clear hv9 v9
      refine n_if_ne (tgt := 36) hx hb dX3_tick_31 (by decide) (by decide) (fun c_31 => absurd c_31 (by decide)) (fun c_31 => ?_)
      refine lv_iconst (v := nI 0) hx hb dX3_tick_34 (by decide) ?_
      rw [hQ]
      have hrel : (fun (v9 : Int32) (u9 : Nat → Nat → Nat) => (¬ inR x 1 200 ∧ u9 = up2 r 30 22 1) ∨ (inR x 1 200 ∧ r 30 13 = 0 ∧ u9 = up2 r 30 22 2) ∨ (∃ t i, (1 ≤ t ∧ t ≤ 200) ∧ x = nI t ∧ r 30 13 ≠ 0 ∧ i ≤ t ∧ (∀ j, j < i → r_tkI (up2 r 30 22 0) j 30 13 ≠ 0) ∧ (i = t ∨ r_tkI (up2 r 30 22 0) i 30 13 = 0) ∧ v9 = nI i ∧ u9 = r_tkI (up2 r 30 22 0) i)) (nI 0) (up2 r 30 22 2) := by exact Or.inr (Or.inl ⟨by rw [hx_x]; exact inR_of ht_x.1 ht_x.2 (by decide), c_20, rfl⟩)
      exact W.iret (v := nI 0) hx hb hr (fun t ht hW => ⟨⟨_, (up2 r 30 22 2), rfl, hrel, Wr_mk hRc hRr hRo hP hD ht⟩, hS.F ht⟩) hS.2.2 dX3_tick_35
    · refine lv_iconst (v := nI 0) hx hb dX3_tick_23 (by decide) ?_
      refine lv_goto (tgt := 28) hx hb dX3_tick_24 (by decide) ?_
      refine y_calli (va_runV (As := [.int (nI 0)]) (rest := []) ⟨hx, hb, hml, hown, hts⟩ (k_X3_goes l D G h0 c r o 0 (by decide)) (cwV 1 hts gX3_tick_X3_goes rfl rfl rfl (by decide +kernel) ⟨Nat.le_of_ble_eq_true rfl, Nat.le_of_ble_eq_true rfl⟩) ⟨fun a U g mk q => ⟨q.1, Pr_cg q.2⟩, va_recv (ci := 4) (q0 := 3) hK hP rfl (Q_m hRr), fun U hU hW => ⟨rfl, Pr_mk hE hRc hRr hRo hP hD hS hU hW⟩⟩ rfl rfl hl.1 rfl (lv_room (Nat.le_of_ble_eq_true rfl)) dX3_tick_28 ⟨Nat.le_of_ble_eq_true rfl, Nat.le_of_ble_eq_true rfl⟩) hS (fun v9 _ H locs wl hv9 hRc hRr hRo hP hD hS => ?_)
      refine n_top (y := .int (nI 1)) (congrArg Value.int (hv9.trans (congrArg nI (bN_t rfl)))) ?_
      clear hv9 v9
      refine n_if_ne (tgt := 36) hx hb dX3_tick_31 (by decide) (by decide) (fun c_31 => ?_) (fun c_31 => absurd c_31 (by decide))
      refine lv_iconst (v := nI 0) hx hb dX3_tick_36 (by decide) ?_
      refine lv_istore_n (lv' := [(2, .int (nI 0)), (0, .ref (G 3)), (1, .int x)]) hx hb dX3_tick_37 rfl hl (by decide) rfl (fun ls hl => ?_)
      have L38 : ∀ (d i : Nat), t_x - i < d → i ≤ t_x → ∀ (r1 : Nat → Nat → Nat), (r1 = r_tkI (up2 r 30 22 0) i) → (∀ j, j < i → r_tkI (up2 r 30 22 0) j 30 13 ≠ 0) → ∀ (H : Heap) (locs : List Loc) (wl : va_W) (ls : Array Slot), Rc G c wl → Rr G r1 wl → Ro G o wl → va_P D vwCl wl H → va_D (fun q => h0 ≤ q) wl → va_S (fun q => h0 ≤ q) s.heap H locs → lv_has ls 3 [(2, .int (nI i)), (0, .ref (G 3)), (1, .int x)] → W p l e (headSpec wsX3_tick ({ frames := 5, cells := 0, slots := 0, locals := 113 } : Room)).room s m ([.ref (G 3), .int x] : List Value).toArray below meth cd H locs 0 0 Q (F0 m 38 ls []) := by
        intro d38
        induction d38 with
        | zero => intro i hd; exact absurd hd (Nat.not_lt_zero _)
        | succ d38 ih38 =>
          intro i hd hi r1  hc1 hgo H locs wl ls hRc hRr hRo hP hD hS hl
          have hI1 : IR r1 := by rw [hc1]; exact IR_tkI (IR_obj hI (Or.inr (Or.inr (Or.inr (Or.inr (Or.inr (Or.inr ⟨rfl, by decide⟩))))))) i
          have hBr1 := IR_B hI1
          refine lv_iload_n hx hb dX3_tick_38 rfl (lv_at hl 0 rfl) ?_
          refine lv_iload_n hx hb dX3_tick_39 rfl (lv_at hl 2 rfl) ?_
          refine n_top (y := .int (nI t_x)) (congrArg Value.int hx_x) ?_
          refine n_icmp_ge (tgt := 60) hx hb dX3_tick_40 (by decide) (by omega) (by omega) (fun c_40 => ?_) (fun c_40 => ?_)
          · refine lv_iload_n hx hb dX3_tick_60 rfl (lv_at hl 0 rfl) ?_
            rw [hQ]
            have hrel : (fun (v9 : Int32) (u9 : Nat → Nat → Nat) => (¬ inR x 1 200 ∧ u9 = up2 r 30 22 1) ∨ (inR x 1 200 ∧ r 30 13 = 0 ∧ u9 = up2 r 30 22 2) ∨ (∃ t i, (1 ≤ t ∧ t ≤ 200) ∧ x = nI t ∧ r 30 13 ≠ 0 ∧ i ≤ t ∧ (∀ j, j < i → r_tkI (up2 r 30 22 0) j 30 13 ≠ 0) ∧ (i = t ∨ r_tkI (up2 r 30 22 0) i 30 13 = 0) ∧ v9 = nI i ∧ u9 = r_tkI (up2 r 30 22 0) i)) (nI i) r1 := by exact Or.inr (Or.inr ⟨t_x, i, ht_x, hx_x, Nat.ne_of_gt c_20, hi, hgo, Or.inl (by omega), rfl, hc1⟩)
            exact W.iret (v := nI i) hx hb hr (fun t ht hW => ⟨⟨_, r1, rfl, hrel, Wr_mk hRc hRr hRo hP hD ht⟩, hS.F ht⟩) hS.2.2 dX3_tick_61
          · refine lv_aload_n hx hb dX3_tick_43 rfl (lv_at hl 1 rfl) ?_
            refine va_get (D := D) (ci := 4) (v := .int (nI (r1 30 13))) (C := RX3) (T := TX3) (N := 23) hx hb hts inX3 hown hK hP 3 (Q_m hRr) rfl 13 (by decide) (hts (.fieldLink RX3 67 "BootStageModel" "goesOn" "Z") (by decide +kernel)) (fun _ h9 => h9) rfl dX3_tick_44 ?_
            refine n_if_eq (tgt := 60) hx hb dX3_tick_47 (by decide) (hBr1 _ _ (by decide)) (fun c_47 => ?_) (fun c_47 => ?_)
            · refine lv_iload_n hx hb dX3_tick_60 rfl (lv_at hl 0 rfl) ?_
              rw [hQ]
              have hrel : (fun (v9 : Int32) (u9 : Nat → Nat → Nat) => (¬ inR x 1 200 ∧ u9 = up2 r 30 22 1) ∨ (inR x 1 200 ∧ r 30 13 = 0 ∧ u9 = up2 r 30 22 2) ∨ (∃ t i, (1 ≤ t ∧ t ≤ 200) ∧ x = nI t ∧ r 30 13 ≠ 0 ∧ i ≤ t ∧ (∀ j, j < i → r_tkI (up2 r 30 22 0) j 30 13 ≠ 0) ∧ (i = t ∨ r_tkI (up2 r 30 22 0) i 30 13 = 0) ∧ v9 = nI i ∧ u9 = r_tkI (up2 r 30 22 0) i)) (nI i) r1 := by exact Or.inr (Or.inr ⟨t_x, i, ht_x, hx_x, Nat.ne_of_gt c_20, hi, hgo, Or.inr (by rw [← hc1]; exact c_47), rfl, hc1⟩)
              exact W.iret (v := nI i) hx hb hr (fun t ht hW => ⟨⟨_, r1, rfl, hrel, Wr_mk hRc hRr hRo hP hD ht⟩, hS.F ht⟩) hS.2.2 dX3_tick_61
            · refine lv_aload_n hx hb dX3_tick_50 rfl (lv_at hl 1 rfl) ?_
              refine y_callv (va_runV (As := []) (rest := []) ⟨hx, hb, hml, hown, hts⟩ (k_X3_passes l D G h0 c r1 o hI1) (cwV 0 hts gX3_tick_X3_passes rfl rfl rfl (by decide +kernel) ⟨Nat.le_of_ble_eq_true rfl, Nat.le_of_ble_eq_true rfl⟩) ⟨fun a U g mk q => ⟨q.1, Pr_cg q.2⟩, va_recv (ci := 4) (q0 := 3) hK hP rfl (Q_m hRr), fun U hU hW => ⟨rfl, Pr_mk hE hRc hRr hRo hP hD hS hU hW⟩⟩ rfl rfl hl.1 rfl (lv_room (Nat.le_of_ble_eq_true rfl)) dX3_tick_51 ⟨Nat.le_of_ble_eq_true rfl, Nat.le_of_ble_eq_true rfl⟩) hS (fun _ H locs wl _ hRc hRr hRo hP hD hS => ?_)
              refine lv_iinc (v := nI (i + 1)) (lv' := [(2, .int (nI (i + 1))), (0, .ref (G 3)), (1, .int x)]) hx hb dX3_tick_54 hl (k := 0) rfl (nI_add i 1) (by decide) rfl (fun ls hl => ?_)
              refine lv_goto (tgt := 38) hx hb dX3_tick_57 (by decide) ?_
              exact ih38 (i + 1) (by omega) (by omega) (r_tick1 r1) (by show r_tick1 r1 = r_tick1 (r_tkI _ i); rw [hc1]) (by intro j hj; rcases Nat.lt_or_ge j i with e | e; exact hgo j e; rw [show j = i by omega, ← hc1]; exact Nat.ne_of_gt c_47) _ _ _ _ hRc hRr hRo hP hD hS (lv_sub hl [0, 1, 2] rfl)
      exact L38 _ 0 (Nat.lt_succ_self _) (by omega) (up2 r 30 22 0) (by rfl) (by intro j hj; exact absurd hj (Nat.not_lt_zero j)) _ _ _ _ hRc hRr hRo hP hD hS (lv_sub hl [0, 1, 2] rfl)
  · refine lv_iconst (v := nI 1) hx hb dX3_tick_12 (by decide) ?_
    refine lv_goto (tgt := 28) hx hb dX3_tick_13 (by decide) ?_
    refine y_calli (va_runV (As := [.int (nI 1)]) (rest := []) ⟨hx, hb, hml, hown, hts⟩ (k_X3_goes l D G h0 c r o 1 (by decide)) (cwV 1 hts gX3_tick_X3_goes rfl rfl rfl (by decide +kernel) ⟨Nat.le_of_ble_eq_true rfl, Nat.le_of_ble_eq_true rfl⟩) ⟨fun a U g mk q => ⟨q.1, Pr_cg q.2⟩, va_recv (ci := 4) (q0 := 3) hK hP rfl (Q_m hRr), fun U hU hW => ⟨rfl, Pr_mk hE hRc hRr hRo hP hD hS hU hW⟩⟩ rfl rfl hl.1 rfl (lv_room (Nat.le_of_ble_eq_true rfl)) dX3_tick_28 ⟨Nat.le_of_ble_eq_true rfl, Nat.le_of_ble_eq_true rfl⟩) hS (fun v9 _ H locs wl hv9 hRc hRr hRo hP hD hS => ?_)
    refine n_top (y := .int (nI 0)) (congrArg Value.int (hv9.trans (congrArg nI (bN_f (by decide))))) ?_
    clear hv9 v9
    refine n_if_ne (tgt := 36) hx hb dX3_tick_31 (by decide) (by decide) (fun c_31 => absurd c_31 (by decide)) (fun c_31 => ?_)
    refine lv_iconst (v := nI 0) hx hb dX3_tick_34 (by decide) ?_
    rw [hQ]
    have hrel : (fun (v9 : Int32) (u9 : Nat → Nat → Nat) => (¬ inR x 1 200 ∧ u9 = up2 r 30 22 1) ∨ (inR x 1 200 ∧ r 30 13 = 0 ∧ u9 = up2 r 30 22 2) ∨ (∃ t i, (1 ≤ t ∧ t ≤ 200) ∧ x = nI t ∧ r 30 13 ≠ 0 ∧ i ≤ t ∧ (∀ j, j < i → r_tkI (up2 r 30 22 0) j 30 13 ≠ 0) ∧ (i = t ∨ r_tkI (up2 r 30 22 0) i 30 13 = 0) ∧ v9 = nI i ∧ u9 = r_tkI (up2 r 30 22 0) i)) (nI 0) (up2 r 30 22 1) := by exact Or.inl ⟨c_9, rfl⟩
    exact W.iret (v := nI 0) hx hb hr (fun t ht hW => ⟨⟨_, (up2 r 30 22 1), rfl, hrel, Wr_mk hRc hRr hRo hP hD ht⟩, hS.F ht⟩) hS.2.2 dX3_tick_35
