theorem mk_none {P : Nat → Prop} : ∀ {n : Nat}, (∀ w, w < n → ¬ P w) → mk P n = 0
  | 0, _ => rfl
  | n + 1, h => by rw [mk_f (h n (Nat.lt_succ_self n))]; exact mk_none (fun w hw => h w (by omega))
set_option maxHeartbeats 4000000 in
set_option maxRecDepth 100000 in
theorem k_L_isBegun (l : Launch) (D : va_G) (G : Nat → Nat) (h0 : Nat) (c r : Nat → Nat → Nat) (o : Nat) (ρ : Nat → Nat → Nat) (q : Nat) (hq : q ≤ 500) (hLI : LI c r ρ q) (hg : c 20 3 = 0) (b : Nat) (hb1 : 1 ≤ b) (hb20 : b ≤ 20) : Met l yL_isBegun wsL_isBegun ({ frames := 7, cells := 0, slots := 0, locals := 158 } : Room) (va_Pc [.ref (G 0), .ref (G 3), .ref (G 4), .ref (G 6), .int (nI b)] (fun U => Pr D G h0 c r o U)) (va_Qi (fun (v9 : Int32) (u9 : Nat → Nat → Nat) => v9 = nI 1 ∧ ∃ ρ9, LI (c_begin c b) u9 ρ9 (q + 1)) (fun (u9 : Nat → Nat → Nat) t => Wr D G h0 (c_begin c b) u9 o t) (fun q => h0 ≤ q)) 0 0 (fun q => h0 ≤ q) := by
  refine Met.ofW (cc := cL_isBegun) (maxL := 9) (ret := (some .boolean)) (by decide) rfl ?_
  intro p e s m args below meth cd s₁ B hml hv
  obtain ⟨rfl, hE, wl, hRc, hRr, hRo, hP, hD⟩ := hv
  have hx := B.exec
  have hb := B.bytes
  have hr := B.returns
  have hts := atoms_spec (ws := wsL_isBegun) B.pre
  have hown : s.vm.findClass RL = some m.cls := findClass_of_methodNamed B.named
  have hlocks := B.notSynchronized
  have hK := hE.2.1
  have hS : va_S (fun q => h0 ≤ q) s.heap s.heap [] := va_S.rf
  have hl := lv_entry ([.ref (G 0), .ref (G 3), .ref (G 4), .ref (G 6), .int (nI b)]) (n := 9) (Nat.le_of_ble_eq_true rfl)
  rw [lg_entry_eq]
  generalize (lg_sl ([.ref (G 0), .ref (G 3), .ref (G 4), .ref (G 6), .int (nI b)]) ++ List.replicate (9 - (lg_sl ([.ref (G 0), .ref (G 3), .ref (G 4), .ref (G 6), .int (nI b)])).length) Slot.unset).toArray = ls at hl ⊢
  have hl : lv_has ls 9 [(0, .ref (G 0)), (1, .ref (G 3)), (2, .ref (G 4)), (3, .ref (G 6)), (4, .int (nI b))] := hl
  obtain ⟨Q, hQ⟩ : ∃ Q, Q = MQ below (va_Qi (fun (v9 : Int32) (u9 : Nat → Nat → Nat) => v9 = nI 1 ∧ ∃ ρ9, LI (c_begin c b) u9 ρ9 (q + 1)) (fun (u9 : Nat → Nat → Nat) t => Wr D G h0 (c_begin c b) u9 o t) (fun q => h0 ≤ q)) ([.ref (G 0), .ref (G 3), .ref (G 4), .ref (G 6), .int (nI b)] : List Value).toArray s 0 0 (fun q => h0 ≤ q) := ⟨_, rfl⟩
  rw [← hQ]
  have hV := hLI.1
  have hI := hV.1
  have hn8 := hLI.2.1
  have hBr := hLI.2.2.1
  have hGs := hLI.2.2.2.2.1
  have hB := IC_B hI
  have hn := IC_n hI
  have e0 : ρ 30 0 = c 20 1 := hV.2.2.1.2.2.2.2.2.1.1
  have hWS := WSp_inv hV (by omega)
  have hW5 : c 30 0 ≤ 512 := Nat.le_trans hV.2.2.2 (by omega)
  have h14b : ∀ u, u < c 20 1 → r 14 u < 2 ^ c 20 1 := fun u hu => by rw [(hGs.1 u (by omega)).2.1]; exact IC_7 hI u
  have hE7 : ∀ u v, u < c 20 1 → v < c 20 1 → ((r 14 u).testBit v = true ↔ 0 < ρ 7 (20 * u + v)) := fun u v hu hv => by rw [(hGs.1 u (by omega)).2.1]; exact (hV.2.2.1.2.2.2.1 u v (by omega) (by omega)).1
  refine lv_aload_n hx hb dL_isBegun_0 rfl (lv_at hl 1 rfl) ?_
  refine lv_aload_n hx hb dL_isBegun_1 rfl (lv_at hl 2 rfl) ?_
  refine lv_aload_n hx hb dL_isBegun_2 rfl (lv_at hl 0 rfl) ?_
  refine y_calli (va_runV (As := []) (rest := [.ref (G 4), .ref (G 3)]) ⟨hx, hb, hml, hown, hts⟩ (k_X2_units l D G h0 c r o ) (cwV 0 hts gL_isBegun_X2_units rfl rfl rfl (by decide +kernel) ⟨Nat.le_of_ble_eq_true rfl, Nat.le_of_ble_eq_true rfl⟩) ⟨fun a U g mk q => ⟨q.1, Pr_cg q.2⟩, va_recv (ci := 3) (q0 := 0) hK hP rfl (Q_o hRc), fun U hU hW => ⟨rfl, Pr_mk hE hRc hRr hRo hP hD hS hU hW⟩⟩ rfl rfl hl.1 rfl (lv_room (Nat.le_of_ble_eq_true rfl)) dL_isBegun_3 ⟨Nat.le_of_ble_eq_true rfl, Nat.le_of_ble_eq_true rfl⟩) hS (fun v9 _ H locs wl hv9 hRc hRr hRo hP hD hS => ?_)
  refine n_top (y := .int (nI (c 20 1))) (congrArg Value.int hv9) ?_
  clear hv9 v9
  refine y_calli (va_runS (As := [.ref (G 3), .ref (G 4), .int (nI (c 20 1))]) (rest := []) ⟨hx, hb, hml, hown, hts⟩ (k_L_cut l D G h0 c r o (c 20 1) hn8 ρ hV.2.1 e0 h14b hE7 hLI.2.2.2.1 hWS hBr) (va_cwS 3 hts gL_isBegun_L_cut rfl rfl rfl (by decide +kernel) ⟨Nat.le_of_ble_eq_true rfl, Nat.le_of_ble_eq_true rfl⟩) ⟨fun a U g mk q => ⟨q.1, Pr_cg q.2⟩, fun U hU hW => ⟨rfl, Pr_mk hE hRc hRr hRo hP hD hS hU hW⟩⟩ rfl rfl hl.1 rfl (lv_room (Nat.le_of_ble_eq_true rfl)) dL_isBegun_6 ⟨Nat.le_of_ble_eq_true rfl, Nat.le_of_ble_eq_true rfl⟩) hS (fun v9 u_6 H locs wl hv9 hRc hRr hRo hP hD hS => ?_)
  obtain ⟨J, hv9, hc1, hc2, hc3, hc4, hc5, hc6⟩ := hv9
  refine n_top (y := .int (nI J)) (congrArg Value.int hv9) ?_
  clear hv9
  refine lv_istore (lv' := [(5, .int (nI J)), (0, .ref (G 0)), (1, .ref (G 3)), (2, .ref (G 4)), (3, .ref (G 6)), (4, .int (nI b))]) hx hb dL_isBegun_9 hl (by decide) rfl (fun ls hl => ?_)
  refine lv_aload_n hx hb dL_isBegun_11 rfl (lv_at hl 4 rfl) ?_
  refine lv_iconst (v := nI 0) hx hb dL_isBegun_12 (by decide) ?_
  refine lv_iload hx hb dL_isBegun_13 (lv_at hl 5 rfl) ?_
  refine x_iast (Z := fun wl => Rc G c wl ∧ Rr G (up2 u_6 4 0 b) wl ∧ Ro G o wl) hx hb hK hP hD hS 6 (Q_a4 hRr) (by first | omega | decide | assumption) (by decide) dL_isBegun_15 ⟨Rc_fr hRc (by decide) (by decide), P_a4 (r := u_6) b (by first | omega | decide | assumption) hRr, ⟨rfl, rfl, rfl⟩⟩ (fun H locs wl hZ hP hD hS => ?_)
  obtain ⟨hRc, hRr, hRo⟩ := hZ
  refine lv_aload_n hx hb dL_isBegun_16 rfl (lv_at hl 4 rfl) ?_
  refine lv_iconst (v := nI 1) hx hb dL_isBegun_17 (by decide) ?_
  refine lv_iconst (v := nI 0) hx hb dL_isBegun_18 (by decide) ?_
  refine x_iast (Z := fun wl => Rc G c wl ∧ Rr G (up2 (up2 u_6 4 0 b) 4 1 0) wl ∧ Ro G o wl) hx hb hK hP hD hS 6 (Q_a4 hRr) (by first | omega | decide | assumption) (by decide) dL_isBegun_19 ⟨Rc_fr hRc (by decide) (by decide), P_a4 (r := (up2 u_6 4 0 b)) 0 (by first | omega | decide | assumption) hRr, ⟨rfl, rfl, rfl⟩⟩ (fun H locs wl hZ hP hD hS => ?_)
  obtain ⟨hRc, hRr, hRo⟩ := hZ
  refine lv_aload_n hx hb dL_isBegun_20 rfl (lv_at hl 1 rfl) ?_
  refine lv_bipush (v := nI 7) hx hb dL_isBegun_21 (by decide) ?_
  refine lv_iload hx hb dL_isBegun_23 (lv_at hl 5 rfl) ?_
  refine lv_iconst (v := nI 0) hx hb dL_isBegun_25 (by decide) ?_
  refine lv_iconst (v := nI 0) hx hb dL_isBegun_26 (by decide) ?_
  refine y_calli (va_SW (As := [.ref (G 0), .int (nI 7), .int (nI b), .int (nI 0), .int (nI 0)]) (rest := []) hx hb hml hown hts (k_L_act_begin_ok l D G h0 c (up2 (up2 u_6 4 0 b) 4 1 0) o (nI 0) (nI 0) hI hW5 b hb1 hb20 hg) (vx_cwSW 5 hts gL_isBegun_L_act rfl rfl rfl (by decide +kernel) ⟨(Nat.le_of_ble_eq_true rfl), (Nat.le_of_ble_eq_true rfl)⟩) (fun a U g mk q => ⟨q.1, Pr_cg q.2⟩) (fun U hU hW => ⟨rfl, Pr_mk hE hRc hRr hRo hP hD hS hU hW⟩) rfl hl.1 rfl (lv_room (Nat.le_of_ble_eq_true rfl)) dL_isBegun_27 (Nat.le_of_ble_eq_true rfl) (Nat.le_of_ble_eq_true rfl)) hS (fun v9 C H locs wl hv9 hRc hRr hRo hP hD hS => ?_)
  have hJ := (Inv_begin (ρ := cutI (r_clr (up2 ρ 30 22 0) 400) J) hV ⟨hb1, hb20⟩ (fun _ _ _ => rfl) (fun i => (IR_U (IR_cutI (IR_c0 hV.2.1) J) i).2.2.2.2.2.2.2.2.2.2) hc3 hc4).1
  refine n_top (y := .int (nI J)) (congrArg Value.int (hv9.1.trans (congrArg nI hJ))) ?_
  have hC : C = c_begin c b := hv9.2
  clear hv9
  obtain ⟨b1, b2, b3, b4, b5, b6, b7, b8⟩ := beg_v hI hb20
  rw [← hC] at b1 b2 b3 b4 b5 b6 b7 b8
  have hI2 : IC C := by rw [hC]; exact (Inv_begin (ρ := cutI (r_clr (up2 ρ 30 22 0) 400) J) hV ⟨hb1, hb20⟩ (fun _ _ _ => rfl) (fun i => (IR_U (IR_cutI (IR_c0 hV.2.1) J) i).2.2.2.2.2.2.2.2.2.2) hc3 hc4).2.1.1
  have hB2 := IC_B hI2
  have hn8C : C 20 1 ≤ 8 := by omega
  have hg1 : C 20 3 ≤ 1 := by omega
  have hmk0 : mk (fun w => C 9 w = 2) (C 20 1) = 0 := by rw [b3]; exact mk_none (fun w hw => by rw [(b2 w hw).1]; split <;> decide)
  refine lv_iload hx hb dL_isBegun_30 (lv_at hl 0 rfl) ?_
  refine n_icmp_ne (tgt := 53) hx hb dL_isBegun_32 (by decide) (by omega) (by omega) (fun c_32 => ?_) (fun c_32 => ?_)
  · exfalso; exact c_32 rfl
  · refine lv_aload_n hx hb dL_isBegun_35 rfl (lv_at hl 1 rfl) ?_
    refine y_calli (va_runV (As := []) (rest := []) ⟨hx, hb, hml, hown, hts⟩ (k_X2_goesOn l D G h0 C (up2 (up2 u_6 4 0 b) 4 1 0) o hg1) (cwV 0 hts gL_isBegun_X2_goesOn rfl rfl rfl (by decide +kernel) ⟨Nat.le_of_ble_eq_true rfl, Nat.le_of_ble_eq_true rfl⟩) ⟨fun a U g mk q => ⟨q.1, Pr_cg q.2⟩, va_recv (ci := 3) (q0 := 0) hK hP rfl (Q_o hRc), fun U hU hW => ⟨rfl, Pr_mk hE hRc hRr hRo hP hD hS hU hW⟩⟩ rfl rfl hl.1 rfl (lv_room (Nat.le_of_ble_eq_true rfl)) dL_isBegun_36 ⟨Nat.le_of_ble_eq_true rfl, Nat.le_of_ble_eq_true rfl⟩) hS (fun v9 _ H locs wl hv9 hRc hRr hRo hP hD hS => ?_)
    refine n_top (y := .int (nI (C 20 3))) (congrArg Value.int hv9) ?_
    clear hv9 v9
    refine n_if_eq (tgt := 53) hx hb dL_isBegun_39 (by decide) (hB2 _ _ (by decide)) (fun c_39 => ?_) (fun c_39 => ?_)
    · exfalso; omega
    · refine lv_aload_n hx hb dL_isBegun_42 rfl (lv_at hl 1 rfl) ?_
      refine y_calli (va_runV (As := []) (rest := []) ⟨hx, hb, hml, hown, hts⟩ (k_X2_ready l D G h0 C (up2 (up2 u_6 4 0 b) 4 1 0) o hI2) (cwV 0 hts gL_isBegun_X2_ready rfl rfl rfl (by decide +kernel) ⟨Nat.le_of_ble_eq_true rfl, Nat.le_of_ble_eq_true rfl⟩) ⟨fun a U g mk q => ⟨q.1, Pr_cg q.2⟩, va_recv (ci := 3) (q0 := 0) hK hP rfl (Q_o hRc), fun U hU hW => ⟨rfl, Pr_mk hE hRc hRr hRo hP hD hS hU hW⟩⟩ rfl rfl hl.1 rfl (lv_room (Nat.le_of_ble_eq_true rfl)) dL_isBegun_43 ⟨Nat.le_of_ble_eq_true rfl, Nat.le_of_ble_eq_true rfl⟩) hS (fun v9 _ H locs wl hv9 hRc hRr hRo hP hD hS => ?_)
      refine n_top (y := .int (nI (mk (fun w => C 9 w = 2) (C 20 1)))) (congrArg Value.int hv9) ?_
      clear hv9 v9
      refine n_if_ne (tgt := 53) hx hb dL_isBegun_46 (by decide) (by rw [hmk0]; decide) (fun c_46 => ?_) (fun c_46 => ?_)
      · exfalso; omega
      · refine lv_iconst (v := nI 1) hx hb dL_isBegun_49 (by decide) ?_
        refine lv_goto (tgt := 54) hx hb dL_isBegun_50 (by decide) ?_
        refine lv_istore (lv' := [(6, .int (nI 1)), (5, .int (nI J)), (0, .ref (G 0)), (1, .ref (G 3)), (2, .ref (G 4)), (3, .ref (G 6)), (4, .int (nI b))]) hx hb dL_isBegun_54 hl (by decide) rfl (fun ls hl => ?_)
        refine lv_iconst (v := nI 0) hx hb dL_isBegun_56 (by decide) ?_
        refine lv_istore (lv' := [(7, .int (nI 0)), (6, .int (nI 1)), (5, .int (nI J)), (0, .ref (G 0)), (1, .ref (G 3)), (2, .ref (G 4)), (3, .ref (G 6)), (4, .int (nI b))]) hx hb dL_isBegun_57 hl (by decide) rfl (fun ls hl => ?_)
        have L59 : ∀ (d i : Nat), C 20 1 - i < d → i ≤ C 20 1 → ∀ (r2 : Nat → Nat → Nat), (∀ a j, a ≠ 15 → a ≠ 16 → a ≠ 17 → a ≠ 4 → r2 a j = u_6 a j) → (r2 4 0 = b ∧ r2 4 1 = sm (fun u => if c 5 u = 0 then c 3 u else 0) i ∧ r2 4 2 = u_6 4 2) → (∀ k, k < i → r2 16 k = 0 ∧ r2 17 k = c 3 k) → (∀ k, i ≤ k → r2 16 k = r 16 k ∧ r2 17 k = r 17 k) → (BR r2) → ∀ (H : Heap) (locs : List Loc) (wl : va_W) (ls : Array Slot), Rc G C wl → Rr G r2 wl → Ro G o wl → va_P D vwCl wl H → va_D (fun q => h0 ≤ q) wl → va_S (fun q => h0 ≤ q) s.heap H locs → lv_has ls 9 [(7, .int (nI i)), (6, .int (nI 1)), (0, .ref (G 0)), (1, .ref (G 3)), (2, .ref (G 4)), (3, .ref (G 6)), (4, .int (nI b)), (5, .int (nI J))] → W p l e (headSpec wsL_isBegun ({ frames := 7, cells := 0, slots := 0, locals := 158 } : Room)).room s m ([.ref (G 0), .ref (G 3), .ref (G 4), .ref (G 6), .int (nI b)] : List Value).toArray below meth cd H locs 0 0 Q (F0 m 59 ls []) := by
          intro d59
          induction d59 with
          | zero => intro i hd; exact absurd hd (Nat.not_lt_zero _)
          | succ d59 ih59 =>
            intro i hd hi r2  hr2 hm2 hlo hhi hBr2 H locs wl ls hRc hRr hRo hP hD hS hl
            refine lv_iload hx hb dL_isBegun_59 (lv_at hl 0 rfl) ?_
            refine lv_aload_n hx hb dL_isBegun_61 rfl (lv_at hl 2 rfl) ?_
            refine y_calli (va_runV (As := []) (rest := [.int (nI i)]) ⟨hx, hb, hml, hown, hts⟩ (k_X2_units l D G h0 C r2 o ) (cwV 0 hts gL_isBegun_X2_units rfl rfl rfl (by decide +kernel) ⟨Nat.le_of_ble_eq_true rfl, Nat.le_of_ble_eq_true rfl⟩) ⟨fun a U g mk q => ⟨q.1, Pr_cg q.2⟩, va_recv (ci := 3) (q0 := 0) hK hP rfl (Q_o hRc), fun U hU hW => ⟨rfl, Pr_mk hE hRc hRr hRo hP hD hS hU hW⟩⟩ rfl rfl hl.1 rfl (lv_room (Nat.le_of_ble_eq_true rfl)) dL_isBegun_62 ⟨Nat.le_of_ble_eq_true rfl, Nat.le_of_ble_eq_true rfl⟩) hS (fun v9 _ H locs wl hv9 hRc hRr hRo hP hD hS => ?_)
            refine n_top (y := .int (nI (C 20 1))) (congrArg Value.int hv9) ?_
            clear hv9 v9
            refine n_icmp_ge (tgt := 170) hx hb dL_isBegun_65 (by decide) (by omega) (hB2 _ _ (by decide)) (fun c_65 => ?_) (fun c_65 => ?_)
            · have ei : i = c 20 1 := by omega
              have hm1 : r2 4 1 = sm (fun u => if c 5 u = 0 then c 3 u else 0) (c 20 1) := by rw [hm2.2.1, ei]
              refine lv_iload hx hb dL_isBegun_170 (lv_at hl 1 rfl) ?_
              refine n_if_eq (tgt := 199) hx hb dL_isBegun_172 (by decide) (by decide) (fun c_172 => absurd c_172 (by decide)) (fun c_172 => ?_)
              refine lv_aload_n hx hb dL_isBegun_175 rfl (lv_at hl 2 rfl) ?_
              refine y_calli (va_runV (As := []) (rest := []) ⟨hx, hb, hml, hown, hts⟩ (k_X2_bar l D G h0 C r2 o ) (cwV 0 hts gL_isBegun_X2_bar rfl rfl rfl (by decide +kernel) ⟨Nat.le_of_ble_eq_true rfl, Nat.le_of_ble_eq_true rfl⟩) ⟨fun a U g mk q => ⟨q.1, Pr_cg q.2⟩, va_recv (ci := 3) (q0 := 0) hK hP rfl (Q_o hRc), fun U hU hW => ⟨rfl, Pr_mk hE hRc hRr hRo hP hD hS hU hW⟩⟩ rfl rfl hl.1 rfl (lv_room (Nat.le_of_ble_eq_true rfl)) dL_isBegun_176 ⟨Nat.le_of_ble_eq_true rfl, Nat.le_of_ble_eq_true rfl⟩) hS (fun v9 _ H locs wl hv9 hRc hRr hRo hP hD hS => ?_)
              refine n_top (y := .int (nI (C 20 6))) (congrArg Value.int hv9) ?_
              clear hv9 v9
              have J179 : (∀ (H : Heap) (locs : List Loc) (wl : va_W), Rc G C wl → Rr G r2 wl → Ro G o wl → va_P D vwCl wl H → va_D (fun q => h0 ≤ q) wl → va_S (fun q => h0 ≤ q) s.heap H locs → W p l e (headSpec wsL_isBegun ({ frames := 7, cells := 0, slots := 0, locals := 158 } : Room)).room s m ([.ref (G 0), .ref (G 3), .ref (G 4), .ref (G 6), .int (nI b)] : List Value).toArray below meth cd H locs 0 0 Q (F0 m 192 ls [.int (nI (C 20 6)), .int (nI (C 20 6))])) → W p l e (headSpec wsL_isBegun ({ frames := 7, cells := 0, slots := 0, locals := 158 } : Room)).room s m ([.ref (G 0), .ref (G 3), .ref (G 4), .ref (G 6), .int (nI b)] : List Value).toArray below meth cd H locs 0 0 Q (F0 m 179 ls [.int (nI (C 20 6))]) := by
                intro hk179
                refine lv_aload_n hx hb dL_isBegun_179 rfl (lv_at hl 5 rfl) ?_
                refine lv_iconst (v := nI 1) hx hb dL_isBegun_180 (by decide) ?_
                refine x_iald hx hb hK hP 6 (Q_a4 hRr) (by first | omega | decide | assumption) (by decide) dL_isBegun_181 (v := nI (r2 4 1)) rfl ?_
                refine n_if_ne (tgt := 191) hx hb dL_isBegun_182 (by decide) (hBr2 _ _ (by decide)) (fun c_182 => ?_) (fun c_182 => ?_)
                · refine lv_iconst (v := nI 0) hx hb dL_isBegun_191 (by decide) ?_
                  refine n_top (y := .int (nI (C 20 6))) (congrArg Value.int (show nI 0 = nI (C 20 6) from by exact congrArg nI (by rw [b8, if_pos (by omega)]))) ?_
                  exact hk179 _ _ _ hRc hRr hRo hP hD hS
                · refine lv_sipush (v := nI 1000) hx hb dL_isBegun_185 (by decide) ?_
                  refine lv_goto (tgt := 192) hx hb dL_isBegun_188 (by decide) ?_
                  refine n_top (y := .int (nI (C 20 6))) (congrArg Value.int (show nI 1000 = nI (C 20 6) from by exact congrArg nI (by rw [b8, if_neg (by omega)]))) ?_
                  exact hk179 _ _ _ hRc hRr hRo hP hD hS
              refine J179 (fun H locs wl hRc hRr hRo hP hD hS => ?_)
              refine n_icmp_ne (tgt := 199) hx hb dL_isBegun_192 (by decide) (hB2 _ _ (by decide)) (hB2 _ _ (by decide)) (fun c_192 => ?_) (fun c_192 => ?_)
              · exfalso; exact c_192 rfl
              · refine lv_iconst (v := nI 1) hx hb dL_isBegun_195 (by decide) ?_
                refine lv_goto (tgt := 200) hx hb dL_isBegun_196 (by decide) ?_
                rw [hQ]
                have hrel : (fun (v9 : Int32) (u9 : Nat → Nat → Nat) => v9 = nI 1 ∧ ∃ ρ9, LI (c_begin c b) u9 ρ9 (q + 1)) (nI 1) r2 := by exact ⟨rfl, LI_begin hLI ⟨hb1, hb20⟩ (LWr_cg hc2 (fun i => hr2 2 i (by decide) (by decide) (by decide) (by decide)) (fun e => ⟨rfl, rfl, rfl⟩)) hc3 hc4 hBr2 (fun a j ha => (hr2 a j (by omega) (by omega) (by omega) (by omega)).trans (hc1 a j (by omega))) (fun u hu => hlo u (by omega)) (fun u hu => hhi u (by omega)) ⟨hm2.1, hm1, hm2.2.2.trans (hc1 4 2 (by decide))⟩⟩
                exact W.zret (v := nI 1) (ty := .boolean) hx hb hr (nb_le (by first | exact bN_le _ | decide | omega | assumption)) (fun t ht hW => ⟨⟨_, r2, rfl, hrel, Wr_mk (show Rc G (c_begin c b) wl from by rw [show (c_begin c b) = C from by exact hC.symm]; exact hRc) hRr hRo hP hD ht⟩, hS.F ht⟩) hS.2.2 dL_isBegun_200
            · have hiN : i < c 20 1 := by omega
              have e3 : C 3 i = c 3 i := b1 3 i (by decide) (by decide) (by omega)
              have e13 : r2 13 i = c 5 i := by rw [hr2 13 i (by decide) (by decide) (by decide) (by decide), hc1 13 i (by decide)]; exact (hGs.1 i (by omega)).1
              have h51 := (IC_U hI i).2.2.2.2.2.1
              obtain ⟨tl, htl⟩ := Sel_ex (c 5 i = 0) (C 3 i) 0
              have htl0 : tl = (fun u => if c 5 u = 0 then c 3 u else 0) i := by show tl = if c 5 i = 0 then c 3 i else 0; by_cases z : c 5 i = 0; (rw [htl.1 z, if_pos z, e3]); rw [htl.2 z, if_neg z]
              have htlb : tl < 101 := Sel_lt htl (by have h9 := (IC_U hI2 i).2.2.2.1; omega) (by decide)
              have hsmb : sm (fun u => if c 5 u = 0 then c 3 u else 0) i ≤ i * 100 := sm_le (fun u _ => by show (if c 5 u = 0 then c 3 u else 0) ≤ 100; split; exact (IC_U hI u).2.2.2.1; decide)
              have hm21 := hm2.2.1
              refine lv_iload hx hb dL_isBegun_68 (lv_at hl 1 rfl) ?_
              refine n_if_eq (tgt := 170) hx hb dL_isBegun_70 (by decide) (by decide) (fun c_70 => absurd c_70 (by decide)) (fun c_70 => ?_)
              refine lv_bipush (v := nI 8) hx hb dL_isBegun_73 (by decide) ?_
              refine lv_iload hx hb dL_isBegun_75 (lv_at hl 0 rfl) ?_
              refine n_imul hx hb dL_isBegun_77 ?_
              refine lv_istore (lv' := [(8, .int (nI (8 * i))), (7, .int (nI i)), (6, .int (nI 1)), (0, .ref (G 0)), (1, .ref (G 3)), (2, .ref (G 4)), (3, .ref (G 6)), (4, .int (nI b)), (5, .int (nI J))]) hx hb dL_isBegun_78 hl (by decide) rfl (fun ls hl => ?_)
              refine lv_aload_n hx hb dL_isBegun_80 rfl (lv_at hl 4 rfl) ?_
              refine lv_iload hx hb dL_isBegun_81 (lv_at hl 0 rfl) ?_
              refine lv_iconst (v := nI 5) hx hb dL_isBegun_83 (by decide) ?_
              refine n_iadd hx hb dL_isBegun_84 ?_
              refine lv_iconst (v := nI 0) hx hb dL_isBegun_85 (by decide) ?_
              refine x_iast (Z := fun wl => Rc G C wl ∧ Rr G (up2 r2 15 i 0) wl ∧ Ro G o wl) hx hb hK hP hD hS 3 (Q_g hRr) (by first | omega | decide | assumption) (by decide) dL_isBegun_86 ⟨Rc_fr hRc (by decide) (by decide), P_g (r := r2) (k := i) (j := 5) 0 (by decide) (by decide) (by first | omega | decide | assumption) hRr, ⟨rfl, rfl, rfl⟩⟩ (fun H locs wl hZ hP hD hS => ?_)
              obtain ⟨hRc, hRr, hRo⟩ := hZ
              refine lv_aload_n hx hb dL_isBegun_87 rfl (lv_at hl 4 rfl) ?_
              refine lv_iload hx hb dL_isBegun_88 (lv_at hl 0 rfl) ?_
              refine lv_bipush (v := nI 6) hx hb dL_isBegun_90 (by decide) ?_
              refine n_iadd hx hb dL_isBegun_92 ?_
              refine lv_iconst (v := nI 0) hx hb dL_isBegun_93 (by decide) ?_
              refine x_iast (Z := fun wl => Rc G C wl ∧ Rr G (up2 (up2 r2 15 i 0) 16 i 0) wl ∧ Ro G o wl) hx hb hK hP hD hS 3 (Q_g hRr) (by first | omega | decide | assumption) (by decide) dL_isBegun_94 ⟨Rc_fr hRc (by decide) (by decide), P_g (r := (up2 r2 15 i 0)) (k := i) (j := 6) 0 (by decide) (by decide) (by first | omega | decide | assumption) hRr, ⟨rfl, rfl, rfl⟩⟩ (fun H locs wl hZ hP hD hS => ?_)
              obtain ⟨hRc, hRr, hRo⟩ := hZ
              refine lv_aload_n hx hb dL_isBegun_95 rfl (lv_at hl 4 rfl) ?_
              refine lv_iload hx hb dL_isBegun_96 (lv_at hl 0 rfl) ?_
              refine lv_bipush (v := nI 7) hx hb dL_isBegun_98 (by decide) ?_
              refine n_iadd hx hb dL_isBegun_100 ?_
              refine lv_aload_n hx hb dL_isBegun_101 rfl (lv_at hl 3 rfl) ?_
              refine lv_iload hx hb dL_isBegun_102 (lv_at hl 1 rfl) ?_
              refine y_calli (va_runV (As := [.int (nI i)]) (rest := [.int (nI ((8 * i) + 7)), .ref (G 3)]) ⟨hx, hb, hml, hown, hts⟩ (k_X2_learned_ok l D G h0 C (up2 (up2 r2 15 i 0) 16 i 0) o hI2 i (by first | omega | assumption)) (cwV 1 hts gL_isBegun_X2_learned rfl rfl rfl (by decide +kernel) ⟨Nat.le_of_ble_eq_true rfl, Nat.le_of_ble_eq_true rfl⟩) ⟨fun a U g mk q => ⟨q.1, Pr_cg q.2⟩, va_recv (ci := 3) (q0 := 0) hK hP rfl (Q_o hRc), fun U hU hW => ⟨rfl, Pr_mk hE hRc hRr hRo hP hD hS hU hW⟩⟩ rfl rfl hl.1 rfl (lv_room (Nat.le_of_ble_eq_true rfl)) dL_isBegun_104 ⟨Nat.le_of_ble_eq_true rfl, Nat.le_of_ble_eq_true rfl⟩) hS (fun v9 _ H locs wl hv9 hRc hRr hRo hP hD hS => ?_)
              refine n_top (y := .int (nI (C 3 i))) (congrArg Value.int hv9) ?_
              clear hv9 v9
              refine x_iast (Z := fun wl => Rc G C wl ∧ Rr G (up2 (up2 (up2 r2 15 i 0) 16 i 0) 17 i (C 3 i)) wl ∧ Ro G o wl) hx hb hK hP hD hS 3 (Q_g hRr) (by first | omega | decide | assumption) (by decide) dL_isBegun_107 ⟨Rc_fr hRc (by decide) (by decide), P_g (r := (up2 (up2 r2 15 i 0) 16 i 0)) (k := i) (j := 7) (C 3 i) (by decide) (by decide) (by first | omega | decide | assumption) hRr, ⟨rfl, rfl, rfl⟩⟩ (fun H locs wl hZ hP hD hS => ?_)
              obtain ⟨hRc, hRr, hRo⟩ := hZ
              refine lv_aload_n hx hb dL_isBegun_108 rfl (lv_at hl 6 rfl) ?_
              refine lv_iconst (v := nI 1) hx hb dL_isBegun_109 (by decide) ?_
              refine lv_dup2_11 hx hb dL_isBegun_110 rfl rfl ?_
              refine x_iald hx hb hK hP 6 (Q_a4 hRr) (by first | omega | decide | assumption) (by decide) dL_isBegun_111 (v := nI (r2 4 1)) (congrArg nI (show (up2 (up2 (up2 r2 15 i 0) 16 i 0) 17 i (C 3 i)) 4 1 = r2 4 1 from by simp [up2])) ?_
              have J112 : (∀ (H : Heap) (locs : List Loc) (wl : va_W), Rc G C wl → Rr G (up2 (up2 (up2 r2 15 i 0) 16 i 0) 17 i (C 3 i)) wl → Ro G o wl → va_P D vwCl wl H → va_D (fun q => h0 ≤ q) wl → va_S (fun q => h0 ≤ q) s.heap H locs → W p l e (headSpec wsL_isBegun ({ frames := 7, cells := 0, slots := 0, locals := 158 } : Room)).room s m ([.ref (G 0), .ref (G 3), .ref (G 4), .ref (G 6), .int (nI b)] : List Value).toArray below meth cd H locs 0 0 Q (F0 m 131 ls [.int (nI tl), .int (nI (r2 4 1)), .int (nI 1), .ref (G 6)])) → W p l e (headSpec wsL_isBegun ({ frames := 7, cells := 0, slots := 0, locals := 158 } : Room)).room s m ([.ref (G 0), .ref (G 3), .ref (G 4), .ref (G 6), .int (nI b)] : List Value).toArray below meth cd H locs 0 0 Q (F0 m 112 ls [.int (nI (r2 4 1)), .int (nI 1), .ref (G 6)]) := by
                intro hk112
                refine lv_aload_n hx hb dL_isBegun_112 rfl (lv_at hl 4 rfl) ?_
                refine lv_iload hx hb dL_isBegun_113 (lv_at hl 0 rfl) ?_
                refine lv_iconst (v := nI 3) hx hb dL_isBegun_115 (by decide) ?_
                refine n_iadd hx hb dL_isBegun_116 ?_
                refine x_iald hx hb hK hP 3 (Q_g hRr) (by first | omega | decide | assumption) (by decide) dL_isBegun_117 (v := nI (r2 13 i)) ((gV_j _ (k := i) (j := 3) (by decide) (by decide)).trans (congrArg nI (show (up2 (up2 (up2 r2 15 i 0) 16 i 0) 17 i (C 3 i)) 13 i = r2 13 i from by simp [up2]))) ?_
                refine n_if_ne (tgt := 130) hx hb dL_isBegun_118 (by decide) (by rw [e13]; omega) (fun c_118 => ?_) (fun c_118 => ?_)
                · refine lv_iconst (v := nI 0) hx hb dL_isBegun_130 (by decide) ?_
                  refine n_top (y := .int (nI tl)) (congrArg Value.int (show nI 0 = nI tl from by exact congrArg nI (htl.2 (by omega)).symm)) ?_
                  exact hk112 _ _ _ hRc hRr hRo hP hD hS
                · refine lv_aload_n hx hb dL_isBegun_121 rfl (lv_at hl 3 rfl) ?_
                  refine lv_iload hx hb dL_isBegun_122 (lv_at hl 1 rfl) ?_
                  refine y_calli (va_runV (As := [.int (nI i)]) (rest := [.int (nI (r2 4 1)), .int (nI 1), .ref (G 6)]) ⟨hx, hb, hml, hown, hts⟩ (k_X2_learned_ok l D G h0 C (up2 (up2 (up2 r2 15 i 0) 16 i 0) 17 i (C 3 i)) o hI2 i (by first | omega | assumption)) (cwV 1 hts gL_isBegun_X2_learned rfl rfl rfl (by decide +kernel) ⟨Nat.le_of_ble_eq_true rfl, Nat.le_of_ble_eq_true rfl⟩) ⟨fun a U g mk q => ⟨q.1, Pr_cg q.2⟩, va_recv (ci := 3) (q0 := 0) hK hP rfl (Q_o hRc), fun U hU hW => ⟨rfl, Pr_mk hE hRc hRr hRo hP hD hS hU hW⟩⟩ rfl rfl hl.1 rfl (lv_room (Nat.le_of_ble_eq_true rfl)) dL_isBegun_124 ⟨Nat.le_of_ble_eq_true rfl, Nat.le_of_ble_eq_true rfl⟩) hS (fun v9 _ H locs wl hv9 hRc hRr hRo hP hD hS => ?_)
                  refine n_top (y := .int (nI (C 3 i))) (congrArg Value.int hv9) ?_
                  clear hv9 v9
                  refine lv_goto (tgt := 131) hx hb dL_isBegun_127 (by decide) ?_
                  refine n_top (y := .int (nI tl)) (congrArg Value.int (show nI (C 3 i) = nI tl from by exact congrArg nI (htl.1 (by omega)).symm)) ?_
                  exact hk112 _ _ _ hRc hRr hRo hP hD hS
              refine J112 (fun H locs wl hRc hRr hRo hP hD hS => ?_)
              refine n_iadd hx hb dL_isBegun_131 ?_
              refine x_iast (Z := fun wl => Rc G C wl ∧ Rr G (up2 (up2 (up2 (up2 r2 15 i 0) 16 i 0) 17 i (C 3 i)) 4 1 ((r2 4 1) + tl)) wl ∧ Ro G o wl) hx hb hK hP hD hS 6 (Q_a4 hRr) (by first | omega | decide | assumption) (by decide) dL_isBegun_132 ⟨Rc_fr hRc (by decide) (by decide), P_a4 (r := (up2 (up2 (up2 r2 15 i 0) 16 i 0) 17 i (C 3 i))) ((r2 4 1) + tl) (by first | omega | decide | assumption) hRr, ⟨rfl, rfl, rfl⟩⟩ (fun H locs wl hZ hP hD hS => ?_)
              obtain ⟨hRc, hRr, hRo⟩ := hZ
              refine lv_aload_n hx hb dL_isBegun_133 rfl (lv_at hl 3 rfl) ?_
              refine lv_iload hx hb dL_isBegun_134 (lv_at hl 1 rfl) ?_
              refine y_calli (va_runV (As := [.int (nI i)]) (rest := []) ⟨hx, hb, hml, hown, hts⟩ (k_X2_state_ok l D G h0 C (up2 (up2 (up2 (up2 r2 15 i 0) 16 i 0) 17 i (C 3 i)) 4 1 ((r2 4 1) + tl)) o hI2 i (by first | omega | assumption)) (cwV 1 hts gL_isBegun_X2_state rfl rfl rfl (by decide +kernel) ⟨Nat.le_of_ble_eq_true rfl, Nat.le_of_ble_eq_true rfl⟩) ⟨fun a U g mk q => ⟨q.1, Pr_cg q.2⟩, va_recv (ci := 3) (q0 := 0) hK hP rfl (Q_o hRc), fun U hU hW => ⟨rfl, Pr_mk hE hRc hRr hRo hP hD hS hU hW⟩⟩ rfl rfl hl.1 rfl (lv_room (Nat.le_of_ble_eq_true rfl)) dL_isBegun_136 ⟨Nat.le_of_ble_eq_true rfl, Nat.le_of_ble_eq_true rfl⟩) hS (fun v9 _ H locs wl hv9 hRc hRr hRo hP hD hS => ?_)
              refine n_top (y := .int (nI (C 9 i))) (congrArg Value.int hv9) ?_
              clear hv9 v9
              have J139 : (∀ (H : Heap) (locs : List Loc) (wl : va_W), Rc G C wl → Rr G (up2 (up2 (up2 (up2 r2 15 i 0) 16 i 0) 17 i (C 3 i)) 4 1 ((r2 4 1) + tl)) wl → Ro G o wl → va_P D vwCl wl H → va_D (fun q => h0 ≤ q) wl → va_S (fun q => h0 ≤ q) s.heap H locs → W p l e (headSpec wsL_isBegun ({ frames := 7, cells := 0, slots := 0, locals := 158 } : Room)).room s m ([.ref (G 0), .ref (G 3), .ref (G 4), .ref (G 6), .int (nI b)] : List Value).toArray below meth cd H locs 0 0 Q (F0 m 154 ls [.int (nI (C 9 i)), .int (nI (C 9 i))])) → W p l e (headSpec wsL_isBegun ({ frames := 7, cells := 0, slots := 0, locals := 158 } : Room)).room s m ([.ref (G 0), .ref (G 3), .ref (G 4), .ref (G 6), .int (nI b)] : List Value).toArray below meth cd H locs 0 0 Q (F0 m 139 ls [.int (nI (C 9 i))]) := by
                intro hk139
                refine lv_aload_n hx hb dL_isBegun_139 rfl (lv_at hl 4 rfl) ?_
                refine lv_iload hx hb dL_isBegun_140 (lv_at hl 0 rfl) ?_
                refine lv_iconst (v := nI 3) hx hb dL_isBegun_142 (by decide) ?_
                refine n_iadd hx hb dL_isBegun_143 ?_
                refine x_iald hx hb hK hP 3 (Q_g hRr) (by first | omega | decide | assumption) (by decide) dL_isBegun_144 (v := nI (r2 13 i)) ((gV_j _ (k := i) (j := 3) (by decide) (by decide)).trans (congrArg nI (show (up2 (up2 (up2 (up2 r2 15 i 0) 16 i 0) 17 i (C 3 i)) 4 1 ((r2 4 1) + tl)) 13 i = r2 13 i from by simp [up2]))) ?_
                refine lv_iconst (v := nI 1) hx hb dL_isBegun_145 (by decide) ?_
                refine n_icmp_ne (tgt := 153) hx hb dL_isBegun_146 (by decide) (by rw [e13]; omega) (by decide) (fun c_146 => ?_) (fun c_146 => ?_)
                · refine lv_iconst (v := nI 0) hx hb dL_isBegun_153 (by decide) ?_
                  refine n_top (y := .int (nI (C 9 i))) (congrArg Value.int (show nI 0 = nI (C 9 i) from by exact congrArg nI (by rw [(b2 i hiN).1, if_pos (by omega)]))) ?_
                  exact hk139 _ _ _ hRc hRr hRo hP hD hS
                · refine lv_iconst (v := nI 4) hx hb dL_isBegun_149 (by decide) ?_
                  refine lv_goto (tgt := 154) hx hb dL_isBegun_150 (by decide) ?_
                  refine n_top (y := .int (nI (C 9 i))) (congrArg Value.int (show nI 4 = nI (C 9 i) from by exact congrArg nI (by rw [(b2 i hiN).1, if_neg (by omega)]))) ?_
                  exact hk139 _ _ _ hRc hRr hRo hP hD hS
              refine J139 (fun H locs wl hRc hRr hRo hP hD hS => ?_)
              refine n_icmp_ne (tgt := 161) hx hb dL_isBegun_154 (by decide) (hB2 _ _ (by decide)) (hB2 _ _ (by decide)) (fun c_154 => ?_) (fun c_154 => ?_)
              · exfalso; exact c_154 rfl
              · refine lv_iconst (v := nI 1) hx hb dL_isBegun_157 (by decide) ?_
                refine lv_goto (tgt := 162) hx hb dL_isBegun_158 (by decide) ?_
                refine lv_istore (lv' := [(6, .int (nI 1)), (8, .int (nI (8 * i))), (7, .int (nI i)), (0, .ref (G 0)), (1, .ref (G 3)), (2, .ref (G 4)), (3, .ref (G 6)), (4, .int (nI b)), (5, .int (nI J))]) hx hb dL_isBegun_162 hl (by decide) rfl (fun ls hl => ?_)
                refine lv_iinc (v := nI (i + 1)) (lv' := [(7, .int (nI (i + 1))), (6, .int (nI 1)), (8, .int (nI (8 * i))), (0, .ref (G 0)), (1, .ref (G 3)), (2, .ref (G 4)), (3, .ref (G 6)), (4, .int (nI b)), (5, .int (nI J))]) hx hb dL_isBegun_164 hl (k := 2) rfl (nI_add i 1) (by decide) rfl (fun ls hl => ?_)
                refine lv_goto (tgt := 59) hx hb dL_isBegun_167 (by decide) ?_
                exact ih59 (i + 1) (by omega) (by omega) (up2 (up2 (up2 (up2 r2 15 i 0) 16 i 0) 17 i (C 3 i)) 4 1 ((r2 4 1) + tl)) (by exact fun a j h5 h6 h7 h4 => by rw [up2_c h4, up2_c h7, up2_c h6, up2_c h5]; exact hr2 a j h5 h6 h7 h4) (by exact ⟨by rw [up2_i (by decide), up2_c (by decide), up2_c (by decide), up2_c (by decide)]; exact hm2.1, by rw [up2_s, hm2.2.1, htl0]; rfl, by rw [up2_i (by decide), up2_c (by decide), up2_c (by decide), up2_c (by decide)]; exact hm2.2.2⟩) (by exact fun k hk => by rcases Nat.lt_or_ge k i with e | e; (have e2 : k ≠ i := (by omega); rw [up2_c (by decide), up2_c (by decide), up2_i e2, up2_c (by decide), up2_c (by decide), up2_i e2, up2_c (by decide), up2_c (by decide)]; exact hlo k e); obtain rfl : k = i := (by omega); rw [up2_c (by decide), up2_c (by decide), up2_s, up2_c (by decide), up2_s]; exact ⟨rfl, e3⟩) (by exact fun k hk => by have e2 : k ≠ i := (by omega); rw [up2_c (by decide), up2_c (by decide), up2_i e2, up2_c (by decide), up2_c (by decide), up2_i e2, up2_c (by decide), up2_c (by decide)]; exact hhi k (by omega)) (by exact BR_up (BR_up (BR_up (BR_up hBr2 (by decide)) (by decide)) (hB2 _ _ (by decide))) (by have h9 := htlb; omega)) _ _ _ _ hRc hRr hRo hP hD hS (lv_sub hl [0, 1, 3, 4, 5, 6, 7, 8] rfl)
        exact L59 _ 0 (Nat.lt_succ_self _) (by omega) (up2 (up2 u_6 4 0 b) 4 1 0) (by exact fun a j _ _ _ h => by rw [up2_c h, up2_c h]) (by exact ⟨by rw [up2_i (by decide), up2_s], by rw [up2_s]; rfl, by rw [up2_i (by decide), up2_i (by decide)]⟩) (by exact fun k hk => absurd hk (Nat.not_lt_zero k)) (by exact fun k _ => ⟨by rw [up2_c (by decide), up2_c (by decide)]; exact hc1 16 k (by decide), by rw [up2_c (by decide), up2_c (by decide)]; exact hc1 17 k (by decide)⟩) (by exact BR_up (BR_up hc5 (by omega)) (by decide)) _ _ _ _ hRc hRr hRo hP hD hS (lv_sub hl [0, 1, 3, 4, 5, 6, 7, 2] rfl)
