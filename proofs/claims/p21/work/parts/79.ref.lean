theorem ho3 {n : Nat} (h : n ≤ 1) : n < 2 ^ 31 := by omega
theorem rf_z0 : ∀ t, t < 30 → nI 0 - nI t < nI 1 := by decide +kernel
theorem rf_z {t lo hi : Nat} (h : t < 30) (hl : lo = 1) : ¬ inR (nI 0 - nI t) lo hi := fun z => by subst hl; exact z.1 (rf_z0 t h)
theorem rf_l0 : ∀ t, t < 30 → (-1 : Int32) - nI t < 0 := by decide +kernel
theorem rf_t0 : ∀ t, t < 30 → (-2 : Int32) - nI t < 0 ∧ (-2 : Int32) - nI t ≠ -1 := by decide +kernel
theorem rf_lo {c : Nat → Nat → Nat} {t : Nat} (hn : c 20 1 ≤ 20) (h : t < 30) : ¬ okU c (-1 - nI t) := by
  rintro ⟨j, hj, e⟩
  have h1 := rf_l0 t h
  rw [e] at h1
  exact nI_pos (by omega) h1
theorem rf_two {c : Nat → Nat → Nat} {t : Nat} (hn : c 20 1 ≤ 20) (h : t < 30) : ¬ ((-2 : Int32) - nI t = -1 ∨ okU c (-2 - nI t)) := by
  have h1 := rf_t0 t h
  rintro (z | ⟨j, hj, e⟩)
  · exact h1.2 z
  · have h2 := h1.1
    rw [e] at h2
    exact nI_pos (by omega) h2
theorem rf_hi {c : Nat → Nat → Nat} {t : Nat} (h : c 20 1 + t < 2 ^ 31) : ¬ okU c (nI (c 20 1 + t)) := by
  rintro ⟨j, hj, e⟩
  have := nI_ij h (by omega) e
  omega
theorem rf_m1 {t : Nat} (h : t < 2 ^ 31) : ¬ nI t = -1 := fun e => nI_pos h (by rw [e]; decide)
theorem rf_ne {n i oo : Nat} (hn : 2 ≤ n) (hi : i < n) (h : oo = (i + 1) % n) : ¬ i = oo := by
  intro e
  rcases Nat.lt_or_ge (i + 1) n with z | z
  · rw [Nat.mod_eq_of_lt z] at h
    omega
  · have e2 : i + 1 = n := by omega
    rw [e2, Nat.mod_self] at h
    omega
set_option maxHeartbeats 4000000 in
set_option maxRecDepth 100000 in
theorem k_L_isRefused (l : Launch) (D : va_G) (G : Nat → Nat) (h0 : Nat) (c r : Nat → Nat → Nat) (o : Nat) (hlt : l.stackTraces = false) (hI : IC c) (hW5 : c 30 0 ≤ 512) (hn8 : c 20 1 ≤ 8) (x : Nat) (hx31 : x < 2 ^ 31) : Met l yL_isRefused wsL_isRefused ({ frames := 9, cells := 508, slots := 69800, locals := 243 } : Room) (va_Pc [.ref (G 0), .int (nI x)] (fun U => Pr D G h0 c r o U)) (va_Qi (fun (v9 : Int32) (_ : Unit) => v9 = nI 1) (fun _ t => Wr D G h0 c r o t) (fun q => h0 ≤ q)) 508 69800 (fun q => h0 ≤ q) := by
  refine Met.ofW (cc := cL_isRefused) (maxL := 10) (ret := (some .boolean)) (by decide) rfl ?_
  intro p e s m args below meth cd s₁ B hml hv
  obtain ⟨rfl, hE, wl, hRc, hRr, hRo, hP, hD⟩ := hv
  have hx := B.exec
  have hb := B.bytes
  have hr := B.returns
  have hts := atoms_spec (ws := wsL_isRefused) B.pre
  have hown : s.vm.findClass RL = some m.cls := findClass_of_methodNamed B.named
  have hlocks := B.notSynchronized
  have hK := hE.2.1
  have hS : va_S (fun q => h0 ≤ q) s.heap s.heap [] := va_S.rf
  have hl := lv_entry ([.ref (G 0), .int (nI x)]) (n := 10) (Nat.le_of_ble_eq_true rfl)
  rw [lg_entry_eq]
  generalize (lg_sl ([.ref (G 0), .int (nI x)]) ++ List.replicate (10 - (lg_sl ([.ref (G 0), .int (nI x)])).length) Slot.unset).toArray = ls at hl ⊢
  have hl : lv_has ls 10 [(0, .ref (G 0)), (1, .int (nI x))] := hl
  obtain ⟨Q, hQ⟩ : ∃ Q, Q = MQ below (va_Qi (fun (v9 : Int32) (_ : Unit) => v9 = nI 1) (fun _ t => Wr D G h0 c r o t) (fun q => h0 ≤ q)) ([.ref (G 0), .int (nI x)] : List Value).toArray s 508 69800 (fun q => h0 ≤ q) := ⟨_, rfl⟩
  rw [← hQ]
  have hB := IC_B hI
  have hn := IC_n hI
  have ho := IC_o hI
  have hx30 : x % 30 < 30 := Nat.mod_lt _ (by decide)
  refine lv_iload_n hx hb dL_isRefused_0 rfl (lv_at hl 1 rfl) ?_
  refine lv_iconst (v := nI 2) hx hb dL_isRefused_1 (by decide) ?_
  refine n_irem hx hb dL_isRefused_2 hx31 (by first | omega | decide | assumption) (by decide) ?_
  refine n_if_ne (tgt := 10) hx hb dL_isRefused_3 (by decide) (by omega) (fun c_3 => ?_) (fun c_3 => ?_)
  · refine lv_iconst (v := nI 0) hx hb dL_isRefused_10 (by decide) ?_
    refine lv_istore_n (lv' := [(2, .int (nI 0)), (0, .ref (G 0)), (1, .int (nI x))]) hx hb dL_isRefused_11 rfl hl (by decide) rfl (fun ls hl => ?_)
    refine lv_iload_n hx hb dL_isRefused_12 rfl (lv_at hl 0 rfl) ?_
    refine n_if_eq (tgt := 25) hx hb dL_isRefused_13 (by decide) (by decide) (fun c_13 => ?_) (fun c_13 => absurd c_13 (by decide))
    refine lv_aload_n hx hb dL_isRefused_25 rfl (lv_at hl 1 rfl) ?_
    refine y_calli (va_runV (As := []) (rest := []) ⟨hx, hb, hml, hown, hts⟩ (k_X2_units l D G h0 c r o ) (cwV 0 hts gL_isRefused_X2_units rfl rfl rfl (by decide +kernel) ⟨Nat.le_of_ble_eq_true rfl, Nat.le_of_ble_eq_true rfl⟩) ⟨fun a U g mk q => ⟨q.1, Pr_cg q.2⟩, va_recv (ci := 3) (q0 := 0) hK hP rfl (Q_o hRc), fun U hU hW => ⟨rfl, Pr_mk hE hRc hRr hRo hP hD hS hU hW⟩⟩ rfl rfl hl.1 rfl (lv_room (Nat.le_of_ble_eq_true rfl)) dL_isRefused_26 ⟨Nat.le_of_ble_eq_true rfl, Nat.le_of_ble_eq_true rfl⟩) hS (fun v9 _ H locs wl hv9 hRc hRr hRo hP hD hS => ?_)
    refine n_top (y := .int (nI (c 20 1))) (congrArg Value.int hv9) ?_
    clear hv9 v9
    refine lv_iload_n hx hb dL_isRefused_29 rfl (lv_at hl 2 rfl) ?_
    refine lv_bipush (v := nI 30) hx hb dL_isRefused_30 (by decide) ?_
    refine n_irem hx hb dL_isRefused_32 hx31 (by first | omega | decide | assumption) (by decide) ?_
    refine n_iadd hx hb dL_isRefused_33 ?_
    obtain ⟨nn, h_nn⟩ : ∃ z : Int32, z = nI ((c 20 1) + (x % 30)) := ⟨_, rfl⟩
    rw [← h_nn]
    have hno : ¬ okU c nn := by rw [h_nn]; exact rf_hi (by omega)
    refine lv_istore_n (lv' := [(3, .int nn), (2, .int (nI 0)), (0, .ref (G 0)), (1, .int (nI x))]) hx hb dL_isRefused_34 rfl hl (by decide) rfl (fun ls hl => ?_)
    refine lv_iload_n hx hb dL_isRefused_35 rfl (lv_at hl 1 rfl) ?_
    refine n_if_eq (tgt := 49) hx hb dL_isRefused_36 (by decide) (by decide) (fun c_36 => ?_) (fun c_36 => absurd c_36 (by decide))
    refine lv_iload_n hx hb dL_isRefused_49 rfl (lv_at hl 0 rfl) ?_
    obtain ⟨tt, h_tt⟩ : ∃ z : Int32, z = nn := ⟨_, rfl⟩
    rw [← h_tt]
    have hno2 : ¬ (tt = -1 ∨ okU c tt) := by rw [h_tt]; exact fun z => z.elim (fun y => rf_m1 (by omega) (h_nn.symm.trans y)) hno
    refine lv_istore (lv' := [(4, .int tt), (3, .int nn), (2, .int (nI 0)), (0, .ref (G 0)), (1, .int (nI x))]) hx hb dL_isRefused_50 hl (by decide) rfl (fun ls hl => ?_)
    refine lv_aload_n hx hb dL_isRefused_52 rfl (lv_at hl 3 rfl) ?_
    refine y_calll (va_runS (As := [.ref (G 0)]) (rest := []) ⟨hx, hb, hml, hown, hts⟩ (k_L_all l D G h0 c r o hI) (va_cwS 1 hts gL_isRefused_L_all rfl rfl rfl (by decide +kernel) ⟨Nat.le_of_ble_eq_true rfl, Nat.le_of_ble_eq_true rfl⟩) ⟨fun a U g mk q => ⟨q.1, Pr_cg q.2⟩, fun U hU hW => ⟨rfl, Pr_mk hE hRc hRr hRo hP hD hS hU hW⟩⟩ rfl rfl hl.1 rfl (lv_room (Nat.le_of_ble_eq_true rfl)) dL_isRefused_53 ⟨Nat.le_of_ble_eq_true rfl, Nat.le_of_ble_eq_true rfl⟩) hS (fun v9 _ H locs wl hv9 hRc hRr hRo hP hD hS => ?_)
    refine n_top (y := .long (allI c (c 20 1))) (congrArg Value.long hv9) ?_
    clear hv9 v9
    refine lv_lstore (lv' := [(5, .long (allI c (c 20 1))), (4, .int tt), (3, .int nn), (2, .int (nI 0)), (0, .ref (G 0)), (1, .int (nI x))]) hx hb dL_isRefused_56 hl (by decide) rfl (fun ls hl => ?_)
    refine lv_aload_n hx hb dL_isRefused_58 rfl (lv_at hl 4 rfl) ?_
    refine lv_iconst (v := nI 0) hx hb dL_isRefused_59 (by decide) ?_
    refine lv_iload_n hx hb dL_isRefused_60 rfl (lv_at hl 3 rfl) ?_
    refine n_if_eq (tgt := 73) hx hb dL_isRefused_61 (by decide) (by decide) (fun c_61 => ?_) (fun c_61 => absurd c_61 (by decide))
    refine lv_bipush (v := nI 101) hx hb dL_isRefused_73 (by decide) ?_
    refine lv_iconst (v := nI 0) hx hb dL_isRefused_75 (by decide) ?_
    refine lv_iconst (v := nI 0) hx hb dL_isRefused_76 (by decide) ?_
    refine y_calli (va_SW (As := [.ref (G 0), .int (nI 0), .int (nI 101), .int (nI 0), .int (nI 0)]) (rest := []) hx hb hml hown hts (k_L_act_add l hlt D G h0 c r o (nI 101) (nI 0) (nI 0) hI) (vx_cwSW 5 hts gL_isRefused_L_act rfl rfl rfl (by decide +kernel) ⟨(Nat.le_of_ble_eq_true rfl), (Nat.le_of_ble_eq_true rfl)⟩) (fun a U g mk q => ⟨q.1, Pr_cg q.2⟩) (fun U hU hW => ⟨rfl, Pr_mk hE hRc hRr hRo hP hD hS hU hW⟩) rfl hl.1 rfl (lv_room (Nat.le_of_ble_eq_true rfl)) dL_isRefused_77 (Nat.le_of_ble_eq_true rfl) (Nat.le_of_ble_eq_true rfl)) hS (fun v9 u9 H locs wl hv9 hRc hRr hRo hP hD hS => ?_)
    have hw9 := R_addA hv9 (fun z => (fun y : inR (nI 101) 1 100 => absurd y.2 (by decide)) z.1)
    clear hv9
    obtain ⟨hv9, hce⟩ := hw9
    have hce := hce.symm
    subst hce
    refine n_top (y := .int (-1032)) (congrArg Value.int hv9) ?_
    clear hv9
    refine lv_sipush (v := (-1032)) hx hb dL_isRefused_80 (by decide) ?_
    refine lv_icmp_ne (tgt := 310) hx hb dL_isRefused_83 (by decide) (fun c_83 => absurd c_83 (by decide)) (fun c_83 => ?_)
    refine lv_aload_n hx hb dL_isRefused_86 rfl (lv_at hl 4 rfl) ?_
    refine lv_iconst (v := nI 0) hx hb dL_isRefused_87 (by decide) ?_
    refine lv_iconst (v := nI 5) hx hb dL_isRefused_88 (by decide) ?_
    refine lv_iload_n hx hb dL_isRefused_89 rfl (lv_at hl 3 rfl) ?_
    refine n_if_eq (tgt := 97) hx hb dL_isRefused_90 (by decide) (by decide) (fun c_90 => ?_) (fun c_90 => absurd c_90 (by decide))
    refine lv_iconst (v := nI 4) hx hb dL_isRefused_97 (by decide) ?_
    refine lv_iconst (v := nI 0) hx hb dL_isRefused_98 (by decide) ?_
    refine y_calli (va_SW (As := [.ref (G 0), .int (nI 0), .int (nI 5), .int (nI 4), .int (nI 0)]) (rest := []) hx hb hml hown hts (k_L_act_add l hlt D G h0 c r o (nI 5) (nI 4) (nI 0) hI) (vx_cwSW 5 hts gL_isRefused_L_act rfl rfl rfl (by decide +kernel) ⟨(Nat.le_of_ble_eq_true rfl), (Nat.le_of_ble_eq_true rfl)⟩) (fun a U g mk q => ⟨q.1, Pr_cg q.2⟩) (fun U hU hW => ⟨rfl, Pr_mk hE hRc hRr hRo hP hD hS hU hW⟩) rfl hl.1 rfl (lv_room (Nat.le_of_ble_eq_true rfl)) dL_isRefused_99 (Nat.le_of_ble_eq_true rfl) (Nat.le_of_ble_eq_true rfl)) hS (fun v9 u9 H locs wl hv9 hRc hRr hRo hP hD hS => ?_)
    have hw9 := R_addA hv9 (fun z => (fun y : inR (nI 4) 0 3 => absurd y.2 (by decide)) z.2)
    clear hv9
    obtain ⟨hv9, hce⟩ := hw9
    have hce := hce.symm
    subst hce
    refine n_top (y := .int (-1032)) (congrArg Value.int hv9) ?_
    clear hv9
    refine lv_sipush (v := (-1032)) hx hb dL_isRefused_102 (by decide) ?_
    refine lv_icmp_ne (tgt := 310) hx hb dL_isRefused_105 (by decide) (fun c_105 => absurd c_105 (by decide)) (fun c_105 => ?_)
    refine lv_aload_n hx hb dL_isRefused_108 rfl (lv_at hl 4 rfl) ?_
    refine lv_iconst (v := nI 1) hx hb dL_isRefused_109 (by decide) ?_
    refine lv_iload_n hx hb dL_isRefused_110 rfl (lv_at hl 2 rfl) ?_
    refine lv_iload_n hx hb dL_isRefused_111 rfl (lv_at hl 2 rfl) ?_
    refine lv_iconst (v := nI 0) hx hb dL_isRefused_112 (by decide) ?_
    refine y_calli (va_SW (As := [.ref (G 0), .int (nI 1), .int nn, .int nn, .int (nI 0)]) (rest := []) hx hb hml hown hts (k_L_act_need l hlt D G h0 c r o nn nn (nI 0) hI) (vx_cwSW 5 hts gL_isRefused_L_act rfl rfl rfl (by decide +kernel) ⟨(Nat.le_of_ble_eq_true rfl), (Nat.le_of_ble_eq_true rfl)⟩) (fun a U g mk q => ⟨q.1, Pr_cg q.2⟩) (fun U hU hW => ⟨rfl, Pr_mk hE hRc hRr hRo hP hD hS hU hW⟩) rfl hl.1 rfl (lv_room (Nat.le_of_ble_eq_true rfl)) dL_isRefused_113 (Nat.le_of_ble_eq_true rfl) (Nat.le_of_ble_eq_true rfl)) hS (fun v9 u9 H locs wl hv9 hRc hRr hRo hP hD hS => ?_)
    have hw9 := R_needO hv9 (fun z => hno z.1)
    clear hv9
    obtain ⟨hv9, hce⟩ := hw9
    have hce := hce.symm
    subst hce
    refine n_top (y := .int (-1031)) (congrArg Value.int hv9) ?_
    clear hv9
    refine lv_sipush (v := (-1031)) hx hb dL_isRefused_116 (by decide) ?_
    refine lv_icmp_ne (tgt := 310) hx hb dL_isRefused_119 (by decide) (fun c_119 => absurd c_119 (by decide)) (fun c_119 => ?_)
    refine lv_aload_n hx hb dL_isRefused_122 rfl (lv_at hl 4 rfl) ?_
    refine lv_iconst (v := nI 2) hx hb dL_isRefused_123 (by decide) ?_
    refine lv_iload_n hx hb dL_isRefused_124 rfl (lv_at hl 2 rfl) ?_
    refine lv_iload_n hx hb dL_isRefused_125 rfl (lv_at hl 2 rfl) ?_
    refine lv_iconst (v := nI 0) hx hb dL_isRefused_126 (by decide) ?_
    refine y_calli (va_SW (As := [.ref (G 0), .int (nI 2), .int nn, .int nn, .int (nI 0)]) (rest := []) hx hb hml hown hts (k_L_act_wish l hlt D G h0 c r o nn nn (nI 0) hI hW5) (vx_cwSW 5 hts gL_isRefused_L_act rfl rfl rfl (by decide +kernel) ⟨(Nat.le_of_ble_eq_true rfl), (Nat.le_of_ble_eq_true rfl)⟩) (fun a U g mk q => ⟨q.1, Pr_cg q.2⟩) (fun U hU hW => ⟨rfl, Pr_mk hE hRc hRr hRo hP hD hS hU hW⟩) rfl hl.1 rfl (lv_room (Nat.le_of_ble_eq_true rfl)) dL_isRefused_127 (Nat.le_of_ble_eq_true rfl) (Nat.le_of_ble_eq_true rfl)) hS (fun v9 u9 H locs wl hv9 hRc hRr hRo hP hD hS => ?_)
    have hw9 := R_wishO hv9 (fun z => hno z.1)
    clear hv9
    obtain ⟨hv9, hce⟩ := hw9
    have hce := hce.symm
    subst hce
    refine n_top (y := .int (-1031)) (congrArg Value.int hv9) ?_
    clear hv9
    refine lv_sipush (v := (-1031)) hx hb dL_isRefused_130 (by decide) ?_
    refine lv_icmp_ne (tgt := 310) hx hb dL_isRefused_133 (by decide) (fun c_133 => absurd c_133 (by decide)) (fun c_133 => ?_)
    refine lv_aload_n hx hb dL_isRefused_136 rfl (lv_at hl 4 rfl) ?_
    refine lv_iconst (v := nI 3) hx hb dL_isRefused_137 (by decide) ?_
    refine lv_iload_n hx hb dL_isRefused_138 rfl (lv_at hl 2 rfl) ?_
    refine lv_iload_n hx hb dL_isRefused_139 rfl (lv_at hl 2 rfl) ?_
    refine lv_iconst (v := nI 0) hx hb dL_isRefused_140 (by decide) ?_
    refine y_calli (va_SW (As := [.ref (G 0), .int (nI 3), .int nn, .int nn, .int (nI 0)]) (rest := []) hx hb hml hown hts (k_L_act_standIn l hlt D G h0 c r o nn nn (nI 0) hI) (vx_cwSW 5 hts gL_isRefused_L_act rfl rfl rfl (by decide +kernel) ⟨(Nat.le_of_ble_eq_true rfl), (Nat.le_of_ble_eq_true rfl)⟩) (fun a U g mk q => ⟨q.1, Pr_cg q.2⟩) (fun U hU hW => ⟨rfl, Pr_mk hE hRc hRr hRo hP hD hS hU hW⟩) rfl hl.1 rfl (lv_room (Nat.le_of_ble_eq_true rfl)) dL_isRefused_141 (Nat.le_of_ble_eq_true rfl) (Nat.le_of_ble_eq_true rfl)) hS (fun v9 u9 H locs wl hv9 hRc hRr hRo hP hD hS => ?_)
    have hw9 := R_siO hv9 (fun z => hno z.1)
    clear hv9
    obtain ⟨hv9, hce⟩ := hw9
    have hce := hce.symm
    subst hce
    refine n_top (y := .int (-1031)) (congrArg Value.int hv9) ?_
    clear hv9
    refine lv_sipush (v := (-1031)) hx hb dL_isRefused_144 (by decide) ?_
    refine lv_icmp_ne (tgt := 310) hx hb dL_isRefused_147 (by decide) (fun c_147 => absurd c_147 (by decide)) (fun c_147 => ?_)
    refine lv_aload_n hx hb dL_isRefused_150 rfl (lv_at hl 4 rfl) ?_
    refine lv_iconst (v := nI 4) hx hb dL_isRefused_151 (by decide) ?_
    refine lv_iload_n hx hb dL_isRefused_152 rfl (lv_at hl 2 rfl) ?_
    refine lv_iconst (v := nI 0) hx hb dL_isRefused_153 (by decide) ?_
    refine lv_iconst (v := nI 0) hx hb dL_isRefused_154 (by decide) ?_
    refine y_calli (va_SW (As := [.ref (G 0), .int (nI 4), .int nn, .int (nI 0), .int (nI 0)]) (rest := []) hx hb hml hown hts (k_L_act_hold l hlt D G h0 c r o nn (nI 0) 0 (by decide) hI) (vx_cwSW 5 hts gL_isRefused_L_act rfl rfl rfl (by decide +kernel) ⟨(Nat.le_of_ble_eq_true rfl), (Nat.le_of_ble_eq_true rfl)⟩) (fun a U g mk q => ⟨q.1, Pr_cg q.2⟩) (fun U hU hW => ⟨rfl, Pr_mk hE hRc hRr hRo hP hD hS hU hW⟩) rfl hl.1 rfl (lv_room (Nat.le_of_ble_eq_true rfl)) dL_isRefused_155 (Nat.le_of_ble_eq_true rfl) (Nat.le_of_ble_eq_true rfl)) hS (fun v9 u9 H locs wl hv9 hRc hRr hRo hP hD hS => ?_)
    have hw9 := R_holdO hv9 hno
    clear hv9
    obtain ⟨hv9, hce⟩ := hw9
    have hce := hce.symm
    subst hce
    refine n_top (y := .int (-1031)) (congrArg Value.int hv9) ?_
    clear hv9
    refine lv_sipush (v := (-1031)) hx hb dL_isRefused_158 (by decide) ?_
    refine lv_icmp_ne (tgt := 310) hx hb dL_isRefused_161 (by decide) (fun c_161 => absurd c_161 (by decide)) (fun c_161 => ?_)
    refine lv_aload_n hx hb dL_isRefused_164 rfl (lv_at hl 4 rfl) ?_
    refine lv_iconst (v := nI 5) hx hb dL_isRefused_165 (by decide) ?_
    refine lv_iload_n hx hb dL_isRefused_166 rfl (lv_at hl 2 rfl) ?_
    refine lv_iconst (v := (-1)) hx hb dL_isRefused_167 (by decide) ?_
    refine lv_iconst (v := nI 0) hx hb dL_isRefused_168 (by decide) ?_
    refine y_calli (va_SW (As := [.ref (G 0), .int (nI 5), .int nn, .int (-1), .int (nI 0)]) (rest := []) hx hb hml hown hts (k_L_act_setFaults l hlt D G h0 c r o nn (-1) (nI 0) hI) (vx_cwSW 5 hts gL_isRefused_L_act rfl rfl rfl (by decide +kernel) ⟨(Nat.le_of_ble_eq_true rfl), (Nat.le_of_ble_eq_true rfl)⟩) (fun a U g mk q => ⟨q.1, Pr_cg q.2⟩) (fun U hU hW => ⟨rfl, Pr_mk hE hRc hRr hRo hP hD hS hU hW⟩) rfl hl.1 rfl (lv_room (Nat.le_of_ble_eq_true rfl)) dL_isRefused_169 (Nat.le_of_ble_eq_true rfl) (Nat.le_of_ble_eq_true rfl)) hS (fun v9 u9 H locs wl hv9 hRc hRr hRo hP hD hS => ?_)
    have hw9 := R_sfO hv9 hno
    clear hv9
    obtain ⟨hv9, hce⟩ := hw9
    have hce := hce.symm
    subst hce
    refine n_top (y := .int (-1031)) (congrArg Value.int hv9) ?_
    clear hv9
    refine lv_sipush (v := (-1031)) hx hb dL_isRefused_172 (by decide) ?_
    refine lv_icmp_ne (tgt := 310) hx hb dL_isRefused_175 (by decide) (fun c_175 => absurd c_175 (by decide)) (fun c_175 => ?_)
    refine lv_aload_n hx hb dL_isRefused_178 rfl (lv_at hl 4 rfl) ?_
    refine lv_bipush (v := nI 6) hx hb dL_isRefused_179 (by decide) ?_
    refine lv_iload_n hx hb dL_isRefused_181 rfl (lv_at hl 2 rfl) ?_
    refine lv_iconst (v := (-1)) hx hb dL_isRefused_182 (by decide) ?_
    refine lv_iconst (v := nI 0) hx hb dL_isRefused_183 (by decide) ?_
    refine y_calli (va_SW (As := [.ref (G 0), .int (nI 6), .int nn, .int (-1), .int (nI 0)]) (rest := []) hx hb hml hown hts (k_L_act_setTime l hlt D G h0 c r o nn (-1) (nI 0) hI) (vx_cwSW 5 hts gL_isRefused_L_act rfl rfl rfl (by decide +kernel) ⟨(Nat.le_of_ble_eq_true rfl), (Nat.le_of_ble_eq_true rfl)⟩) (fun a U g mk q => ⟨q.1, Pr_cg q.2⟩) (fun U hU hW => ⟨rfl, Pr_mk hE hRc hRr hRo hP hD hS hU hW⟩) rfl hl.1 rfl (lv_room (Nat.le_of_ble_eq_true rfl)) dL_isRefused_184 (Nat.le_of_ble_eq_true rfl) (Nat.le_of_ble_eq_true rfl)) hS (fun v9 u9 H locs wl hv9 hRc hRr hRo hP hD hS => ?_)
    have hw9 := R_stO hv9 hno
    clear hv9
    obtain ⟨hv9, hce⟩ := hw9
    have hce := hce.symm
    subst hce
    refine n_top (y := .int (-1031)) (congrArg Value.int hv9) ?_
    clear hv9
    refine lv_sipush (v := (-1031)) hx hb dL_isRefused_187 (by decide) ?_
    refine lv_icmp_ne (tgt := 310) hx hb dL_isRefused_190 (by decide) (fun c_190 => absurd c_190 (by decide)) (fun c_190 => ?_)
    refine lv_aload_n hx hb dL_isRefused_193 rfl (lv_at hl 4 rfl) ?_
    refine lv_bipush (v := nI 7) hx hb dL_isRefused_194 (by decide) ?_
    refine lv_iload_n hx hb dL_isRefused_196 rfl (lv_at hl 3 rfl) ?_
    refine n_if_eq (tgt := 209) hx hb dL_isRefused_197 (by decide) (by decide) (fun c_197 => ?_) (fun c_197 => absurd c_197 (by decide))
    refine lv_bipush (v := nI 21) hx hb dL_isRefused_209 (by decide) ?_
    refine lv_iconst (v := nI 0) hx hb dL_isRefused_211 (by decide) ?_
    refine lv_iconst (v := nI 0) hx hb dL_isRefused_212 (by decide) ?_
    refine y_calli (va_SW (As := [.ref (G 0), .int (nI 7), .int (nI 21), .int (nI 0), .int (nI 0)]) (rest := []) hx hb hml hown hts (k_L_act_begin l hlt D G h0 c r o (nI 21) (nI 0) (nI 0) hI hW5) (vx_cwSW 5 hts gL_isRefused_L_act rfl rfl rfl (by decide +kernel) ⟨(Nat.le_of_ble_eq_true rfl), (Nat.le_of_ble_eq_true rfl)⟩) (fun a U g mk q => ⟨q.1, Pr_cg q.2⟩) (fun U hU hW => ⟨rfl, Pr_mk hE hRc hRr hRo hP hD hS hU hW⟩) rfl hl.1 rfl (lv_room (Nat.le_of_ble_eq_true rfl)) dL_isRefused_213 (Nat.le_of_ble_eq_true rfl) (Nat.le_of_ble_eq_true rfl)) hS (fun v9 u9 H locs wl hv9 hRc hRr hRo hP hD hS => ?_)
    have hw9 := R_begA hv9 (fun y : inR (nI 21) 1 20 => absurd y.2 (by decide))
    clear hv9
    obtain ⟨hv9, hce⟩ := hw9
    have hce := hce.symm
    subst hce
    refine n_top (y := .int (-1032)) (congrArg Value.int hv9) ?_
    clear hv9
    refine lv_sipush (v := (-1032)) hx hb dL_isRefused_216 (by decide) ?_
    refine lv_icmp_ne (tgt := 310) hx hb dL_isRefused_219 (by decide) (fun c_219 => absurd c_219 (by decide)) (fun c_219 => ?_)
    refine lv_aload_n hx hb dL_isRefused_222 rfl (lv_at hl 4 rfl) ?_
    refine lv_bipush (v := nI 8) hx hb dL_isRefused_223 (by decide) ?_
    refine lv_iload_n hx hb dL_isRefused_225 rfl (lv_at hl 3 rfl) ?_
    refine n_if_eq (tgt := 238) hx hb dL_isRefused_226 (by decide) (by decide) (fun c_226 => ?_) (fun c_226 => absurd c_226 (by decide))
    refine lv_sipush (v := nI 201) hx hb dL_isRefused_238 (by decide) ?_
    refine lv_iconst (v := nI 0) hx hb dL_isRefused_241 (by decide) ?_
    refine lv_iconst (v := nI 0) hx hb dL_isRefused_242 (by decide) ?_
    refine y_calli (va_SW (As := [.ref (G 0), .int (nI 8), .int (nI 201), .int (nI 0), .int (nI 0)]) (rest := []) hx hb hml hown hts (k_L_act_tick l hlt D G h0 c r o (nI 201) (nI 0) (nI 0) hI) (vx_cwSW 5 hts gL_isRefused_L_act rfl rfl rfl (by decide +kernel) ⟨(Nat.le_of_ble_eq_true rfl), (Nat.le_of_ble_eq_true rfl)⟩) (fun a U g mk q => ⟨q.1, Pr_cg q.2⟩) (fun U hU hW => ⟨rfl, Pr_mk hE hRc hRr hRo hP hD hS hU hW⟩) rfl hl.1 rfl (lv_room (Nat.le_of_ble_eq_true rfl)) dL_isRefused_243 (Nat.le_of_ble_eq_true rfl) (Nat.le_of_ble_eq_true rfl)) hS (fun v9 u9 H locs wl hv9 hRc hRr hRo hP hD hS => ?_)
    have hw9 := R_tickA hv9 (fun y : inR (nI 201) 1 200 => absurd y.2 (by decide))
    clear hv9
    obtain ⟨hv9, hce⟩ := hw9
    have hce := hce.symm
    subst hce
    refine n_top (y := .int (-1032)) (congrArg Value.int hv9) ?_
    clear hv9
    refine lv_sipush (v := (-1032)) hx hb dL_isRefused_246 (by decide) ?_
    refine lv_icmp_ne (tgt := 310) hx hb dL_isRefused_249 (by decide) (fun c_249 => absurd c_249 (by decide)) (fun c_249 => ?_)
    refine lv_aload_n hx hb dL_isRefused_252 rfl (lv_at hl 4 rfl) ?_
    refine y_calli (va_runV (As := []) (rest := []) ⟨hx, hb, hml, hown, hts⟩ (k_X2_goesOn l D G h0 c r o ho.1) (cwV 0 hts gL_isRefused_X2_goesOn rfl rfl rfl (by decide +kernel) ⟨Nat.le_of_ble_eq_true rfl, Nat.le_of_ble_eq_true rfl⟩) ⟨fun a U g mk q => ⟨q.1, Pr_cg q.2⟩, va_recv (ci := 3) (q0 := 0) hK hP rfl (Q_o hRc), fun U hU hW => ⟨rfl, Pr_mk hE hRc hRr hRo hP hD hS hU hW⟩⟩ rfl rfl hl.1 rfl (lv_room (Nat.le_of_ble_eq_true rfl)) dL_isRefused_253 ⟨Nat.le_of_ble_eq_true rfl, Nat.le_of_ble_eq_true rfl⟩) hS (fun v9 _ H locs wl hv9 hRc hRr hRo hP hD hS => ?_)
    refine n_top (y := .int (nI (c 20 3))) (congrArg Value.int hv9) ?_
    clear hv9 v9
    refine n_if_eq (tgt := 291) hx hb dL_isRefused_256 (by decide) (ho3 ho.1) (fun c_256 => ?_) (fun c_256 => ?_)
    · refine lv_aload_n hx hb dL_isRefused_291 rfl (lv_at hl 4 rfl) ?_
      refine lv_bipush (v := nI 8) hx hb dL_isRefused_292 (by decide) ?_
      refine lv_iconst (v := nI 5) hx hb dL_isRefused_294 (by decide) ?_
      refine lv_iconst (v := nI 0) hx hb dL_isRefused_295 (by decide) ?_
      refine lv_iconst (v := nI 0) hx hb dL_isRefused_296 (by decide) ?_
      refine y_calli (va_SW (As := [.ref (G 0), .int (nI 8), .int (nI 5), .int (nI 0), .int (nI 0)]) (rest := []) hx hb hml hown hts (k_L_act_tick l hlt D G h0 c r o (nI 5) (nI 0) (nI 0) hI) (vx_cwSW 5 hts gL_isRefused_L_act rfl rfl rfl (by decide +kernel) ⟨(Nat.le_of_ble_eq_true rfl), (Nat.le_of_ble_eq_true rfl)⟩) (fun a U g mk q => ⟨q.1, Pr_cg q.2⟩) (fun U hU hW => ⟨rfl, Pr_mk hE hRc hRr hRo hP hD hS hU hW⟩) rfl hl.1 rfl (lv_room (Nat.le_of_ble_eq_true rfl)) dL_isRefused_297 (Nat.le_of_ble_eq_true rfl) (Nat.le_of_ble_eq_true rfl)) hS (fun v9 u9 H locs wl hv9 hRc hRr hRo hP hD hS => ?_)
      have hw9 := R_tickS hv9 ⟨by decide, by decide⟩ c_256
      clear hv9
      obtain ⟨hv9, hce⟩ := hw9
      have hce := hce.symm
      subst hce
      refine n_top (y := .int (-1033)) (congrArg Value.int hv9) ?_
      clear hv9
      refine lv_sipush (v := (-1033)) hx hb dL_isRefused_300 (by decide) ?_
      refine lv_icmp_ne (tgt := 310) hx hb dL_isRefused_303 (by decide) (fun c_303 => absurd c_303 (by decide)) (fun c_303 => ?_)
      refine lv_iconst (v := nI 1) hx hb dL_isRefused_306 (by decide) ?_
      refine lv_goto (tgt := 311) hx hb dL_isRefused_307 (by decide) ?_
      refine lv_istore (lv' := [(7, .int (nI 1)), (5, .long (allI c (c 20 1))), (4, .int tt), (3, .int nn), (2, .int (nI 0)), (0, .ref (G 0)), (1, .int (nI x))]) hx hb dL_isRefused_311 hl (by decide) rfl (fun ls hl => ?_)
      refine lv_iconst (v := nI 0) hx hb dL_isRefused_313 (by decide) ?_
      refine lv_istore (lv' := [(8, .int (nI 0)), (7, .int (nI 1)), (5, .long (allI c (c 20 1))), (4, .int tt), (3, .int nn), (2, .int (nI 0)), (0, .ref (G 0)), (1, .int (nI x))]) hx hb dL_isRefused_314 hl (by decide) rfl (fun ls hl => ?_)
      refine lv_iload hx hb dL_isRefused_316 (lv_at hl 0 rfl) ?_
      refine lv_iconst (v := nI 4) hx hb dL_isRefused_318 (by decide) ?_
      refine n_icmp_ge (tgt := 353) hx hb dL_isRefused_319 (by decide) (by decide) (by decide) (fun c_319 => absurd c_319 (by decide)) (fun c_319 => ?_)
      refine lv_iload hx hb dL_isRefused_322 (lv_at hl 1 rfl) ?_
      refine n_if_eq (tgt := 353) hx hb dL_isRefused_324 (by decide) (by decide) (fun c_324 => absurd c_324 (by decide)) (fun c_324 => ?_)
      refine lv_aload_n hx hb dL_isRefused_327 rfl (lv_at hl 6 rfl) ?_
      refine lv_iload hx hb dL_isRefused_328 (lv_at hl 0 rfl) ?_
      refine lv_iload_n hx hb dL_isRefused_330 rfl (lv_at hl 4 rfl) ?_
      refine y_calli (va_SW (As := [.ref (G 0), .int (nI 0), .int nn]) (rest := []) hx hb hml hown hts (k_L_of_learned l hlt D G h0 c r o nn hI hno) (vx_cwSW 3 hts gL_isRefused_L_of rfl rfl rfl (by decide +kernel) ⟨(Nat.le_of_ble_eq_true rfl), (Nat.le_of_ble_eq_true rfl)⟩) (fun a U g mk q => ⟨q.1, Pr_cg q.2⟩) (fun U hU hW => ⟨rfl, Pr_mk hE hRc hRr hRo hP hD hS hU hW⟩) rfl hl.1 rfl (lv_room (Nat.le_of_ble_eq_true rfl)) dL_isRefused_331 (Nat.le_of_ble_eq_true rfl) (Nat.le_of_ble_eq_true rfl)) hS (fun v9 u9 H locs wl hv9 hRc hRr hRo hP hD hS => ?_)
      obtain ⟨hv9, hce⟩ := hv9
      have hce := hce.symm
      subst hce
      refine n_top (y := .int (-1031)) (congrArg Value.int hv9) ?_
      clear hv9
      refine lv_sipush (v := (-1031)) hx hb dL_isRefused_334 (by decide) ?_
      refine lv_icmp_ne (tgt := 344) hx hb dL_isRefused_337 (by decide) (fun c_337 => absurd c_337 (by decide)) (fun c_337 => ?_)
      refine lv_iconst (v := nI 1) hx hb dL_isRefused_340 (by decide) ?_
      refine lv_goto (tgt := 345) hx hb dL_isRefused_341 (by decide) ?_
      refine lv_istore (lv' := [(7, .int (nI 1)), (8, .int (nI 0)), (5, .long (allI c (c 20 1))), (4, .int tt), (3, .int nn), (2, .int (nI 0)), (0, .ref (G 0)), (1, .int (nI x))]) hx hb dL_isRefused_345 hl (by decide) rfl (fun ls hl => ?_)
      refine lv_iinc (v := nI 1) (lv' := [(8, .int (nI 1)), (7, .int (nI 1)), (5, .long (allI c (c 20 1))), (4, .int tt), (3, .int nn), (2, .int (nI 0)), (0, .ref (G 0)), (1, .int (nI x))]) hx hb dL_isRefused_347 hl (k := 1) rfl (nI_add 0 1) (by decide) rfl (fun ls hl => ?_)
      refine lv_goto (tgt := 316) hx hb dL_isRefused_350 (by decide) ?_
      refine lv_iload hx hb dL_isRefused_316 (lv_at hl 0 rfl) ?_
      refine lv_iconst (v := nI 4) hx hb dL_isRefused_318 (by decide) ?_
      refine n_icmp_ge (tgt := 353) hx hb dL_isRefused_319 (by decide) (by decide) (by decide) (fun c_319 => absurd c_319 (by decide)) (fun c_319 => ?_)
      refine lv_iload hx hb dL_isRefused_322 (lv_at hl 1 rfl) ?_
      refine n_if_eq (tgt := 353) hx hb dL_isRefused_324 (by decide) (by decide) (fun c_324 => absurd c_324 (by decide)) (fun c_324 => ?_)
      refine lv_aload_n hx hb dL_isRefused_327 rfl (lv_at hl 6 rfl) ?_
      refine lv_iload hx hb dL_isRefused_328 (lv_at hl 0 rfl) ?_
      refine lv_iload_n hx hb dL_isRefused_330 rfl (lv_at hl 4 rfl) ?_
      refine y_calli (va_SW (As := [.ref (G 0), .int (nI 1), .int nn]) (rest := []) hx hb hml hown hts (k_L_of_faults l hlt D G h0 c r o nn hI hno) (vx_cwSW 3 hts gL_isRefused_L_of rfl rfl rfl (by decide +kernel) ⟨(Nat.le_of_ble_eq_true rfl), (Nat.le_of_ble_eq_true rfl)⟩) (fun a U g mk q => ⟨q.1, Pr_cg q.2⟩) (fun U hU hW => ⟨rfl, Pr_mk hE hRc hRr hRo hP hD hS hU hW⟩) rfl hl.1 rfl (lv_room (Nat.le_of_ble_eq_true rfl)) dL_isRefused_331 (Nat.le_of_ble_eq_true rfl) (Nat.le_of_ble_eq_true rfl)) hS (fun v9 u9 H locs wl hv9 hRc hRr hRo hP hD hS => ?_)
      obtain ⟨hv9, hce⟩ := hv9
      have hce := hce.symm
      subst hce
      refine n_top (y := .int (-1031)) (congrArg Value.int hv9) ?_
      clear hv9
      refine lv_sipush (v := (-1031)) hx hb dL_isRefused_334 (by decide) ?_
      refine lv_icmp_ne (tgt := 344) hx hb dL_isRefused_337 (by decide) (fun c_337 => absurd c_337 (by decide)) (fun c_337 => ?_)
      refine lv_iconst (v := nI 1) hx hb dL_isRefused_340 (by decide) ?_
      refine lv_goto (tgt := 345) hx hb dL_isRefused_341 (by decide) ?_
      refine lv_istore (lv' := [(7, .int (nI 1)), (8, .int (nI 1)), (5, .long (allI c (c 20 1))), (4, .int tt), (3, .int nn), (2, .int (nI 0)), (0, .ref (G 0)), (1, .int (nI x))]) hx hb dL_isRefused_345 hl (by decide) rfl (fun ls hl => ?_)
      refine lv_iinc (v := nI 2) (lv' := [(8, .int (nI 2)), (7, .int (nI 1)), (5, .long (allI c (c 20 1))), (4, .int tt), (3, .int nn), (2, .int (nI 0)), (0, .ref (G 0)), (1, .int (nI x))]) hx hb dL_isRefused_347 hl (k := 1) rfl (nI_add 1 1) (by decide) rfl (fun ls hl => ?_)
      refine lv_goto (tgt := 316) hx hb dL_isRefused_350 (by decide) ?_
      refine lv_iload hx hb dL_isRefused_316 (lv_at hl 0 rfl) ?_
      refine lv_iconst (v := nI 4) hx hb dL_isRefused_318 (by decide) ?_
      refine n_icmp_ge (tgt := 353) hx hb dL_isRefused_319 (by decide) (by decide) (by decide) (fun c_319 => absurd c_319 (by decide)) (fun c_319 => ?_)
      refine lv_iload hx hb dL_isRefused_322 (lv_at hl 1 rfl) ?_
      refine n_if_eq (tgt := 353) hx hb dL_isRefused_324 (by decide) (by decide) (fun c_324 => absurd c_324 (by decide)) (fun c_324 => ?_)
      refine lv_aload_n hx hb dL_isRefused_327 rfl (lv_at hl 6 rfl) ?_
      refine lv_iload hx hb dL_isRefused_328 (lv_at hl 0 rfl) ?_
      refine lv_iload_n hx hb dL_isRefused_330 rfl (lv_at hl 4 rfl) ?_
      refine y_calli (va_SW (As := [.ref (G 0), .int (nI 2), .int nn]) (rest := []) hx hb hml hown hts (k_L_of_state l hlt D G h0 c r o nn hI hno) (vx_cwSW 3 hts gL_isRefused_L_of rfl rfl rfl (by decide +kernel) ⟨(Nat.le_of_ble_eq_true rfl), (Nat.le_of_ble_eq_true rfl)⟩) (fun a U g mk q => ⟨q.1, Pr_cg q.2⟩) (fun U hU hW => ⟨rfl, Pr_mk hE hRc hRr hRo hP hD hS hU hW⟩) rfl hl.1 rfl (lv_room (Nat.le_of_ble_eq_true rfl)) dL_isRefused_331 (Nat.le_of_ble_eq_true rfl) (Nat.le_of_ble_eq_true rfl)) hS (fun v9 u9 H locs wl hv9 hRc hRr hRo hP hD hS => ?_)
      obtain ⟨hv9, hce⟩ := hv9
      have hce := hce.symm
      subst hce
      refine n_top (y := .int (-1031)) (congrArg Value.int hv9) ?_
      clear hv9
      refine lv_sipush (v := (-1031)) hx hb dL_isRefused_334 (by decide) ?_
      refine lv_icmp_ne (tgt := 344) hx hb dL_isRefused_337 (by decide) (fun c_337 => absurd c_337 (by decide)) (fun c_337 => ?_)
      refine lv_iconst (v := nI 1) hx hb dL_isRefused_340 (by decide) ?_
      refine lv_goto (tgt := 345) hx hb dL_isRefused_341 (by decide) ?_
      refine lv_istore (lv' := [(7, .int (nI 1)), (8, .int (nI 2)), (5, .long (allI c (c 20 1))), (4, .int tt), (3, .int nn), (2, .int (nI 0)), (0, .ref (G 0)), (1, .int (nI x))]) hx hb dL_isRefused_345 hl (by decide) rfl (fun ls hl => ?_)
      refine lv_iinc (v := nI 3) (lv' := [(8, .int (nI 3)), (7, .int (nI 1)), (5, .long (allI c (c 20 1))), (4, .int tt), (3, .int nn), (2, .int (nI 0)), (0, .ref (G 0)), (1, .int (nI x))]) hx hb dL_isRefused_347 hl (k := 1) rfl (nI_add 2 1) (by decide) rfl (fun ls hl => ?_)
      refine lv_goto (tgt := 316) hx hb dL_isRefused_350 (by decide) ?_
      refine lv_iload hx hb dL_isRefused_316 (lv_at hl 0 rfl) ?_
      refine lv_iconst (v := nI 4) hx hb dL_isRefused_318 (by decide) ?_
      refine n_icmp_ge (tgt := 353) hx hb dL_isRefused_319 (by decide) (by decide) (by decide) (fun c_319 => absurd c_319 (by decide)) (fun c_319 => ?_)
      refine lv_iload hx hb dL_isRefused_322 (lv_at hl 1 rfl) ?_
      refine n_if_eq (tgt := 353) hx hb dL_isRefused_324 (by decide) (by decide) (fun c_324 => absurd c_324 (by decide)) (fun c_324 => ?_)
      refine lv_aload_n hx hb dL_isRefused_327 rfl (lv_at hl 6 rfl) ?_
      refine lv_iload hx hb dL_isRefused_328 (lv_at hl 0 rfl) ?_
      refine lv_iload_n hx hb dL_isRefused_330 rfl (lv_at hl 4 rfl) ?_
      refine y_calli (va_SW (As := [.ref (G 0), .int (nI 3), .int nn]) (rest := []) hx hb hml hown hts (k_L_of_waitsFor l hlt D G h0 c r o nn hI hno) (vx_cwSW 3 hts gL_isRefused_L_of rfl rfl rfl (by decide +kernel) ⟨(Nat.le_of_ble_eq_true rfl), (Nat.le_of_ble_eq_true rfl)⟩) (fun a U g mk q => ⟨q.1, Pr_cg q.2⟩) (fun U hU hW => ⟨rfl, Pr_mk hE hRc hRr hRo hP hD hS hU hW⟩) rfl hl.1 rfl (lv_room (Nat.le_of_ble_eq_true rfl)) dL_isRefused_331 (Nat.le_of_ble_eq_true rfl) (Nat.le_of_ble_eq_true rfl)) hS (fun v9 u9 H locs wl hv9 hRc hRr hRo hP hD hS => ?_)
      obtain ⟨hv9, hce⟩ := hv9
      have hce := hce.symm
      subst hce
      refine n_top (y := .int (-1031)) (congrArg Value.int hv9) ?_
      clear hv9
      refine lv_sipush (v := (-1031)) hx hb dL_isRefused_334 (by decide) ?_
      refine lv_icmp_ne (tgt := 344) hx hb dL_isRefused_337 (by decide) (fun c_337 => absurd c_337 (by decide)) (fun c_337 => ?_)
      refine lv_iconst (v := nI 1) hx hb dL_isRefused_340 (by decide) ?_
      refine lv_goto (tgt := 345) hx hb dL_isRefused_341 (by decide) ?_
      refine lv_istore (lv' := [(7, .int (nI 1)), (8, .int (nI 3)), (5, .long (allI c (c 20 1))), (4, .int tt), (3, .int nn), (2, .int (nI 0)), (0, .ref (G 0)), (1, .int (nI x))]) hx hb dL_isRefused_345 hl (by decide) rfl (fun ls hl => ?_)
      refine lv_iinc (v := nI 4) (lv' := [(8, .int (nI 4)), (7, .int (nI 1)), (5, .long (allI c (c 20 1))), (4, .int tt), (3, .int nn), (2, .int (nI 0)), (0, .ref (G 0)), (1, .int (nI x))]) hx hb dL_isRefused_347 hl (k := 1) rfl (nI_add 3 1) (by decide) rfl (fun ls hl => ?_)
      refine lv_goto (tgt := 316) hx hb dL_isRefused_350 (by decide) ?_
      refine lv_iload hx hb dL_isRefused_316 (lv_at hl 0 rfl) ?_
      refine lv_iconst (v := nI 4) hx hb dL_isRefused_318 (by decide) ?_
      refine n_icmp_ge (tgt := 353) hx hb dL_isRefused_319 (by decide) (by decide) (by decide) (fun c_319 => ?_) (fun c_319 => absurd c_319 (by decide))
      refine lv_iconst (v := nI 0) hx hb dL_isRefused_353 (by decide) ?_
      refine lv_istore (lv' := [(8, .int (nI 0)), (7, .int (nI 1)), (5, .long (allI c (c 20 1))), (4, .int tt), (3, .int nn), (2, .int (nI 0)), (0, .ref (G 0)), (1, .int (nI x))]) hx hb dL_isRefused_354 hl (by decide) rfl (fun ls hl => ?_)
      have L356 : ∀ (d i : Nat), c 20 1 - i < d → i ≤ c 20 1 → ∀ (H : Heap) (locs : List Loc) (wl : va_W) (ls : Array Slot), Rc G c wl → Rr G r wl → Ro G o wl → va_P D vwCl wl H → va_D (fun q => h0 ≤ q) wl → va_S (fun q => h0 ≤ q) s.heap H locs → lv_has ls 10 [(8, .int (nI i)), (7, .int (nI 1)), (0, .ref (G 0)), (1, .int (nI x)), (2, .int (nI 0)), (3, .int nn), (4, .int tt), (5, .long (allI c (c 20 1)))] → W p l e (headSpec wsL_isRefused ({ frames := 9, cells := 508, slots := 69800, locals := 243 } : Room)).room s m ([.ref (G 0), .int (nI x)] : List Value).toArray below meth cd H locs (60 + 56 * i) (2600 + 8400 * i) Q (F0 m 356 ls []) := by
        intro d356
        induction d356 with
        | zero => intro i hd; exact absurd hd (Nat.not_lt_zero _)
        | succ d356 ih356 =>
          intro i hd hi  H locs wl ls hRc hRr hRo hP hD hS hl
          refine lv_iload hx hb dL_isRefused_356 (lv_at hl 0 rfl) ?_
          refine lv_aload_n hx hb dL_isRefused_358 rfl (lv_at hl 2 rfl) ?_
          refine y_calli (va_runV (As := []) (rest := [.int (nI i)]) ⟨hx, hb, hml, hown, hts⟩ (k_X2_units l D G h0 c r o ) (cwV 0 hts gL_isRefused_X2_units rfl rfl rfl (by decide +kernel) ⟨Nat.le_of_ble_eq_true rfl, Nat.le_of_ble_eq_true rfl⟩) ⟨fun a U g mk q => ⟨q.1, Pr_cg q.2⟩, va_recv (ci := 3) (q0 := 0) hK hP rfl (Q_o hRc), fun U hU hW => ⟨rfl, Pr_mk hE hRc hRr hRo hP hD hS hU hW⟩⟩ rfl rfl hl.1 rfl (lv_room (Nat.le_of_ble_eq_true rfl)) dL_isRefused_359 ⟨(show _ ≤ 508 from by omega), (show _ ≤ 69800 from by omega)⟩) hS (fun v9 _ H locs wl hv9 hRc hRr hRo hP hD hS => ?_)
          refine n_top (y := .int (nI (c 20 1))) (congrArg Value.int hv9) ?_
          clear hv9 v9
          refine n_icmp_ge (tgt := 639) hx hb dL_isRefused_362 (by decide) (by omega) (hB _ _ (by decide)) (fun c_362 => ?_) (fun c_362 => ?_)
          · refine lv_iload hx hb dL_isRefused_639 (lv_at hl 1 rfl) ?_
            refine n_if_eq (tgt := 658) hx hb dL_isRefused_641 (by decide) (by decide) (fun c_641 => absurd c_641 (by decide)) (fun c_641 => ?_)
            refine lv_aload_n hx hb dL_isRefused_644 rfl (lv_at hl 2 rfl) ?_
            refine y_calll (va_runS (As := [.ref (G 0)]) (rest := []) ⟨hx, hb, hml, hown, hts⟩ (k_L_all l D G h0 c r o hI) (va_cwS 1 hts gL_isRefused_L_all rfl rfl rfl (by decide +kernel) ⟨Nat.le_of_ble_eq_true rfl, Nat.le_of_ble_eq_true rfl⟩) ⟨fun a U g mk q => ⟨q.1, Pr_cg q.2⟩, fun U hU hW => ⟨rfl, Pr_mk hE hRc hRr hRo hP hD hS hU hW⟩⟩ rfl rfl hl.1 rfl (lv_room (Nat.le_of_ble_eq_true rfl)) dL_isRefused_645 ⟨(show _ ≤ 508 from by omega), (show _ ≤ 69800 from by omega)⟩) hS (fun v9 _ H locs wl hv9 hRc hRr hRo hP hD hS => ?_)
            refine n_top (y := .long (allI c (c 20 1))) (congrArg Value.long hv9) ?_
            clear hv9 v9
            refine lv_lload hx hb dL_isRefused_648 (lv_at hl 7 rfl) ?_
            refine x_lcmp hx hb rfl dL_isRefused_650 ?_
            refine n_top (y := .int (nI 0)) (congrArg Value.int nI_0.symm) ?_
            refine n_if_ne (tgt := 658) hx hb dL_isRefused_651 (by decide) (by decide) (fun c_651 => absurd c_651 (by decide)) (fun c_651 => ?_)
            refine lv_iconst (v := nI 1) hx hb dL_isRefused_654 (by decide) ?_
            refine lv_goto (tgt := 659) hx hb dL_isRefused_655 (by decide) ?_
            rw [hQ]
            refine W.widen (k := 508) (n := 69800) (by omega) (by omega) ?_
            exact W.zret (v := nI 1) (ty := .boolean) hx hb hr (nb_le (by first | exact bN_le _ | decide | omega | assumption)) (fun t ht hW => ⟨⟨_, (), rfl, (show nI 1 = nI 1 from by first | rfl | (apply congrArg nI; omega) | exact congrArg nI (bN_t (by omega)).symm | exact congrArg nI (bN_f (by omega)).symm), Wr_mk hRc hRr hRo hP hD ht⟩, hS.F ht⟩) hS.2.2 dL_isRefused_659
          · have hk : i < c 20 1 := by omega
            refine lv_iload hx hb dL_isRefused_365 (lv_at hl 1 rfl) ?_
            refine n_if_eq (tgt := 639) hx hb dL_isRefused_367 (by decide) (by decide) (fun c_367 => absurd c_367 (by decide)) (fun c_367 => ?_)
            refine lv_iload hx hb dL_isRefused_370 (lv_at hl 0 rfl) ?_
            refine lv_iconst (v := nI 1) hx hb dL_isRefused_372 (by decide) ?_
            refine n_iadd hx hb dL_isRefused_373 ?_
            refine lv_aload_n hx hb dL_isRefused_374 rfl (lv_at hl 2 rfl) ?_
            refine y_calli (va_runV (As := []) (rest := [.int (nI (i + 1))]) ⟨hx, hb, hml, hown, hts⟩ (k_X2_units l D G h0 c r o ) (cwV 0 hts gL_isRefused_X2_units rfl rfl rfl (by decide +kernel) ⟨Nat.le_of_ble_eq_true rfl, Nat.le_of_ble_eq_true rfl⟩) ⟨fun a U g mk q => ⟨q.1, Pr_cg q.2⟩, va_recv (ci := 3) (q0 := 0) hK hP rfl (Q_o hRc), fun U hU hW => ⟨rfl, Pr_mk hE hRc hRr hRo hP hD hS hU hW⟩⟩ rfl rfl hl.1 rfl (lv_room (Nat.le_of_ble_eq_true rfl)) dL_isRefused_375 ⟨(show _ ≤ 508 from by omega), (show _ ≤ 69800 from by omega)⟩) hS (fun v9 _ H locs wl hv9 hRc hRr hRo hP hD hS => ?_)
            refine n_top (y := .int (nI (c 20 1))) (congrArg Value.int hv9) ?_
            clear hv9 v9
            refine n_irem hx hb dL_isRefused_378 (by omega) (by first | omega | decide | assumption) (hB _ _ (by decide)) ?_
            obtain ⟨oo, h_oo⟩ : ∃ z : Nat, z = (i + 1) % (c 20 1) := ⟨_, rfl⟩
            rw [← h_oo]
            have hoo : oo < c 20 1 := by rw [h_oo]; exact Nat.mod_lt _ (by omega)
            refine lv_istore (lv' := [(9, .int (nI oo)), (8, .int (nI i)), (7, .int (nI 1)), (0, .ref (G 0)), (1, .int (nI x)), (2, .int (nI 0)), (3, .int nn), (4, .int tt), (5, .long (allI c (c 20 1)))]) hx hb dL_isRefused_379 hl (by decide) rfl (fun ls hl => ?_)
            refine lv_aload_n hx hb dL_isRefused_381 rfl (lv_at hl 3 rfl) ?_
            refine lv_iconst (v := nI 1) hx hb dL_isRefused_382 (by decide) ?_
            refine lv_iload hx hb dL_isRefused_383 (lv_at hl 1 rfl) ?_
            refine lv_iload_n hx hb dL_isRefused_385 rfl (lv_at hl 6 rfl) ?_
            refine lv_iconst (v := nI 0) hx hb dL_isRefused_386 (by decide) ?_
            refine y_calli (va_SW (As := [.ref (G 0), .int (nI 1), .int (nI i), .int nn, .int (nI 0)]) (rest := []) hx hb hml hown hts (k_L_act_need l hlt D G h0 c r o (nI i) nn (nI 0) hI) (vx_cwSW 5 hts gL_isRefused_L_act rfl rfl rfl (by decide +kernel) ⟨(Nat.le_of_ble_eq_true rfl), (Nat.le_of_ble_eq_true rfl)⟩) (fun a U g mk q => ⟨q.1, Pr_cg q.2⟩) (fun U hU hW => ⟨rfl, Pr_mk hE hRc hRr hRo hP hD hS hU hW⟩) rfl hl.1 rfl (lv_room (Nat.le_of_ble_eq_true rfl)) dL_isRefused_387 (show _ ≤ 508 from by omega) (show _ ≤ 69800 from by omega)) hS (fun v9 u9 H locs wl hv9 hRc hRr hRo hP hD hS => ?_)
            have hw9 := R_needO hv9 (fun z => hno z.2)
            clear hv9
            obtain ⟨hv9, hce⟩ := hw9
            have hce := hce.symm
            subst hce
            refine n_top (y := .int (-1031)) (congrArg Value.int hv9) ?_
            clear hv9
            refine lv_sipush (v := (-1031)) hx hb dL_isRefused_390 (by decide) ?_
            refine lv_icmp_ne (tgt := 630) hx hb dL_isRefused_393 (by decide) (fun c_393 => absurd c_393 (by decide)) (fun c_393 => ?_)
            refine lv_aload_n hx hb dL_isRefused_396 rfl (lv_at hl 3 rfl) ?_
            refine lv_iconst (v := nI 1) hx hb dL_isRefused_397 (by decide) ?_
            refine lv_iload hx hb dL_isRefused_398 (lv_at hl 1 rfl) ?_
            refine lv_iload hx hb dL_isRefused_400 (lv_at hl 1 rfl) ?_
            refine lv_iconst (v := nI 0) hx hb dL_isRefused_402 (by decide) ?_
            refine y_calli (va_SW (As := [.ref (G 0), .int (nI 1), .int (nI i), .int (nI i), .int (nI 0)]) (rest := []) hx hb hml hown hts (k_L_act_need l hlt D G h0 c r o (nI i) (nI i) (nI 0) hI) (vx_cwSW 5 hts gL_isRefused_L_act rfl rfl rfl (by decide +kernel) ⟨(Nat.le_of_ble_eq_true rfl), (Nat.le_of_ble_eq_true rfl)⟩) (fun a U g mk q => ⟨q.1, Pr_cg q.2⟩) (fun U hU hW => ⟨rfl, Pr_mk hE hRc hRr hRo hP hD hS hU hW⟩) rfl hl.1 rfl (lv_room (Nat.le_of_ble_eq_true rfl)) dL_isRefused_403 (show _ ≤ 508 from by omega) (show _ ≤ 69800 from by omega)) hS (fun v9 u9 H locs wl hv9 hRc hRr hRo hP hD hS => ?_)
            have hw9 := R_needS hv9 hk hk hn (Or.inl rfl)
            clear hv9
            obtain ⟨hv9, hce⟩ := hw9
            have hce := hce.symm
            subst hce
            refine n_top (y := .int (-1033)) (congrArg Value.int hv9) ?_
            clear hv9
            refine lv_sipush (v := (-1033)) hx hb dL_isRefused_406 (by decide) ?_
            refine lv_icmp_ne (tgt := 630) hx hb dL_isRefused_409 (by decide) (fun c_409 => absurd c_409 (by decide)) (fun c_409 => ?_)
            refine lv_aload_n hx hb dL_isRefused_412 rfl (lv_at hl 3 rfl) ?_
            refine lv_iconst (v := nI 2) hx hb dL_isRefused_413 (by decide) ?_
            refine lv_iload hx hb dL_isRefused_414 (lv_at hl 1 rfl) ?_
            refine lv_iload_n hx hb dL_isRefused_416 rfl (lv_at hl 6 rfl) ?_
            refine lv_iconst (v := nI 0) hx hb dL_isRefused_417 (by decide) ?_
            refine y_calli (va_SW (As := [.ref (G 0), .int (nI 2), .int (nI i), .int nn, .int (nI 0)]) (rest := []) hx hb hml hown hts (k_L_act_wish l hlt D G h0 c r o (nI i) nn (nI 0) hI hW5) (vx_cwSW 5 hts gL_isRefused_L_act rfl rfl rfl (by decide +kernel) ⟨(Nat.le_of_ble_eq_true rfl), (Nat.le_of_ble_eq_true rfl)⟩) (fun a U g mk q => ⟨q.1, Pr_cg q.2⟩) (fun U hU hW => ⟨rfl, Pr_mk hE hRc hRr hRo hP hD hS hU hW⟩) rfl hl.1 rfl (lv_room (Nat.le_of_ble_eq_true rfl)) dL_isRefused_418 (show _ ≤ 508 from by omega) (show _ ≤ 69800 from by omega)) hS (fun v9 u9 H locs wl hv9 hRc hRr hRo hP hD hS => ?_)
            have hw9 := R_wishO hv9 (fun z => hno z.2)
            clear hv9
            obtain ⟨hv9, hce⟩ := hw9
            have hce := hce.symm
            subst hce
            refine n_top (y := .int (-1031)) (congrArg Value.int hv9) ?_
            clear hv9
            refine lv_sipush (v := (-1031)) hx hb dL_isRefused_421 (by decide) ?_
            refine lv_icmp_ne (tgt := 630) hx hb dL_isRefused_424 (by decide) (fun c_424 => absurd c_424 (by decide)) (fun c_424 => ?_)
            refine lv_aload_n hx hb dL_isRefused_427 rfl (lv_at hl 3 rfl) ?_
            refine lv_iconst (v := nI 2) hx hb dL_isRefused_428 (by decide) ?_
            refine lv_iload hx hb dL_isRefused_429 (lv_at hl 1 rfl) ?_
            refine lv_iload hx hb dL_isRefused_431 (lv_at hl 0 rfl) ?_
            refine lv_iload_n hx hb dL_isRefused_433 rfl (lv_at hl 5 rfl) ?_
            refine n_if_eq (tgt := 441) hx hb dL_isRefused_434 (by decide) (by decide) (fun c_434 => ?_) (fun c_434 => absurd c_434 (by decide))
            refine lv_bipush (v := nI 101) hx hb dL_isRefused_441 (by decide) ?_
            refine y_calli (va_SW (As := [.ref (G 0), .int (nI 2), .int (nI i), .int (nI oo), .int (nI 101)]) (rest := []) hx hb hml hown hts (k_L_act_wish l hlt D G h0 c r o (nI i) (nI oo) (nI 101) hI hW5) (vx_cwSW 5 hts gL_isRefused_L_act rfl rfl rfl (by decide +kernel) ⟨(Nat.le_of_ble_eq_true rfl), (Nat.le_of_ble_eq_true rfl)⟩) (fun a U g mk q => ⟨q.1, Pr_cg q.2⟩) (fun U hU hW => ⟨rfl, Pr_mk hE hRc hRr hRo hP hD hS hU hW⟩) rfl hl.1 rfl (lv_room (Nat.le_of_ble_eq_true rfl)) dL_isRefused_443 (show _ ≤ 508 from by omega) (show _ ≤ 69800 from by omega)) hS (fun v9 u9 H locs wl hv9 hRc hRr hRo hP hD hS => ?_)
            have hw9 := R_wishA hv9 (oku hk) (oku hoo) (fun z => (fun y : inR (nI 101) 1 100 => absurd y.2 (by decide)) z.1) hn
            clear hv9
            obtain ⟨hv9, hce⟩ := hw9
            have hce := hce.symm
            subst hce
            refine n_top (y := .int (-1032)) (congrArg Value.int hv9) ?_
            clear hv9
            refine lv_sipush (v := (-1032)) hx hb dL_isRefused_446 (by decide) ?_
            refine lv_icmp_ne (tgt := 630) hx hb dL_isRefused_449 (by decide) (fun c_449 => absurd c_449 (by decide)) (fun c_449 => ?_)
            refine lv_aload_n hx hb dL_isRefused_452 rfl (lv_at hl 3 rfl) ?_
            refine lv_iconst (v := nI 2) hx hb dL_isRefused_453 (by decide) ?_
            refine lv_iload hx hb dL_isRefused_454 (lv_at hl 1 rfl) ?_
            refine lv_iload hx hb dL_isRefused_456 (lv_at hl 1 rfl) ?_
            refine lv_iconst (v := nI 5) hx hb dL_isRefused_458 (by decide) ?_
            refine y_calli (va_SW (As := [.ref (G 0), .int (nI 2), .int (nI i), .int (nI i), .int (nI 5)]) (rest := []) hx hb hml hown hts (k_L_act_wish l hlt D G h0 c r o (nI i) (nI i) (nI 5) hI hW5) (vx_cwSW 5 hts gL_isRefused_L_act rfl rfl rfl (by decide +kernel) ⟨(Nat.le_of_ble_eq_true rfl), (Nat.le_of_ble_eq_true rfl)⟩) (fun a U g mk q => ⟨q.1, Pr_cg q.2⟩) (fun U hU hW => ⟨rfl, Pr_mk hE hRc hRr hRo hP hD hS hU hW⟩) rfl hl.1 rfl (lv_room (Nat.le_of_ble_eq_true rfl)) dL_isRefused_459 (show _ ≤ 508 from by omega) (show _ ≤ 69800 from by omega)) hS (fun v9 u9 H locs wl hv9 hRc hRr hRo hP hD hS => ?_)
            have hw9 := R_wishA hv9 (oku hk) (oku hk) (fun z => z.2 rfl) hn
            clear hv9
            obtain ⟨hv9, hce⟩ := hw9
            have hce := hce.symm
            subst hce
            refine n_top (y := .int (-1032)) (congrArg Value.int hv9) ?_
            clear hv9
            refine lv_sipush (v := (-1032)) hx hb dL_isRefused_462 (by decide) ?_
            refine lv_icmp_ne (tgt := 630) hx hb dL_isRefused_465 (by decide) (fun c_465 => absurd c_465 (by decide)) (fun c_465 => ?_)
            refine lv_aload_n hx hb dL_isRefused_468 rfl (lv_at hl 3 rfl) ?_
            refine lv_iconst (v := nI 3) hx hb dL_isRefused_469 (by decide) ?_
            refine lv_iload hx hb dL_isRefused_470 (lv_at hl 1 rfl) ?_
            refine lv_iload hx hb dL_isRefused_472 (lv_at hl 7 rfl) ?_
            refine lv_iconst (v := nI 0) hx hb dL_isRefused_474 (by decide) ?_
            refine y_calli (va_SW (As := [.ref (G 0), .int (nI 3), .int (nI i), .int tt, .int (nI 0)]) (rest := []) hx hb hml hown hts (k_L_act_standIn l hlt D G h0 c r o (nI i) tt (nI 0) hI) (vx_cwSW 5 hts gL_isRefused_L_act rfl rfl rfl (by decide +kernel) ⟨(Nat.le_of_ble_eq_true rfl), (Nat.le_of_ble_eq_true rfl)⟩) (fun a U g mk q => ⟨q.1, Pr_cg q.2⟩) (fun U hU hW => ⟨rfl, Pr_mk hE hRc hRr hRo hP hD hS hU hW⟩) rfl hl.1 rfl (lv_room (Nat.le_of_ble_eq_true rfl)) dL_isRefused_475 (show _ ≤ 508 from by omega) (show _ ≤ 69800 from by omega)) hS (fun v9 u9 H locs wl hv9 hRc hRr hRo hP hD hS => ?_)
            have hw9 := R_siO hv9 (fun z => hno2 z.2)
            clear hv9
            obtain ⟨hv9, hce⟩ := hw9
            have hce := hce.symm
            subst hce
            refine n_top (y := .int (-1031)) (congrArg Value.int hv9) ?_
            clear hv9
            refine lv_sipush (v := (-1031)) hx hb dL_isRefused_478 (by decide) ?_
            refine lv_icmp_ne (tgt := 630) hx hb dL_isRefused_481 (by decide) (fun c_481 => absurd c_481 (by decide)) (fun c_481 => ?_)
            refine lv_aload_n hx hb dL_isRefused_484 rfl (lv_at hl 3 rfl) ?_
            refine lv_iconst (v := nI 3) hx hb dL_isRefused_485 (by decide) ?_
            refine lv_iload hx hb dL_isRefused_486 (lv_at hl 1 rfl) ?_
            refine lv_iload hx hb dL_isRefused_488 (lv_at hl 1 rfl) ?_
            refine lv_iconst (v := nI 0) hx hb dL_isRefused_490 (by decide) ?_
            refine y_calli (va_SW (As := [.ref (G 0), .int (nI 3), .int (nI i), .int (nI i), .int (nI 0)]) (rest := []) hx hb hml hown hts (k_L_act_standIn l hlt D G h0 c r o (nI i) (nI i) (nI 0) hI) (vx_cwSW 5 hts gL_isRefused_L_act rfl rfl rfl (by decide +kernel) ⟨(Nat.le_of_ble_eq_true rfl), (Nat.le_of_ble_eq_true rfl)⟩) (fun a U g mk q => ⟨q.1, Pr_cg q.2⟩) (fun U hU hW => ⟨rfl, Pr_mk hE hRc hRr hRo hP hD hS hU hW⟩) rfl hl.1 rfl (lv_room (Nat.le_of_ble_eq_true rfl)) dL_isRefused_491 (show _ ≤ 508 from by omega) (show _ ≤ 69800 from by omega)) hS (fun v9 u9 H locs wl hv9 hRc hRr hRo hP hD hS => ?_)
            have hw9 := R_siA hv9 hk hn
            clear hv9
            obtain ⟨hv9, hce⟩ := hw9
            have hce := hce.symm
            subst hce
            refine n_top (y := .int (-1032)) (congrArg Value.int hv9) ?_
            clear hv9
            refine lv_sipush (v := (-1032)) hx hb dL_isRefused_494 (by decide) ?_
            refine lv_icmp_ne (tgt := 630) hx hb dL_isRefused_497 (by decide) (fun c_497 => absurd c_497 (by decide)) (fun c_497 => ?_)
            refine lv_aload_n hx hb dL_isRefused_500 rfl (lv_at hl 3 rfl) ?_
            refine lv_iconst (v := nI 5) hx hb dL_isRefused_501 (by decide) ?_
            refine lv_iload hx hb dL_isRefused_502 (lv_at hl 1 rfl) ?_
            refine lv_iload_n hx hb dL_isRefused_504 rfl (lv_at hl 5 rfl) ?_
            refine n_if_eq (tgt := 512) hx hb dL_isRefused_505 (by decide) (by decide) (fun c_505 => ?_) (fun c_505 => absurd c_505 (by decide))
            refine lv_bipush (v := nI 11) hx hb dL_isRefused_512 (by decide) ?_
            refine lv_iconst (v := nI 0) hx hb dL_isRefused_514 (by decide) ?_
            refine y_calli (va_SW (As := [.ref (G 0), .int (nI 5), .int (nI i), .int (nI 11), .int (nI 0)]) (rest := []) hx hb hml hown hts (k_L_act_setFaults l hlt D G h0 c r o (nI i) (nI 11) (nI 0) hI) (vx_cwSW 5 hts gL_isRefused_L_act rfl rfl rfl (by decide +kernel) ⟨(Nat.le_of_ble_eq_true rfl), (Nat.le_of_ble_eq_true rfl)⟩) (fun a U g mk q => ⟨q.1, Pr_cg q.2⟩) (fun U hU hW => ⟨rfl, Pr_mk hE hRc hRr hRo hP hD hS hU hW⟩) rfl hl.1 rfl (lv_room (Nat.le_of_ble_eq_true rfl)) dL_isRefused_515 (show _ ≤ 508 from by omega) (show _ ≤ 69800 from by omega)) hS (fun v9 u9 H locs wl hv9 hRc hRr hRo hP hD hS => ?_)
            have hw9 := R_sfA hv9 (oku hk) (fun y : inR (nI 11) 0 10 => absurd y.2 (by decide))
            clear hv9
            obtain ⟨hv9, hce⟩ := hw9
            have hce := hce.symm
            subst hce
            refine n_top (y := .int (-1032)) (congrArg Value.int hv9) ?_
            clear hv9
            refine lv_sipush (v := (-1032)) hx hb dL_isRefused_518 (by decide) ?_
            refine lv_icmp_ne (tgt := 630) hx hb dL_isRefused_521 (by decide) (fun c_521 => absurd c_521 (by decide)) (fun c_521 => ?_)
            refine lv_aload_n hx hb dL_isRefused_524 rfl (lv_at hl 3 rfl) ?_
            refine lv_bipush (v := nI 6) hx hb dL_isRefused_525 (by decide) ?_
            refine lv_iload hx hb dL_isRefused_527 (lv_at hl 1 rfl) ?_
            refine lv_iload_n hx hb dL_isRefused_529 rfl (lv_at hl 5 rfl) ?_
            refine n_if_eq (tgt := 537) hx hb dL_isRefused_530 (by decide) (by decide) (fun c_530 => ?_) (fun c_530 => absurd c_530 (by decide))
            refine lv_bipush (v := nI 101) hx hb dL_isRefused_537 (by decide) ?_
            refine lv_iconst (v := nI 0) hx hb dL_isRefused_539 (by decide) ?_
            refine y_calli (va_SW (As := [.ref (G 0), .int (nI 6), .int (nI i), .int (nI 101), .int (nI 0)]) (rest := []) hx hb hml hown hts (k_L_act_setTime l hlt D G h0 c r o (nI i) (nI 101) (nI 0) hI) (vx_cwSW 5 hts gL_isRefused_L_act rfl rfl rfl (by decide +kernel) ⟨(Nat.le_of_ble_eq_true rfl), (Nat.le_of_ble_eq_true rfl)⟩) (fun a U g mk q => ⟨q.1, Pr_cg q.2⟩) (fun U hU hW => ⟨rfl, Pr_mk hE hRc hRr hRo hP hD hS hU hW⟩) rfl hl.1 rfl (lv_room (Nat.le_of_ble_eq_true rfl)) dL_isRefused_540 (show _ ≤ 508 from by omega) (show _ ≤ 69800 from by omega)) hS (fun v9 u9 H locs wl hv9 hRc hRr hRo hP hD hS => ?_)
            have hw9 := R_stA hv9 (oku hk) (fun y : inR (nI 101) 1 100 => absurd y.2 (by decide))
            clear hv9
            obtain ⟨hv9, hce⟩ := hw9
            have hce := hce.symm
            subst hce
            refine n_top (y := .int (-1032)) (congrArg Value.int hv9) ?_
            clear hv9
            refine lv_sipush (v := (-1032)) hx hb dL_isRefused_543 (by decide) ?_
            refine lv_icmp_ne (tgt := 630) hx hb dL_isRefused_546 (by decide) (fun c_546 => absurd c_546 (by decide)) (fun c_546 => ?_)
            refine lv_aload_n hx hb dL_isRefused_549 rfl (lv_at hl 3 rfl) ?_
            refine y_calli (va_runV (As := []) (rest := []) ⟨hx, hb, hml, hown, hts⟩ (k_X2_goesOn l D G h0 c r o ho.1) (cwV 0 hts gL_isRefused_X2_goesOn rfl rfl rfl (by decide +kernel) ⟨Nat.le_of_ble_eq_true rfl, Nat.le_of_ble_eq_true rfl⟩) ⟨fun a U g mk q => ⟨q.1, Pr_cg q.2⟩, va_recv (ci := 3) (q0 := 0) hK hP rfl (Q_o hRc), fun U hU hW => ⟨rfl, Pr_mk hE hRc hRr hRo hP hD hS hU hW⟩⟩ rfl rfl hl.1 rfl (lv_room (Nat.le_of_ble_eq_true rfl)) dL_isRefused_550 ⟨(show _ ≤ 508 from by omega), (show _ ≤ 69800 from by omega)⟩) hS (fun v9 _ H locs wl hv9 hRc hRr hRo hP hD hS => ?_)
            refine n_top (y := .int (nI (c 20 3))) (congrArg Value.int hv9) ?_
            clear hv9 v9
            refine n_if_eq (tgt := 626) hx hb dL_isRefused_553 (by decide) (ho3 ho.1) (fun c_553 => ?_) (fun c_553 => ?_)
            · refine lv_iconst (v := nI 1) hx hb dL_isRefused_626 (by decide) ?_
              refine lv_goto (tgt := 631) hx hb dL_isRefused_627 (by decide) ?_
              refine lv_istore (lv' := [(7, .int (nI 1)), (9, .int (nI oo)), (8, .int (nI i)), (0, .ref (G 0)), (1, .int (nI x)), (2, .int (nI 0)), (3, .int nn), (4, .int tt), (5, .long (allI c (c 20 1)))]) hx hb dL_isRefused_631 hl (by decide) rfl (fun ls hl => ?_)
              refine lv_iinc (v := nI (i + 1)) (lv' := [(8, .int (nI (i + 1))), (7, .int (nI 1)), (9, .int (nI oo)), (0, .ref (G 0)), (1, .int (nI x)), (2, .int (nI 0)), (3, .int nn), (4, .int tt), (5, .long (allI c (c 20 1)))]) hx hb dL_isRefused_633 hl (k := 2) rfl (nI_add i 1) (by decide) rfl (fun ls hl => ?_)
              refine lv_goto (tgt := 356) hx hb dL_isRefused_636 (by decide) ?_
              refine W.widen (k := 60 + 56 * (i + 1)) (n := 2600 + 8400 * (i + 1)) (by omega) (by omega) ?_
              exact ih356 (i + 1) (by omega) (by omega)   _ _ _ _ hRc hRr hRo hP hD hS (lv_sub hl [0, 1, 3, 4, 5, 6, 7, 8] rfl)
            · exfalso; omega
      refine W.widen (k := 60 + 56 * 0) (n := 2600 + 8400 * 0) (by omega) (by omega) ?_
      exact L356 _ 0 (Nat.lt_succ_self _) (by omega)   _ _ _ _ hRc hRr hRo hP hD hS (lv_sub hl [0, 1, 6, 7, 5, 4, 3, 2] rfl)
    · refine lv_aload_n hx hb dL_isRefused_259 rfl (lv_at hl 4 rfl) ?_
      refine lv_iconst (v := nI 0) hx hb dL_isRefused_260 (by decide) ?_
      refine lv_iconst (v := nI 5) hx hb dL_isRefused_261 (by decide) ?_
      refine lv_iconst (v := nI 0) hx hb dL_isRefused_262 (by decide) ?_
      refine lv_iconst (v := nI 0) hx hb dL_isRefused_263 (by decide) ?_
      refine y_calli (va_SW (As := [.ref (G 0), .int (nI 0), .int (nI 5), .int (nI 0), .int (nI 0)]) (rest := []) hx hb hml hown hts (k_L_act_add l hlt D G h0 c r o (nI 5) (nI 0) (nI 0) hI) (vx_cwSW 5 hts gL_isRefused_L_act rfl rfl rfl (by decide +kernel) ⟨(Nat.le_of_ble_eq_true rfl), (Nat.le_of_ble_eq_true rfl)⟩) (fun a U g mk q => ⟨q.1, Pr_cg q.2⟩) (fun U hU hW => ⟨rfl, Pr_mk hE hRc hRr hRo hP hD hS hU hW⟩) rfl hl.1 rfl (lv_room (Nat.le_of_ble_eq_true rfl)) dL_isRefused_264 (Nat.le_of_ble_eq_true rfl) (Nat.le_of_ble_eq_true rfl)) hS (fun v9 u9 H locs wl hv9 hRc hRr hRo hP hD hS => ?_)
      have hw9 := R_addS hv9 ⟨⟨by decide, by decide⟩, ⟨by decide, by decide⟩⟩ (Nat.ne_of_gt c_256)
      clear hv9
      obtain ⟨hv9, hce⟩ := hw9
      have hce := hce.symm
      subst hce
      refine n_top (y := .int (-1033)) (congrArg Value.int hv9) ?_
      clear hv9
      refine lv_sipush (v := (-1033)) hx hb dL_isRefused_267 (by decide) ?_
      refine lv_icmp_ne (tgt := 310) hx hb dL_isRefused_270 (by decide) (fun c_270 => absurd c_270 (by decide)) (fun c_270 => ?_)
      refine lv_aload_n hx hb dL_isRefused_273 rfl (lv_at hl 4 rfl) ?_
      refine lv_bipush (v := nI 7) hx hb dL_isRefused_274 (by decide) ?_
      refine lv_iconst (v := nI 5) hx hb dL_isRefused_276 (by decide) ?_
      refine lv_iconst (v := nI 0) hx hb dL_isRefused_277 (by decide) ?_
      refine lv_iconst (v := nI 0) hx hb dL_isRefused_278 (by decide) ?_
      refine y_calli (va_SW (As := [.ref (G 0), .int (nI 7), .int (nI 5), .int (nI 0), .int (nI 0)]) (rest := []) hx hb hml hown hts (k_L_act_begin l hlt D G h0 c r o (nI 5) (nI 0) (nI 0) hI hW5) (vx_cwSW 5 hts gL_isRefused_L_act rfl rfl rfl (by decide +kernel) ⟨(Nat.le_of_ble_eq_true rfl), (Nat.le_of_ble_eq_true rfl)⟩) (fun a U g mk q => ⟨q.1, Pr_cg q.2⟩) (fun U hU hW => ⟨rfl, Pr_mk hE hRc hRr hRo hP hD hS hU hW⟩) rfl hl.1 rfl (lv_room (Nat.le_of_ble_eq_true rfl)) dL_isRefused_279 (Nat.le_of_ble_eq_true rfl) (Nat.le_of_ble_eq_true rfl)) hS (fun v9 u9 H locs wl hv9 hRc hRr hRo hP hD hS => ?_)
      have hw9 := R_begS hv9 ⟨by decide, by decide⟩ (Nat.ne_of_gt c_256)
      clear hv9
      obtain ⟨hv9, hce⟩ := hw9
      have hce := hce.symm
      subst hce
      refine n_top (y := .int (-1033)) (congrArg Value.int hv9) ?_
      clear hv9
      refine lv_sipush (v := (-1033)) hx hb dL_isRefused_282 (by decide) ?_
      refine lv_icmp_ne (tgt := 310) hx hb dL_isRefused_285 (by decide) (fun c_285 => absurd c_285 (by decide)) (fun c_285 => ?_)
      refine lv_goto (tgt := 306) hx hb dL_isRefused_288 (by decide) ?_
      refine lv_iconst (v := nI 1) hx hb dL_isRefused_306 (by decide) ?_
      refine lv_goto (tgt := 311) hx hb dL_isRefused_307 (by decide) ?_
      refine lv_istore (lv' := [(7, .int (nI 1)), (5, .long (allI c (c 20 1))), (4, .int tt), (3, .int nn), (2, .int (nI 0)), (0, .ref (G 0)), (1, .int (nI x))]) hx hb dL_isRefused_311 hl (by decide) rfl (fun ls hl => ?_)
      refine lv_iconst (v := nI 0) hx hb dL_isRefused_313 (by decide) ?_
      refine lv_istore (lv' := [(8, .int (nI 0)), (7, .int (nI 1)), (5, .long (allI c (c 20 1))), (4, .int tt), (3, .int nn), (2, .int (nI 0)), (0, .ref (G 0)), (1, .int (nI x))]) hx hb dL_isRefused_314 hl (by decide) rfl (fun ls hl => ?_)
      refine lv_iload hx hb dL_isRefused_316 (lv_at hl 0 rfl) ?_
      refine lv_iconst (v := nI 4) hx hb dL_isRefused_318 (by decide) ?_
      refine n_icmp_ge (tgt := 353) hx hb dL_isRefused_319 (by decide) (by decide) (by decide) (fun c_319 => absurd c_319 (by decide)) (fun c_319 => ?_)
      refine lv_iload hx hb dL_isRefused_322 (lv_at hl 1 rfl) ?_
      refine n_if_eq (tgt := 353) hx hb dL_isRefused_324 (by decide) (by decide) (fun c_324 => absurd c_324 (by decide)) (fun c_324 => ?_)
      refine lv_aload_n hx hb dL_isRefused_327 rfl (lv_at hl 6 rfl) ?_
      refine lv_iload hx hb dL_isRefused_328 (lv_at hl 0 rfl) ?_
      refine lv_iload_n hx hb dL_isRefused_330 rfl (lv_at hl 4 rfl) ?_
      refine y_calli (va_SW (As := [.ref (G 0), .int (nI 0), .int nn]) (rest := []) hx hb hml hown hts (k_L_of_learned l hlt D G h0 c r o nn hI hno) (vx_cwSW 3 hts gL_isRefused_L_of rfl rfl rfl (by decide +kernel) ⟨(Nat.le_of_ble_eq_true rfl), (Nat.le_of_ble_eq_true rfl)⟩) (fun a U g mk q => ⟨q.1, Pr_cg q.2⟩) (fun U hU hW => ⟨rfl, Pr_mk hE hRc hRr hRo hP hD hS hU hW⟩) rfl hl.1 rfl (lv_room (Nat.le_of_ble_eq_true rfl)) dL_isRefused_331 (Nat.le_of_ble_eq_true rfl) (Nat.le_of_ble_eq_true rfl)) hS (fun v9 u9 H locs wl hv9 hRc hRr hRo hP hD hS => ?_)
      obtain ⟨hv9, hce⟩ := hv9
      have hce := hce.symm
      subst hce
      refine n_top (y := .int (-1031)) (congrArg Value.int hv9) ?_
      clear hv9
      refine lv_sipush (v := (-1031)) hx hb dL_isRefused_334 (by decide) ?_
      refine lv_icmp_ne (tgt := 344) hx hb dL_isRefused_337 (by decide) (fun c_337 => absurd c_337 (by decide)) (fun c_337 => ?_)
      refine lv_iconst (v := nI 1) hx hb dL_isRefused_340 (by decide) ?_
      refine lv_goto (tgt := 345) hx hb dL_isRefused_341 (by decide) ?_
      refine lv_istore (lv' := [(7, .int (nI 1)), (8, .int (nI 0)), (5, .long (allI c (c 20 1))), (4, .int tt), (3, .int nn), (2, .int (nI 0)), (0, .ref (G 0)), (1, .int (nI x))]) hx hb dL_isRefused_345 hl (by decide) rfl (fun ls hl => ?_)
      refine lv_iinc (v := nI 1) (lv' := [(8, .int (nI 1)), (7, .int (nI 1)), (5, .long (allI c (c 20 1))), (4, .int tt), (3, .int nn), (2, .int (nI 0)), (0, .ref (G 0)), (1, .int (nI x))]) hx hb dL_isRefused_347 hl (k := 1) rfl (nI_add 0 1) (by decide) rfl (fun ls hl => ?_)
      refine lv_goto (tgt := 316) hx hb dL_isRefused_350 (by decide) ?_
      refine lv_iload hx hb dL_isRefused_316 (lv_at hl 0 rfl) ?_
      refine lv_iconst (v := nI 4) hx hb dL_isRefused_318 (by decide) ?_
      refine n_icmp_ge (tgt := 353) hx hb dL_isRefused_319 (by decide) (by decide) (by decide) (fun c_319 => absurd c_319 (by decide)) (fun c_319 => ?_)
      refine lv_iload hx hb dL_isRefused_322 (lv_at hl 1 rfl) ?_
      refine n_if_eq (tgt := 353) hx hb dL_isRefused_324 (by decide) (by decide) (fun c_324 => absurd c_324 (by decide)) (fun c_324 => ?_)
      refine lv_aload_n hx hb dL_isRefused_327 rfl (lv_at hl 6 rfl) ?_
      refine lv_iload hx hb dL_isRefused_328 (lv_at hl 0 rfl) ?_
      refine lv_iload_n hx hb dL_isRefused_330 rfl (lv_at hl 4 rfl) ?_
      refine y_calli (va_SW (As := [.ref (G 0), .int (nI 1), .int nn]) (rest := []) hx hb hml hown hts (k_L_of_faults l hlt D G h0 c r o nn hI hno) (vx_cwSW 3 hts gL_isRefused_L_of rfl rfl rfl (by decide +kernel) ⟨(Nat.le_of_ble_eq_true rfl), (Nat.le_of_ble_eq_true rfl)⟩) (fun a U g mk q => ⟨q.1, Pr_cg q.2⟩) (fun U hU hW => ⟨rfl, Pr_mk hE hRc hRr hRo hP hD hS hU hW⟩) rfl hl.1 rfl (lv_room (Nat.le_of_ble_eq_true rfl)) dL_isRefused_331 (Nat.le_of_ble_eq_true rfl) (Nat.le_of_ble_eq_true rfl)) hS (fun v9 u9 H locs wl hv9 hRc hRr hRo hP hD hS => ?_)
      obtain ⟨hv9, hce⟩ := hv9
      have hce := hce.symm
      subst hce
      refine n_top (y := .int (-1031)) (congrArg Value.int hv9) ?_
      clear hv9
      refine lv_sipush (v := (-1031)) hx hb dL_isRefused_334 (by decide) ?_
      refine lv_icmp_ne (tgt := 344) hx hb dL_isRefused_337 (by decide) (fun c_337 => absurd c_337 (by decide)) (fun c_337 => ?_)
      refine lv_iconst (v := nI 1) hx hb dL_isRefused_340 (by decide) ?_
      refine lv_goto (tgt := 345) hx hb dL_isRefused_341 (by decide) ?_
      refine lv_istore (lv' := [(7, .int (nI 1)), (8, .int (nI 1)), (5, .long (allI c (c 20 1))), (4, .int tt), (3, .int nn), (2, .int (nI 0)), (0, .ref (G 0)), (1, .int (nI x))]) hx hb dL_isRefused_345 hl (by decide) rfl (fun ls hl => ?_)
      refine lv_iinc (v := nI 2) (lv' := [(8, .int (nI 2)), (7, .int (nI 1)), (5, .long (allI c (c 20 1))), (4, .int tt), (3, .int nn), (2, .int (nI 0)), (0, .ref (G 0)), (1, .int (nI x))]) hx hb dL_isRefused_347 hl (k := 1) rfl (nI_add 1 1) (by decide) rfl (fun ls hl => ?_)
      refine lv_goto (tgt := 316) hx hb dL_isRefused_350 (by decide) ?_
      refine lv_iload hx hb dL_isRefused_316 (lv_at hl 0 rfl) ?_
      refine lv_iconst (v := nI 4) hx hb dL_isRefused_318 (by decide) ?_
      refine n_icmp_ge (tgt := 353) hx hb dL_isRefused_319 (by decide) (by decide) (by decide) (fun c_319 => absurd c_319 (by decide)) (fun c_319 => ?_)
      refine lv_iload hx hb dL_isRefused_322 (lv_at hl 1 rfl) ?_
      refine n_if_eq (tgt := 353) hx hb dL_isRefused_324 (by decide) (by decide) (fun c_324 => absurd c_324 (by decide)) (fun c_324 => ?_)
      refine lv_aload_n hx hb dL_isRefused_327 rfl (lv_at hl 6 rfl) ?_
      refine lv_iload hx hb dL_isRefused_328 (lv_at hl 0 rfl) ?_
      refine lv_iload_n hx hb dL_isRefused_330 rfl (lv_at hl 4 rfl) ?_
      refine y_calli (va_SW (As := [.ref (G 0), .int (nI 2), .int nn]) (rest := []) hx hb hml hown hts (k_L_of_state l hlt D G h0 c r o nn hI hno) (vx_cwSW 3 hts gL_isRefused_L_of rfl rfl rfl (by decide +kernel) ⟨(Nat.le_of_ble_eq_true rfl), (Nat.le_of_ble_eq_true rfl)⟩) (fun a U g mk q => ⟨q.1, Pr_cg q.2⟩) (fun U hU hW => ⟨rfl, Pr_mk hE hRc hRr hRo hP hD hS hU hW⟩) rfl hl.1 rfl (lv_room (Nat.le_of_ble_eq_true rfl)) dL_isRefused_331 (Nat.le_of_ble_eq_true rfl) (Nat.le_of_ble_eq_true rfl)) hS (fun v9 u9 H locs wl hv9 hRc hRr hRo hP hD hS => ?_)
      obtain ⟨hv9, hce⟩ := hv9
      have hce := hce.symm
      subst hce
      refine n_top (y := .int (-1031)) (congrArg Value.int hv9) ?_
      clear hv9
      refine lv_sipush (v := (-1031)) hx hb dL_isRefused_334 (by decide) ?_
      refine lv_icmp_ne (tgt := 344) hx hb dL_isRefused_337 (by decide) (fun c_337 => absurd c_337 (by decide)) (fun c_337 => ?_)
      refine lv_iconst (v := nI 1) hx hb dL_isRefused_340 (by decide) ?_
      refine lv_goto (tgt := 345) hx hb dL_isRefused_341 (by decide) ?_
      refine lv_istore (lv' := [(7, .int (nI 1)), (8, .int (nI 2)), (5, .long (allI c (c 20 1))), (4, .int tt), (3, .int nn), (2, .int (nI 0)), (0, .ref (G 0)), (1, .int (nI x))]) hx hb dL_isRefused_345 hl (by decide) rfl (fun ls hl => ?_)
      refine lv_iinc (v := nI 3) (lv' := [(8, .int (nI 3)), (7, .int (nI 1)), (5, .long (allI c (c 20 1))), (4, .int tt), (3, .int nn), (2, .int (nI 0)), (0, .ref (G 0)), (1, .int (nI x))]) hx hb dL_isRefused_347 hl (k := 1) rfl (nI_add 2 1) (by decide) rfl (fun ls hl => ?_)
      refine lv_goto (tgt := 316) hx hb dL_isRefused_350 (by decide) ?_
      refine lv_iload hx hb dL_isRefused_316 (lv_at hl 0 rfl) ?_
      refine lv_iconst (v := nI 4) hx hb dL_isRefused_318 (by decide) ?_
      refine n_icmp_ge (tgt := 353) hx hb dL_isRefused_319 (by decide) (by decide) (by decide) (fun c_319 => absurd c_319 (by decide)) (fun c_319 => ?_)
      refine lv_iload hx hb dL_isRefused_322 (lv_at hl 1 rfl) ?_
      refine n_if_eq (tgt := 353) hx hb dL_isRefused_324 (by decide) (by decide) (fun c_324 => absurd c_324 (by decide)) (fun c_324 => ?_)
      refine lv_aload_n hx hb dL_isRefused_327 rfl (lv_at hl 6 rfl) ?_
      refine lv_iload hx hb dL_isRefused_328 (lv_at hl 0 rfl) ?_
      refine lv_iload_n hx hb dL_isRefused_330 rfl (lv_at hl 4 rfl) ?_
      refine y_calli (va_SW (As := [.ref (G 0), .int (nI 3), .int nn]) (rest := []) hx hb hml hown hts (k_L_of_waitsFor l hlt D G h0 c r o nn hI hno) (vx_cwSW 3 hts gL_isRefused_L_of rfl rfl rfl (by decide +kernel) ⟨(Nat.le_of_ble_eq_true rfl), (Nat.le_of_ble_eq_true rfl)⟩) (fun a U g mk q => ⟨q.1, Pr_cg q.2⟩) (fun U hU hW => ⟨rfl, Pr_mk hE hRc hRr hRo hP hD hS hU hW⟩) rfl hl.1 rfl (lv_room (Nat.le_of_ble_eq_true rfl)) dL_isRefused_331 (Nat.le_of_ble_eq_true rfl) (Nat.le_of_ble_eq_true rfl)) hS (fun v9 u9 H locs wl hv9 hRc hRr hRo hP hD hS => ?_)
      obtain ⟨hv9, hce⟩ := hv9
      have hce := hce.symm
      subst hce
      refine n_top (y := .int (-1031)) (congrArg Value.int hv9) ?_
      clear hv9
      refine lv_sipush (v := (-1031)) hx hb dL_isRefused_334 (by decide) ?_
      refine lv_icmp_ne (tgt := 344) hx hb dL_isRefused_337 (by decide) (fun c_337 => absurd c_337 (by decide)) (fun c_337 => ?_)
      refine lv_iconst (v := nI 1) hx hb dL_isRefused_340 (by decide) ?_
      refine lv_goto (tgt := 345) hx hb dL_isRefused_341 (by decide) ?_
      refine lv_istore (lv' := [(7, .int (nI 1)), (8, .int (nI 3)), (5, .long (allI c (c 20 1))), (4, .int tt), (3, .int nn), (2, .int (nI 0)), (0, .ref (G 0)), (1, .int (nI x))]) hx hb dL_isRefused_345 hl (by decide) rfl (fun ls hl => ?_)
      refine lv_iinc (v := nI 4) (lv' := [(8, .int (nI 4)), (7, .int (nI 1)), (5, .long (allI c (c 20 1))), (4, .int tt), (3, .int nn), (2, .int (nI 0)), (0, .ref (G 0)), (1, .int (nI x))]) hx hb dL_isRefused_347 hl (k := 1) rfl (nI_add 3 1) (by decide) rfl (fun ls hl => ?_)
      refine lv_goto (tgt := 316) hx hb dL_isRefused_350 (by decide) ?_
      refine lv_iload hx hb dL_isRefused_316 (lv_at hl 0 rfl) ?_
      refine lv_iconst (v := nI 4) hx hb dL_isRefused_318 (by decide) ?_
      refine n_icmp_ge (tgt := 353) hx hb dL_isRefused_319 (by decide) (by decide) (by decide) (fun c_319 => ?_) (fun c_319 => absurd c_319 (by decide))
      refine lv_iconst (v := nI 0) hx hb dL_isRefused_353 (by decide) ?_
      refine lv_istore (lv' := [(8, .int (nI 0)), (7, .int (nI 1)), (5, .long (allI c (c 20 1))), (4, .int tt), (3, .int nn), (2, .int (nI 0)), (0, .ref (G 0)), (1, .int (nI x))]) hx hb dL_isRefused_354 hl (by decide) rfl (fun ls hl => ?_)
      have L356 : ∀ (d i : Nat), c 20 1 - i < d → i ≤ c 20 1 → ∀ (H : Heap) (locs : List Loc) (wl : va_W) (ls : Array Slot), Rc G c wl → Rr G r wl → Ro G o wl → va_P D vwCl wl H → va_D (fun q => h0 ≤ q) wl → va_S (fun q => h0 ≤ q) s.heap H locs → lv_has ls 10 [(8, .int (nI i)), (7, .int (nI 1)), (0, .ref (G 0)), (1, .int (nI x)), (2, .int (nI 0)), (3, .int nn), (4, .int tt), (5, .long (allI c (c 20 1)))] → W p l e (headSpec wsL_isRefused ({ frames := 9, cells := 508, slots := 69800, locals := 243 } : Room)).room s m ([.ref (G 0), .int (nI x)] : List Value).toArray below meth cd H locs (60 + 56 * i) (2600 + 8400 * i) Q (F0 m 356 ls []) := by
        intro d356
        induction d356 with
        | zero => intro i hd; exact absurd hd (Nat.not_lt_zero _)
        | succ d356 ih356 =>
          intro i hd hi  H locs wl ls hRc hRr hRo hP hD hS hl
          refine lv_iload hx hb dL_isRefused_356 (lv_at hl 0 rfl) ?_
          refine lv_aload_n hx hb dL_isRefused_358 rfl (lv_at hl 2 rfl) ?_
          refine y_calli (va_runV (As := []) (rest := [.int (nI i)]) ⟨hx, hb, hml, hown, hts⟩ (k_X2_units l D G h0 c r o ) (cwV 0 hts gL_isRefused_X2_units rfl rfl rfl (by decide +kernel) ⟨Nat.le_of_ble_eq_true rfl, Nat.le_of_ble_eq_true rfl⟩) ⟨fun a U g mk q => ⟨q.1, Pr_cg q.2⟩, va_recv (ci := 3) (q0 := 0) hK hP rfl (Q_o hRc), fun U hU hW => ⟨rfl, Pr_mk hE hRc hRr hRo hP hD hS hU hW⟩⟩ rfl rfl hl.1 rfl (lv_room (Nat.le_of_ble_eq_true rfl)) dL_isRefused_359 ⟨(show _ ≤ 508 from by omega), (show _ ≤ 69800 from by omega)⟩) hS (fun v9 _ H locs wl hv9 hRc hRr hRo hP hD hS => ?_)
          refine n_top (y := .int (nI (c 20 1))) (congrArg Value.int hv9) ?_
          clear hv9 v9
          refine n_icmp_ge (tgt := 639) hx hb dL_isRefused_362 (by decide) (by omega) (hB _ _ (by decide)) (fun c_362 => ?_) (fun c_362 => ?_)
          · refine lv_iload hx hb dL_isRefused_639 (lv_at hl 1 rfl) ?_
            refine n_if_eq (tgt := 658) hx hb dL_isRefused_641 (by decide) (by decide) (fun c_641 => absurd c_641 (by decide)) (fun c_641 => ?_)
            refine lv_aload_n hx hb dL_isRefused_644 rfl (lv_at hl 2 rfl) ?_
            refine y_calll (va_runS (As := [.ref (G 0)]) (rest := []) ⟨hx, hb, hml, hown, hts⟩ (k_L_all l D G h0 c r o hI) (va_cwS 1 hts gL_isRefused_L_all rfl rfl rfl (by decide +kernel) ⟨Nat.le_of_ble_eq_true rfl, Nat.le_of_ble_eq_true rfl⟩) ⟨fun a U g mk q => ⟨q.1, Pr_cg q.2⟩, fun U hU hW => ⟨rfl, Pr_mk hE hRc hRr hRo hP hD hS hU hW⟩⟩ rfl rfl hl.1 rfl (lv_room (Nat.le_of_ble_eq_true rfl)) dL_isRefused_645 ⟨(show _ ≤ 508 from by omega), (show _ ≤ 69800 from by omega)⟩) hS (fun v9 _ H locs wl hv9 hRc hRr hRo hP hD hS => ?_)
            refine n_top (y := .long (allI c (c 20 1))) (congrArg Value.long hv9) ?_
            clear hv9 v9
            refine lv_lload hx hb dL_isRefused_648 (lv_at hl 7 rfl) ?_
            refine x_lcmp hx hb rfl dL_isRefused_650 ?_
            refine n_top (y := .int (nI 0)) (congrArg Value.int nI_0.symm) ?_
            refine n_if_ne (tgt := 658) hx hb dL_isRefused_651 (by decide) (by decide) (fun c_651 => absurd c_651 (by decide)) (fun c_651 => ?_)
            refine lv_iconst (v := nI 1) hx hb dL_isRefused_654 (by decide) ?_
            refine lv_goto (tgt := 659) hx hb dL_isRefused_655 (by decide) ?_
            rw [hQ]
            refine W.widen (k := 508) (n := 69800) (by omega) (by omega) ?_
            exact W.zret (v := nI 1) (ty := .boolean) hx hb hr (nb_le (by first | exact bN_le _ | decide | omega | assumption)) (fun t ht hW => ⟨⟨_, (), rfl, (show nI 1 = nI 1 from by first | rfl | (apply congrArg nI; omega) | exact congrArg nI (bN_t (by omega)).symm | exact congrArg nI (bN_f (by omega)).symm), Wr_mk hRc hRr hRo hP hD ht⟩, hS.F ht⟩) hS.2.2 dL_isRefused_659
          · have hk : i < c 20 1 := by omega
            refine lv_iload hx hb dL_isRefused_365 (lv_at hl 1 rfl) ?_
            refine n_if_eq (tgt := 639) hx hb dL_isRefused_367 (by decide) (by decide) (fun c_367 => absurd c_367 (by decide)) (fun c_367 => ?_)
            refine lv_iload hx hb dL_isRefused_370 (lv_at hl 0 rfl) ?_
            refine lv_iconst (v := nI 1) hx hb dL_isRefused_372 (by decide) ?_
            refine n_iadd hx hb dL_isRefused_373 ?_
            refine lv_aload_n hx hb dL_isRefused_374 rfl (lv_at hl 2 rfl) ?_
            refine y_calli (va_runV (As := []) (rest := [.int (nI (i + 1))]) ⟨hx, hb, hml, hown, hts⟩ (k_X2_units l D G h0 c r o ) (cwV 0 hts gL_isRefused_X2_units rfl rfl rfl (by decide +kernel) ⟨Nat.le_of_ble_eq_true rfl, Nat.le_of_ble_eq_true rfl⟩) ⟨fun a U g mk q => ⟨q.1, Pr_cg q.2⟩, va_recv (ci := 3) (q0 := 0) hK hP rfl (Q_o hRc), fun U hU hW => ⟨rfl, Pr_mk hE hRc hRr hRo hP hD hS hU hW⟩⟩ rfl rfl hl.1 rfl (lv_room (Nat.le_of_ble_eq_true rfl)) dL_isRefused_375 ⟨(show _ ≤ 508 from by omega), (show _ ≤ 69800 from by omega)⟩) hS (fun v9 _ H locs wl hv9 hRc hRr hRo hP hD hS => ?_)
            refine n_top (y := .int (nI (c 20 1))) (congrArg Value.int hv9) ?_
            clear hv9 v9
            refine n_irem hx hb dL_isRefused_378 (by omega) (by first | omega | decide | assumption) (hB _ _ (by decide)) ?_
            obtain ⟨oo, h_oo⟩ : ∃ z : Nat, z = (i + 1) % (c 20 1) := ⟨_, rfl⟩
            rw [← h_oo]
            have hoo : oo < c 20 1 := by rw [h_oo]; exact Nat.mod_lt _ (by omega)
            refine lv_istore (lv' := [(9, .int (nI oo)), (8, .int (nI i)), (7, .int (nI 1)), (0, .ref (G 0)), (1, .int (nI x)), (2, .int (nI 0)), (3, .int nn), (4, .int tt), (5, .long (allI c (c 20 1)))]) hx hb dL_isRefused_379 hl (by decide) rfl (fun ls hl => ?_)
            refine lv_aload_n hx hb dL_isRefused_381 rfl (lv_at hl 3 rfl) ?_
            refine lv_iconst (v := nI 1) hx hb dL_isRefused_382 (by decide) ?_
            refine lv_iload hx hb dL_isRefused_383 (lv_at hl 1 rfl) ?_
            refine lv_iload_n hx hb dL_isRefused_385 rfl (lv_at hl 6 rfl) ?_
            refine lv_iconst (v := nI 0) hx hb dL_isRefused_386 (by decide) ?_
            refine y_calli (va_SW (As := [.ref (G 0), .int (nI 1), .int (nI i), .int nn, .int (nI 0)]) (rest := []) hx hb hml hown hts (k_L_act_need l hlt D G h0 c r o (nI i) nn (nI 0) hI) (vx_cwSW 5 hts gL_isRefused_L_act rfl rfl rfl (by decide +kernel) ⟨(Nat.le_of_ble_eq_true rfl), (Nat.le_of_ble_eq_true rfl)⟩) (fun a U g mk q => ⟨q.1, Pr_cg q.2⟩) (fun U hU hW => ⟨rfl, Pr_mk hE hRc hRr hRo hP hD hS hU hW⟩) rfl hl.1 rfl (lv_room (Nat.le_of_ble_eq_true rfl)) dL_isRefused_387 (show _ ≤ 508 from by omega) (show _ ≤ 69800 from by omega)) hS (fun v9 u9 H locs wl hv9 hRc hRr hRo hP hD hS => ?_)
            have hw9 := R_needO hv9 (fun z => hno z.2)
            clear hv9
            obtain ⟨hv9, hce⟩ := hw9
            have hce := hce.symm
            subst hce
            refine n_top (y := .int (-1031)) (congrArg Value.int hv9) ?_
            clear hv9
            refine lv_sipush (v := (-1031)) hx hb dL_isRefused_390 (by decide) ?_
            refine lv_icmp_ne (tgt := 630) hx hb dL_isRefused_393 (by decide) (fun c_393 => absurd c_393 (by decide)) (fun c_393 => ?_)
            refine lv_aload_n hx hb dL_isRefused_396 rfl (lv_at hl 3 rfl) ?_
            refine lv_iconst (v := nI 1) hx hb dL_isRefused_397 (by decide) ?_
            refine lv_iload hx hb dL_isRefused_398 (lv_at hl 1 rfl) ?_
            refine lv_iload hx hb dL_isRefused_400 (lv_at hl 1 rfl) ?_
            refine lv_iconst (v := nI 0) hx hb dL_isRefused_402 (by decide) ?_
            refine y_calli (va_SW (As := [.ref (G 0), .int (nI 1), .int (nI i), .int (nI i), .int (nI 0)]) (rest := []) hx hb hml hown hts (k_L_act_need l hlt D G h0 c r o (nI i) (nI i) (nI 0) hI) (vx_cwSW 5 hts gL_isRefused_L_act rfl rfl rfl (by decide +kernel) ⟨(Nat.le_of_ble_eq_true rfl), (Nat.le_of_ble_eq_true rfl)⟩) (fun a U g mk q => ⟨q.1, Pr_cg q.2⟩) (fun U hU hW => ⟨rfl, Pr_mk hE hRc hRr hRo hP hD hS hU hW⟩) rfl hl.1 rfl (lv_room (Nat.le_of_ble_eq_true rfl)) dL_isRefused_403 (show _ ≤ 508 from by omega) (show _ ≤ 69800 from by omega)) hS (fun v9 u9 H locs wl hv9 hRc hRr hRo hP hD hS => ?_)
            have hw9 := R_needS hv9 hk hk hn (Or.inl rfl)
            clear hv9
            obtain ⟨hv9, hce⟩ := hw9
            have hce := hce.symm
            subst hce
            refine n_top (y := .int (-1033)) (congrArg Value.int hv9) ?_
            clear hv9
            refine lv_sipush (v := (-1033)) hx hb dL_isRefused_406 (by decide) ?_
            refine lv_icmp_ne (tgt := 630) hx hb dL_isRefused_409 (by decide) (fun c_409 => absurd c_409 (by decide)) (fun c_409 => ?_)
            refine lv_aload_n hx hb dL_isRefused_412 rfl (lv_at hl 3 rfl) ?_
            refine lv_iconst (v := nI 2) hx hb dL_isRefused_413 (by decide) ?_
            refine lv_iload hx hb dL_isRefused_414 (lv_at hl 1 rfl) ?_
            refine lv_iload_n hx hb dL_isRefused_416 rfl (lv_at hl 6 rfl) ?_
            refine lv_iconst (v := nI 0) hx hb dL_isRefused_417 (by decide) ?_
            refine y_calli (va_SW (As := [.ref (G 0), .int (nI 2), .int (nI i), .int nn, .int (nI 0)]) (rest := []) hx hb hml hown hts (k_L_act_wish l hlt D G h0 c r o (nI i) nn (nI 0) hI hW5) (vx_cwSW 5 hts gL_isRefused_L_act rfl rfl rfl (by decide +kernel) ⟨(Nat.le_of_ble_eq_true rfl), (Nat.le_of_ble_eq_true rfl)⟩) (fun a U g mk q => ⟨q.1, Pr_cg q.2⟩) (fun U hU hW => ⟨rfl, Pr_mk hE hRc hRr hRo hP hD hS hU hW⟩) rfl hl.1 rfl (lv_room (Nat.le_of_ble_eq_true rfl)) dL_isRefused_418 (show _ ≤ 508 from by omega) (show _ ≤ 69800 from by omega)) hS (fun v9 u9 H locs wl hv9 hRc hRr hRo hP hD hS => ?_)
            have hw9 := R_wishO hv9 (fun z => hno z.2)
            clear hv9
            obtain ⟨hv9, hce⟩ := hw9
            have hce := hce.symm
            subst hce
            refine n_top (y := .int (-1031)) (congrArg Value.int hv9) ?_
            clear hv9
            refine lv_sipush (v := (-1031)) hx hb dL_isRefused_421 (by decide) ?_
            refine lv_icmp_ne (tgt := 630) hx hb dL_isRefused_424 (by decide) (fun c_424 => absurd c_424 (by decide)) (fun c_424 => ?_)
            refine lv_aload_n hx hb dL_isRefused_427 rfl (lv_at hl 3 rfl) ?_
            refine lv_iconst (v := nI 2) hx hb dL_isRefused_428 (by decide) ?_
            refine lv_iload hx hb dL_isRefused_429 (lv_at hl 1 rfl) ?_
            refine lv_iload hx hb dL_isRefused_431 (lv_at hl 0 rfl) ?_
            refine lv_iload_n hx hb dL_isRefused_433 rfl (lv_at hl 5 rfl) ?_
            refine n_if_eq (tgt := 441) hx hb dL_isRefused_434 (by decide) (by decide) (fun c_434 => ?_) (fun c_434 => absurd c_434 (by decide))
            refine lv_bipush (v := nI 101) hx hb dL_isRefused_441 (by decide) ?_
            refine y_calli (va_SW (As := [.ref (G 0), .int (nI 2), .int (nI i), .int (nI oo), .int (nI 101)]) (rest := []) hx hb hml hown hts (k_L_act_wish l hlt D G h0 c r o (nI i) (nI oo) (nI 101) hI hW5) (vx_cwSW 5 hts gL_isRefused_L_act rfl rfl rfl (by decide +kernel) ⟨(Nat.le_of_ble_eq_true rfl), (Nat.le_of_ble_eq_true rfl)⟩) (fun a U g mk q => ⟨q.1, Pr_cg q.2⟩) (fun U hU hW => ⟨rfl, Pr_mk hE hRc hRr hRo hP hD hS hU hW⟩) rfl hl.1 rfl (lv_room (Nat.le_of_ble_eq_true rfl)) dL_isRefused_443 (show _ ≤ 508 from by omega) (show _ ≤ 69800 from by omega)) hS (fun v9 u9 H locs wl hv9 hRc hRr hRo hP hD hS => ?_)
            have hw9 := R_wishA hv9 (oku hk) (oku hoo) (fun z => (fun y : inR (nI 101) 1 100 => absurd y.2 (by decide)) z.1) hn
            clear hv9
            obtain ⟨hv9, hce⟩ := hw9
            have hce := hce.symm
            subst hce
            refine n_top (y := .int (-1032)) (congrArg Value.int hv9) ?_
            clear hv9
            refine lv_sipush (v := (-1032)) hx hb dL_isRefused_446 (by decide) ?_
            refine lv_icmp_ne (tgt := 630) hx hb dL_isRefused_449 (by decide) (fun c_449 => absurd c_449 (by decide)) (fun c_449 => ?_)
            refine lv_aload_n hx hb dL_isRefused_452 rfl (lv_at hl 3 rfl) ?_
            refine lv_iconst (v := nI 2) hx hb dL_isRefused_453 (by decide) ?_
            refine lv_iload hx hb dL_isRefused_454 (lv_at hl 1 rfl) ?_
            refine lv_iload hx hb dL_isRefused_456 (lv_at hl 1 rfl) ?_
            refine lv_iconst (v := nI 5) hx hb dL_isRefused_458 (by decide) ?_
            refine y_calli (va_SW (As := [.ref (G 0), .int (nI 2), .int (nI i), .int (nI i), .int (nI 5)]) (rest := []) hx hb hml hown hts (k_L_act_wish l hlt D G h0 c r o (nI i) (nI i) (nI 5) hI hW5) (vx_cwSW 5 hts gL_isRefused_L_act rfl rfl rfl (by decide +kernel) ⟨(Nat.le_of_ble_eq_true rfl), (Nat.le_of_ble_eq_true rfl)⟩) (fun a U g mk q => ⟨q.1, Pr_cg q.2⟩) (fun U hU hW => ⟨rfl, Pr_mk hE hRc hRr hRo hP hD hS hU hW⟩) rfl hl.1 rfl (lv_room (Nat.le_of_ble_eq_true rfl)) dL_isRefused_459 (show _ ≤ 508 from by omega) (show _ ≤ 69800 from by omega)) hS (fun v9 u9 H locs wl hv9 hRc hRr hRo hP hD hS => ?_)
            have hw9 := R_wishA hv9 (oku hk) (oku hk) (fun z => z.2 rfl) hn
            clear hv9
            obtain ⟨hv9, hce⟩ := hw9
            have hce := hce.symm
            subst hce
            refine n_top (y := .int (-1032)) (congrArg Value.int hv9) ?_
            clear hv9
            refine lv_sipush (v := (-1032)) hx hb dL_isRefused_462 (by decide) ?_
            refine lv_icmp_ne (tgt := 630) hx hb dL_isRefused_465 (by decide) (fun c_465 => absurd c_465 (by decide)) (fun c_465 => ?_)
            refine lv_aload_n hx hb dL_isRefused_468 rfl (lv_at hl 3 rfl) ?_
            refine lv_iconst (v := nI 3) hx hb dL_isRefused_469 (by decide) ?_
            refine lv_iload hx hb dL_isRefused_470 (lv_at hl 1 rfl) ?_
            refine lv_iload hx hb dL_isRefused_472 (lv_at hl 7 rfl) ?_
            refine lv_iconst (v := nI 0) hx hb dL_isRefused_474 (by decide) ?_
            refine y_calli (va_SW (As := [.ref (G 0), .int (nI 3), .int (nI i), .int tt, .int (nI 0)]) (rest := []) hx hb hml hown hts (k_L_act_standIn l hlt D G h0 c r o (nI i) tt (nI 0) hI) (vx_cwSW 5 hts gL_isRefused_L_act rfl rfl rfl (by decide +kernel) ⟨(Nat.le_of_ble_eq_true rfl), (Nat.le_of_ble_eq_true rfl)⟩) (fun a U g mk q => ⟨q.1, Pr_cg q.2⟩) (fun U hU hW => ⟨rfl, Pr_mk hE hRc hRr hRo hP hD hS hU hW⟩) rfl hl.1 rfl (lv_room (Nat.le_of_ble_eq_true rfl)) dL_isRefused_475 (show _ ≤ 508 from by omega) (show _ ≤ 69800 from by omega)) hS (fun v9 u9 H locs wl hv9 hRc hRr hRo hP hD hS => ?_)
            have hw9 := R_siO hv9 (fun z => hno2 z.2)
            clear hv9
            obtain ⟨hv9, hce⟩ := hw9
            have hce := hce.symm
            subst hce
            refine n_top (y := .int (-1031)) (congrArg Value.int hv9) ?_
            clear hv9
            refine lv_sipush (v := (-1031)) hx hb dL_isRefused_478 (by decide) ?_
            refine lv_icmp_ne (tgt := 630) hx hb dL_isRefused_481 (by decide) (fun c_481 => absurd c_481 (by decide)) (fun c_481 => ?_)
            refine lv_aload_n hx hb dL_isRefused_484 rfl (lv_at hl 3 rfl) ?_
            refine lv_iconst (v := nI 3) hx hb dL_isRefused_485 (by decide) ?_
            refine lv_iload hx hb dL_isRefused_486 (lv_at hl 1 rfl) ?_
            refine lv_iload hx hb dL_isRefused_488 (lv_at hl 1 rfl) ?_
            refine lv_iconst (v := nI 0) hx hb dL_isRefused_490 (by decide) ?_
            refine y_calli (va_SW (As := [.ref (G 0), .int (nI 3), .int (nI i), .int (nI i), .int (nI 0)]) (rest := []) hx hb hml hown hts (k_L_act_standIn l hlt D G h0 c r o (nI i) (nI i) (nI 0) hI) (vx_cwSW 5 hts gL_isRefused_L_act rfl rfl rfl (by decide +kernel) ⟨(Nat.le_of_ble_eq_true rfl), (Nat.le_of_ble_eq_true rfl)⟩) (fun a U g mk q => ⟨q.1, Pr_cg q.2⟩) (fun U hU hW => ⟨rfl, Pr_mk hE hRc hRr hRo hP hD hS hU hW⟩) rfl hl.1 rfl (lv_room (Nat.le_of_ble_eq_true rfl)) dL_isRefused_491 (show _ ≤ 508 from by omega) (show _ ≤ 69800 from by omega)) hS (fun v9 u9 H locs wl hv9 hRc hRr hRo hP hD hS => ?_)
            have hw9 := R_siA hv9 hk hn
            clear hv9
            obtain ⟨hv9, hce⟩ := hw9
            have hce := hce.symm
            subst hce
            refine n_top (y := .int (-1032)) (congrArg Value.int hv9) ?_
            clear hv9
            refine lv_sipush (v := (-1032)) hx hb dL_isRefused_494 (by decide) ?_
            refine lv_icmp_ne (tgt := 630) hx hb dL_isRefused_497 (by decide) (fun c_497 => absurd c_497 (by decide)) (fun c_497 => ?_)
            refine lv_aload_n hx hb dL_isRefused_500 rfl (lv_at hl 3 rfl) ?_
            refine lv_iconst (v := nI 5) hx hb dL_isRefused_501 (by decide) ?_
            refine lv_iload hx hb dL_isRefused_502 (lv_at hl 1 rfl) ?_
            refine lv_iload_n hx hb dL_isRefused_504 rfl (lv_at hl 5 rfl) ?_
            refine n_if_eq (tgt := 512) hx hb dL_isRefused_505 (by decide) (by decide) (fun c_505 => ?_) (fun c_505 => absurd c_505 (by decide))
            refine lv_bipush (v := nI 11) hx hb dL_isRefused_512 (by decide) ?_
            refine lv_iconst (v := nI 0) hx hb dL_isRefused_514 (by decide) ?_
            refine y_calli (va_SW (As := [.ref (G 0), .int (nI 5), .int (nI i), .int (nI 11), .int (nI 0)]) (rest := []) hx hb hml hown hts (k_L_act_setFaults l hlt D G h0 c r o (nI i) (nI 11) (nI 0) hI) (vx_cwSW 5 hts gL_isRefused_L_act rfl rfl rfl (by decide +kernel) ⟨(Nat.le_of_ble_eq_true rfl), (Nat.le_of_ble_eq_true rfl)⟩) (fun a U g mk q => ⟨q.1, Pr_cg q.2⟩) (fun U hU hW => ⟨rfl, Pr_mk hE hRc hRr hRo hP hD hS hU hW⟩) rfl hl.1 rfl (lv_room (Nat.le_of_ble_eq_true rfl)) dL_isRefused_515 (show _ ≤ 508 from by omega) (show _ ≤ 69800 from by omega)) hS (fun v9 u9 H locs wl hv9 hRc hRr hRo hP hD hS => ?_)
            have hw9 := R_sfA hv9 (oku hk) (fun y : inR (nI 11) 0 10 => absurd y.2 (by decide))
            clear hv9
            obtain ⟨hv9, hce⟩ := hw9
            have hce := hce.symm
            subst hce
            refine n_top (y := .int (-1032)) (congrArg Value.int hv9) ?_
            clear hv9
            refine lv_sipush (v := (-1032)) hx hb dL_isRefused_518 (by decide) ?_
            refine lv_icmp_ne (tgt := 630) hx hb dL_isRefused_521 (by decide) (fun c_521 => absurd c_521 (by decide)) (fun c_521 => ?_)
            refine lv_aload_n hx hb dL_isRefused_524 rfl (lv_at hl 3 rfl) ?_
            refine lv_bipush (v := nI 6) hx hb dL_isRefused_525 (by decide) ?_
            refine lv_iload hx hb dL_isRefused_527 (lv_at hl 1 rfl) ?_
            refine lv_iload_n hx hb dL_isRefused_529 rfl (lv_at hl 5 rfl) ?_
            refine n_if_eq (tgt := 537) hx hb dL_isRefused_530 (by decide) (by decide) (fun c_530 => ?_) (fun c_530 => absurd c_530 (by decide))
            refine lv_bipush (v := nI 101) hx hb dL_isRefused_537 (by decide) ?_
            refine lv_iconst (v := nI 0) hx hb dL_isRefused_539 (by decide) ?_
            refine y_calli (va_SW (As := [.ref (G 0), .int (nI 6), .int (nI i), .int (nI 101), .int (nI 0)]) (rest := []) hx hb hml hown hts (k_L_act_setTime l hlt D G h0 c r o (nI i) (nI 101) (nI 0) hI) (vx_cwSW 5 hts gL_isRefused_L_act rfl rfl rfl (by decide +kernel) ⟨(Nat.le_of_ble_eq_true rfl), (Nat.le_of_ble_eq_true rfl)⟩) (fun a U g mk q => ⟨q.1, Pr_cg q.2⟩) (fun U hU hW => ⟨rfl, Pr_mk hE hRc hRr hRo hP hD hS hU hW⟩) rfl hl.1 rfl (lv_room (Nat.le_of_ble_eq_true rfl)) dL_isRefused_540 (show _ ≤ 508 from by omega) (show _ ≤ 69800 from by omega)) hS (fun v9 u9 H locs wl hv9 hRc hRr hRo hP hD hS => ?_)
            have hw9 := R_stA hv9 (oku hk) (fun y : inR (nI 101) 1 100 => absurd y.2 (by decide))
            clear hv9
            obtain ⟨hv9, hce⟩ := hw9
            have hce := hce.symm
            subst hce
            refine n_top (y := .int (-1032)) (congrArg Value.int hv9) ?_
            clear hv9
            refine lv_sipush (v := (-1032)) hx hb dL_isRefused_543 (by decide) ?_
            refine lv_icmp_ne (tgt := 630) hx hb dL_isRefused_546 (by decide) (fun c_546 => absurd c_546 (by decide)) (fun c_546 => ?_)
            refine lv_aload_n hx hb dL_isRefused_549 rfl (lv_at hl 3 rfl) ?_
            refine y_calli (va_runV (As := []) (rest := []) ⟨hx, hb, hml, hown, hts⟩ (k_X2_goesOn l D G h0 c r o ho.1) (cwV 0 hts gL_isRefused_X2_goesOn rfl rfl rfl (by decide +kernel) ⟨Nat.le_of_ble_eq_true rfl, Nat.le_of_ble_eq_true rfl⟩) ⟨fun a U g mk q => ⟨q.1, Pr_cg q.2⟩, va_recv (ci := 3) (q0 := 0) hK hP rfl (Q_o hRc), fun U hU hW => ⟨rfl, Pr_mk hE hRc hRr hRo hP hD hS hU hW⟩⟩ rfl rfl hl.1 rfl (lv_room (Nat.le_of_ble_eq_true rfl)) dL_isRefused_550 ⟨(show _ ≤ 508 from by omega), (show _ ≤ 69800 from by omega)⟩) hS (fun v9 _ H locs wl hv9 hRc hRr hRo hP hD hS => ?_)
            refine n_top (y := .int (nI (c 20 3))) (congrArg Value.int hv9) ?_
            clear hv9 v9
            refine n_if_eq (tgt := 626) hx hb dL_isRefused_553 (by decide) (ho3 ho.1) (fun c_553 => ?_) (fun c_553 => ?_)
            · exfalso; omega
            · refine lv_aload_n hx hb dL_isRefused_556 rfl (lv_at hl 3 rfl) ?_
              refine lv_iconst (v := nI 4) hx hb dL_isRefused_557 (by decide) ?_
              refine lv_iload hx hb dL_isRefused_558 (lv_at hl 1 rfl) ?_
              refine lv_iconst (v := nI 0) hx hb dL_isRefused_560 (by decide) ?_
              refine lv_iconst (v := nI 0) hx hb dL_isRefused_561 (by decide) ?_
              refine y_calli (va_SW (As := [.ref (G 0), .int (nI 4), .int (nI i), .int (nI 0), .int (nI 0)]) (rest := []) hx hb hml hown hts (k_L_act_hold l hlt D G h0 c r o (nI i) (nI 0) 0 (by decide) hI) (vx_cwSW 5 hts gL_isRefused_L_act rfl rfl rfl (by decide +kernel) ⟨(Nat.le_of_ble_eq_true rfl), (Nat.le_of_ble_eq_true rfl)⟩) (fun a U g mk q => ⟨q.1, Pr_cg q.2⟩) (fun U hU hW => ⟨rfl, Pr_mk hE hRc hRr hRo hP hD hS hU hW⟩) rfl hl.1 rfl (lv_room (Nat.le_of_ble_eq_true rfl)) dL_isRefused_562 (show _ ≤ 508 from by omega) (show _ ≤ 69800 from by omega)) hS (fun v9 u9 H locs wl hv9 hRc hRr hRo hP hD hS => ?_)
              have hw9 := R_holdS hv9 (oku hk) (Nat.ne_of_gt c_256)
              clear hv9
              obtain ⟨hv9, hce⟩ := hw9
              have hce := hce.symm
              subst hce
              refine n_top (y := .int (-1033)) (congrArg Value.int hv9) ?_
              clear hv9
              refine lv_sipush (v := (-1033)) hx hb dL_isRefused_565 (by decide) ?_
              refine lv_icmp_ne (tgt := 630) hx hb dL_isRefused_568 (by decide) (fun c_568 => absurd c_568 (by decide)) (fun c_568 => ?_)
              refine lv_aload_n hx hb dL_isRefused_571 rfl (lv_at hl 3 rfl) ?_
              refine lv_iconst (v := nI 3) hx hb dL_isRefused_572 (by decide) ?_
              refine lv_iload hx hb dL_isRefused_573 (lv_at hl 1 rfl) ?_
              refine lv_iconst (v := (-1)) hx hb dL_isRefused_575 (by decide) ?_
              refine lv_iconst (v := nI 0) hx hb dL_isRefused_576 (by decide) ?_
              refine y_calli (va_SW (As := [.ref (G 0), .int (nI 3), .int (nI i), .int (-1), .int (nI 0)]) (rest := []) hx hb hml hown hts (k_L_act_standIn l hlt D G h0 c r o (nI i) (-1) (nI 0) hI) (vx_cwSW 5 hts gL_isRefused_L_act rfl rfl rfl (by decide +kernel) ⟨(Nat.le_of_ble_eq_true rfl), (Nat.le_of_ble_eq_true rfl)⟩) (fun a U g mk q => ⟨q.1, Pr_cg q.2⟩) (fun U hU hW => ⟨rfl, Pr_mk hE hRc hRr hRo hP hD hS hU hW⟩) rfl hl.1 rfl (lv_room (Nat.le_of_ble_eq_true rfl)) dL_isRefused_577 (show _ ≤ 508 from by omega) (show _ ≤ 69800 from by omega)) hS (fun v9 u9 H locs wl hv9 hRc hRr hRo hP hD hS => ?_)
              have hw9 := R_siS hv9 hk hn (Nat.ne_of_gt c_256)
              clear hv9
              obtain ⟨hv9, hce⟩ := hw9
              have hce := hce.symm
              subst hce
              refine n_top (y := .int (-1033)) (congrArg Value.int hv9) ?_
              clear hv9
              refine lv_sipush (v := (-1033)) hx hb dL_isRefused_580 (by decide) ?_
              refine lv_icmp_ne (tgt := 630) hx hb dL_isRefused_583 (by decide) (fun c_583 => absurd c_583 (by decide)) (fun c_583 => ?_)
              refine lv_aload_n hx hb dL_isRefused_586 rfl (lv_at hl 3 rfl) ?_
              refine y_calli (va_runV (As := []) (rest := []) ⟨hx, hb, hml, hown, hts⟩ (k_X2_units l D G h0 c r o ) (cwV 0 hts gL_isRefused_X2_units rfl rfl rfl (by decide +kernel) ⟨Nat.le_of_ble_eq_true rfl, Nat.le_of_ble_eq_true rfl⟩) ⟨fun a U g mk q => ⟨q.1, Pr_cg q.2⟩, va_recv (ci := 3) (q0 := 0) hK hP rfl (Q_o hRc), fun U hU hW => ⟨rfl, Pr_mk hE hRc hRr hRo hP hD hS hU hW⟩⟩ rfl rfl hl.1 rfl (lv_room (Nat.le_of_ble_eq_true rfl)) dL_isRefused_587 ⟨(show _ ≤ 508 from by omega), (show _ ≤ 69800 from by omega)⟩) hS (fun v9 _ H locs wl hv9 hRc hRr hRo hP hD hS => ?_)
              refine n_top (y := .int (nI (c 20 1))) (congrArg Value.int hv9) ?_
              clear hv9 v9
              refine lv_iconst (v := nI 2) hx hb dL_isRefused_590 (by decide) ?_
              refine n_icmp_lt (tgt := 626) hx hb dL_isRefused_591 (by decide) (hB _ _ (by decide)) (by decide) (fun c_591 => ?_) (fun c_591 => ?_)
              · refine lv_iconst (v := nI 1) hx hb dL_isRefused_626 (by decide) ?_
                refine lv_goto (tgt := 631) hx hb dL_isRefused_627 (by decide) ?_
                refine lv_istore (lv' := [(7, .int (nI 1)), (9, .int (nI oo)), (8, .int (nI i)), (0, .ref (G 0)), (1, .int (nI x)), (2, .int (nI 0)), (3, .int nn), (4, .int tt), (5, .long (allI c (c 20 1)))]) hx hb dL_isRefused_631 hl (by decide) rfl (fun ls hl => ?_)
                refine lv_iinc (v := nI (i + 1)) (lv' := [(8, .int (nI (i + 1))), (7, .int (nI 1)), (9, .int (nI oo)), (0, .ref (G 0)), (1, .int (nI x)), (2, .int (nI 0)), (3, .int nn), (4, .int tt), (5, .long (allI c (c 20 1)))]) hx hb dL_isRefused_633 hl (k := 2) rfl (nI_add i 1) (by decide) rfl (fun ls hl => ?_)
                refine lv_goto (tgt := 356) hx hb dL_isRefused_636 (by decide) ?_
                refine W.widen (k := 60 + 56 * (i + 1)) (n := 2600 + 8400 * (i + 1)) (by omega) (by omega) ?_
                exact ih356 (i + 1) (by omega) (by omega)   _ _ _ _ hRc hRr hRo hP hD hS (lv_sub hl [0, 1, 3, 4, 5, 6, 7, 8] rfl)
              · refine lv_aload_n hx hb dL_isRefused_594 rfl (lv_at hl 3 rfl) ?_
                refine lv_iconst (v := nI 2) hx hb dL_isRefused_595 (by decide) ?_
                refine lv_iload hx hb dL_isRefused_596 (lv_at hl 1 rfl) ?_
                refine lv_iload hx hb dL_isRefused_598 (lv_at hl 0 rfl) ?_
                refine lv_iconst (v := nI 5) hx hb dL_isRefused_600 (by decide) ?_
                refine y_calli (va_SW (As := [.ref (G 0), .int (nI 2), .int (nI i), .int (nI oo), .int (nI 5)]) (rest := []) hx hb hml hown hts (k_L_act_wish l hlt D G h0 c r o (nI i) (nI oo) (nI 5) hI hW5) (vx_cwSW 5 hts gL_isRefused_L_act rfl rfl rfl (by decide +kernel) ⟨(Nat.le_of_ble_eq_true rfl), (Nat.le_of_ble_eq_true rfl)⟩) (fun a U g mk q => ⟨q.1, Pr_cg q.2⟩) (fun U hU hW => ⟨rfl, Pr_mk hE hRc hRr hRo hP hD hS hU hW⟩) rfl hl.1 rfl (lv_room (Nat.le_of_ble_eq_true rfl)) dL_isRefused_601 (show _ ≤ 508 from by omega) (show _ ≤ 69800 from by omega)) hS (fun v9 u9 H locs wl hv9 hRc hRr hRo hP hD hS => ?_)
                have hw9 := R_wishS hv9 (oku hk) (oku hoo) ⟨⟨by decide, by decide⟩, fun e => rf_ne (by omega) hk h_oo (nI_ij (by omega) (by omega) e)⟩ (Nat.ne_of_gt c_256)
                clear hv9
                obtain ⟨hv9, hce⟩ := hw9
                have hce := hce.symm
                subst hce
                refine n_top (y := .int (-1033)) (congrArg Value.int hv9) ?_
                clear hv9
                refine lv_sipush (v := (-1033)) hx hb dL_isRefused_604 (by decide) ?_
                refine lv_icmp_ne (tgt := 630) hx hb dL_isRefused_607 (by decide) (fun c_607 => absurd c_607 (by decide)) (fun c_607 => ?_)
                refine lv_aload_n hx hb dL_isRefused_610 rfl (lv_at hl 3 rfl) ?_
                refine lv_iconst (v := nI 1) hx hb dL_isRefused_611 (by decide) ?_
                refine lv_iload hx hb dL_isRefused_612 (lv_at hl 1 rfl) ?_
                refine lv_iload hx hb dL_isRefused_614 (lv_at hl 0 rfl) ?_
                refine lv_iconst (v := nI 0) hx hb dL_isRefused_616 (by decide) ?_
                refine y_calli (va_SW (As := [.ref (G 0), .int (nI 1), .int (nI i), .int (nI oo), .int (nI 0)]) (rest := []) hx hb hml hown hts (k_L_act_need l hlt D G h0 c r o (nI i) (nI oo) (nI 0) hI) (vx_cwSW 5 hts gL_isRefused_L_act rfl rfl rfl (by decide +kernel) ⟨(Nat.le_of_ble_eq_true rfl), (Nat.le_of_ble_eq_true rfl)⟩) (fun a U g mk q => ⟨q.1, Pr_cg q.2⟩) (fun U hU hW => ⟨rfl, Pr_mk hE hRc hRr hRo hP hD hS hU hW⟩) rfl hl.1 rfl (lv_room (Nat.le_of_ble_eq_true rfl)) dL_isRefused_617 (show _ ≤ 508 from by omega) (show _ ≤ 69800 from by omega)) hS (fun v9 u9 H locs wl hv9 hRc hRr hRo hP hD hS => ?_)
                have hw9 := R_needS hv9 hk hoo hn (Or.inr (Nat.ne_of_gt c_256))
                clear hv9
                obtain ⟨hv9, hce⟩ := hw9
                have hce := hce.symm
                subst hce
                refine n_top (y := .int (-1033)) (congrArg Value.int hv9) ?_
                clear hv9
                refine lv_sipush (v := (-1033)) hx hb dL_isRefused_620 (by decide) ?_
                refine lv_icmp_ne (tgt := 630) hx hb dL_isRefused_623 (by decide) (fun c_623 => absurd c_623 (by decide)) (fun c_623 => ?_)
                refine lv_iconst (v := nI 1) hx hb dL_isRefused_626 (by decide) ?_
                refine lv_goto (tgt := 631) hx hb dL_isRefused_627 (by decide) ?_
                refine lv_istore (lv' := [(7, .int (nI 1)), (9, .int (nI oo)), (8, .int (nI i)), (0, .ref (G 0)), (1, .int (nI x)), (2, .int (nI 0)), (3, .int nn), (4, .int tt), (5, .long (allI c (c 20 1)))]) hx hb dL_isRefused_631 hl (by decide) rfl (fun ls hl => ?_)
                refine lv_iinc (v := nI (i + 1)) (lv' := [(8, .int (nI (i + 1))), (7, .int (nI 1)), (9, .int (nI oo)), (0, .ref (G 0)), (1, .int (nI x)), (2, .int (nI 0)), (3, .int nn), (4, .int tt), (5, .long (allI c (c 20 1)))]) hx hb dL_isRefused_633 hl (k := 2) rfl (nI_add i 1) (by decide) rfl (fun ls hl => ?_)
                refine lv_goto (tgt := 356) hx hb dL_isRefused_636 (by decide) ?_
                refine W.widen (k := 60 + 56 * (i + 1)) (n := 2600 + 8400 * (i + 1)) (by omega) (by omega) ?_
                exact ih356 (i + 1) (by omega) (by omega)   _ _ _ _ hRc hRr hRo hP hD hS (lv_sub hl [0, 1, 3, 4, 5, 6, 7, 8] rfl)
      refine W.widen (k := 60 + 56 * 0) (n := 2600 + 8400 * 0) (by omega) (by omega) ?_
      exact L356 _ 0 (Nat.lt_succ_self _) (by omega)   _ _ _ _ hRc hRr hRo hP hD hS (lv_sub hl [0, 1, 6, 7, 5, 4, 3, 2] rfl)
  · refine lv_iconst (v := nI 1) hx hb dL_isRefused_6 (by decide) ?_
    refine lv_goto (tgt := 11) hx hb dL_isRefused_7 (by decide) ?_
    refine lv_istore_n (lv' := [(2, .int (nI 1)), (0, .ref (G 0)), (1, .int (nI x))]) hx hb dL_isRefused_11 rfl hl (by decide) rfl (fun ls hl => ?_)
    refine lv_iload_n hx hb dL_isRefused_12 rfl (lv_at hl 0 rfl) ?_
    refine n_if_eq (tgt := 25) hx hb dL_isRefused_13 (by decide) (by decide) (fun c_13 => absurd c_13 (by decide)) (fun c_13 => ?_)
    refine lv_iconst (v := (-1)) hx hb dL_isRefused_16 (by decide) ?_
    refine lv_iload_n hx hb dL_isRefused_17 rfl (lv_at hl 2 rfl) ?_
    refine lv_bipush (v := nI 30) hx hb dL_isRefused_18 (by decide) ?_
    refine n_irem hx hb dL_isRefused_20 hx31 (by first | omega | decide | assumption) (by decide) ?_
    refine lv_isub hx hb dL_isRefused_21 ?_
    refine lv_goto (tgt := 34) hx hb dL_isRefused_22 (by decide) ?_
    obtain ⟨nn, h_nn⟩ : ∃ z : Int32, z = (-1) - nI (x % 30) := ⟨_, rfl⟩
    rw [← h_nn]
    have hno : ¬ okU c nn := by rw [h_nn]; exact rf_lo hn hx30
    refine lv_istore_n (lv' := [(3, .int nn), (2, .int (nI 1)), (0, .ref (G 0)), (1, .int (nI x))]) hx hb dL_isRefused_34 rfl hl (by decide) rfl (fun ls hl => ?_)
    refine lv_iload_n hx hb dL_isRefused_35 rfl (lv_at hl 1 rfl) ?_
    refine n_if_eq (tgt := 49) hx hb dL_isRefused_36 (by decide) (by decide) (fun c_36 => absurd c_36 (by decide)) (fun c_36 => ?_)
    refine lv_bipush (v := (-2)) hx hb dL_isRefused_39 (by decide) ?_
    refine lv_iload_n hx hb dL_isRefused_41 rfl (lv_at hl 3 rfl) ?_
    refine lv_bipush (v := nI 30) hx hb dL_isRefused_42 (by decide) ?_
    refine n_irem hx hb dL_isRefused_44 hx31 (by first | omega | decide | assumption) (by decide) ?_
    refine lv_isub hx hb dL_isRefused_45 ?_
    refine lv_goto (tgt := 50) hx hb dL_isRefused_46 (by decide) ?_
    obtain ⟨tt, h_tt⟩ : ∃ z : Int32, z = (-2) - nI (x % 30) := ⟨_, rfl⟩
    rw [← h_tt]
    have hno2 : ¬ (tt = -1 ∨ okU c tt) := by rw [h_tt]; exact rf_two hn hx30
    refine lv_istore (lv' := [(4, .int tt), (3, .int nn), (2, .int (nI 1)), (0, .ref (G 0)), (1, .int (nI x))]) hx hb dL_isRefused_50 hl (by decide) rfl (fun ls hl => ?_)
    refine lv_aload_n hx hb dL_isRefused_52 rfl (lv_at hl 3 rfl) ?_
    refine y_calll (va_runS (As := [.ref (G 0)]) (rest := []) ⟨hx, hb, hml, hown, hts⟩ (k_L_all l D G h0 c r o hI) (va_cwS 1 hts gL_isRefused_L_all rfl rfl rfl (by decide +kernel) ⟨Nat.le_of_ble_eq_true rfl, Nat.le_of_ble_eq_true rfl⟩) ⟨fun a U g mk q => ⟨q.1, Pr_cg q.2⟩, fun U hU hW => ⟨rfl, Pr_mk hE hRc hRr hRo hP hD hS hU hW⟩⟩ rfl rfl hl.1 rfl (lv_room (Nat.le_of_ble_eq_true rfl)) dL_isRefused_53 ⟨Nat.le_of_ble_eq_true rfl, Nat.le_of_ble_eq_true rfl⟩) hS (fun v9 _ H locs wl hv9 hRc hRr hRo hP hD hS => ?_)
    refine n_top (y := .long (allI c (c 20 1))) (congrArg Value.long hv9) ?_
    clear hv9 v9
    refine lv_lstore (lv' := [(5, .long (allI c (c 20 1))), (4, .int tt), (3, .int nn), (2, .int (nI 1)), (0, .ref (G 0)), (1, .int (nI x))]) hx hb dL_isRefused_56 hl (by decide) rfl (fun ls hl => ?_)
    refine lv_aload_n hx hb dL_isRefused_58 rfl (lv_at hl 4 rfl) ?_
    refine lv_iconst (v := nI 0) hx hb dL_isRefused_59 (by decide) ?_
    refine lv_iload_n hx hb dL_isRefused_60 rfl (lv_at hl 3 rfl) ?_
    refine n_if_eq (tgt := 73) hx hb dL_isRefused_61 (by decide) (by decide) (fun c_61 => absurd c_61 (by decide)) (fun c_61 => ?_)
    refine lv_iconst (v := nI 0) hx hb dL_isRefused_64 (by decide) ?_
    refine lv_iload_n hx hb dL_isRefused_65 rfl (lv_at hl 5 rfl) ?_
    refine lv_bipush (v := nI 30) hx hb dL_isRefused_66 (by decide) ?_
    refine n_irem hx hb dL_isRefused_68 hx31 (by first | omega | decide | assumption) (by decide) ?_
    refine lv_isub hx hb dL_isRefused_69 ?_
    refine lv_goto (tgt := 75) hx hb dL_isRefused_70 (by decide) ?_
    refine lv_iconst (v := nI 0) hx hb dL_isRefused_75 (by decide) ?_
    refine lv_iconst (v := nI 0) hx hb dL_isRefused_76 (by decide) ?_
    refine y_calli (va_SW (As := [.ref (G 0), .int (nI 0), .int (nI 0 - nI (x % 30)), .int (nI 0), .int (nI 0)]) (rest := []) hx hb hml hown hts (k_L_act_add l hlt D G h0 c r o (nI 0 - nI (x % 30)) (nI 0) (nI 0) hI) (vx_cwSW 5 hts gL_isRefused_L_act rfl rfl rfl (by decide +kernel) ⟨(Nat.le_of_ble_eq_true rfl), (Nat.le_of_ble_eq_true rfl)⟩) (fun a U g mk q => ⟨q.1, Pr_cg q.2⟩) (fun U hU hW => ⟨rfl, Pr_mk hE hRc hRr hRo hP hD hS hU hW⟩) rfl hl.1 rfl (lv_room (Nat.le_of_ble_eq_true rfl)) dL_isRefused_77 (Nat.le_of_ble_eq_true rfl) (Nat.le_of_ble_eq_true rfl)) hS (fun v9 u9 H locs wl hv9 hRc hRr hRo hP hD hS => ?_)
    have hw9 := R_addA hv9 (fun z => rf_z hx30 (by decide) z.1)
    clear hv9
    obtain ⟨hv9, hce⟩ := hw9
    have hce := hce.symm
    subst hce
    refine n_top (y := .int (-1032)) (congrArg Value.int hv9) ?_
    clear hv9
    refine lv_sipush (v := (-1032)) hx hb dL_isRefused_80 (by decide) ?_
    refine lv_icmp_ne (tgt := 310) hx hb dL_isRefused_83 (by decide) (fun c_83 => absurd c_83 (by decide)) (fun c_83 => ?_)
    refine lv_aload_n hx hb dL_isRefused_86 rfl (lv_at hl 4 rfl) ?_
    refine lv_iconst (v := nI 0) hx hb dL_isRefused_87 (by decide) ?_
    refine lv_iconst (v := nI 5) hx hb dL_isRefused_88 (by decide) ?_
    refine lv_iload_n hx hb dL_isRefused_89 rfl (lv_at hl 3 rfl) ?_
    refine n_if_eq (tgt := 97) hx hb dL_isRefused_90 (by decide) (by decide) (fun c_90 => absurd c_90 (by decide)) (fun c_90 => ?_)
    refine lv_iconst (v := (-1)) hx hb dL_isRefused_93 (by decide) ?_
    refine lv_goto (tgt := 98) hx hb dL_isRefused_94 (by decide) ?_
    refine lv_iconst (v := nI 0) hx hb dL_isRefused_98 (by decide) ?_
    refine y_calli (va_SW (As := [.ref (G 0), .int (nI 0), .int (nI 5), .int (-1), .int (nI 0)]) (rest := []) hx hb hml hown hts (k_L_act_add l hlt D G h0 c r o (nI 5) (-1) (nI 0) hI) (vx_cwSW 5 hts gL_isRefused_L_act rfl rfl rfl (by decide +kernel) ⟨(Nat.le_of_ble_eq_true rfl), (Nat.le_of_ble_eq_true rfl)⟩) (fun a U g mk q => ⟨q.1, Pr_cg q.2⟩) (fun U hU hW => ⟨rfl, Pr_mk hE hRc hRr hRo hP hD hS hU hW⟩) rfl hl.1 rfl (lv_room (Nat.le_of_ble_eq_true rfl)) dL_isRefused_99 (Nat.le_of_ble_eq_true rfl) (Nat.le_of_ble_eq_true rfl)) hS (fun v9 u9 H locs wl hv9 hRc hRr hRo hP hD hS => ?_)
    have hw9 := R_addA hv9 (fun z => (fun y : inR (-1) 0 3 => absurd y.1 (by decide)) z.2)
    clear hv9
    obtain ⟨hv9, hce⟩ := hw9
    have hce := hce.symm
    subst hce
    refine n_top (y := .int (-1032)) (congrArg Value.int hv9) ?_
    clear hv9
    refine lv_sipush (v := (-1032)) hx hb dL_isRefused_102 (by decide) ?_
    refine lv_icmp_ne (tgt := 310) hx hb dL_isRefused_105 (by decide) (fun c_105 => absurd c_105 (by decide)) (fun c_105 => ?_)
    refine lv_aload_n hx hb dL_isRefused_108 rfl (lv_at hl 4 rfl) ?_
    refine lv_iconst (v := nI 1) hx hb dL_isRefused_109 (by decide) ?_
    refine lv_iload_n hx hb dL_isRefused_110 rfl (lv_at hl 2 rfl) ?_
    refine lv_iload_n hx hb dL_isRefused_111 rfl (lv_at hl 2 rfl) ?_
    refine lv_iconst (v := nI 0) hx hb dL_isRefused_112 (by decide) ?_
    refine y_calli (va_SW (As := [.ref (G 0), .int (nI 1), .int nn, .int nn, .int (nI 0)]) (rest := []) hx hb hml hown hts (k_L_act_need l hlt D G h0 c r o nn nn (nI 0) hI) (vx_cwSW 5 hts gL_isRefused_L_act rfl rfl rfl (by decide +kernel) ⟨(Nat.le_of_ble_eq_true rfl), (Nat.le_of_ble_eq_true rfl)⟩) (fun a U g mk q => ⟨q.1, Pr_cg q.2⟩) (fun U hU hW => ⟨rfl, Pr_mk hE hRc hRr hRo hP hD hS hU hW⟩) rfl hl.1 rfl (lv_room (Nat.le_of_ble_eq_true rfl)) dL_isRefused_113 (Nat.le_of_ble_eq_true rfl) (Nat.le_of_ble_eq_true rfl)) hS (fun v9 u9 H locs wl hv9 hRc hRr hRo hP hD hS => ?_)
    have hw9 := R_needO hv9 (fun z => hno z.1)
    clear hv9
    obtain ⟨hv9, hce⟩ := hw9
    have hce := hce.symm
    subst hce
    refine n_top (y := .int (-1031)) (congrArg Value.int hv9) ?_
    clear hv9
    refine lv_sipush (v := (-1031)) hx hb dL_isRefused_116 (by decide) ?_
    refine lv_icmp_ne (tgt := 310) hx hb dL_isRefused_119 (by decide) (fun c_119 => absurd c_119 (by decide)) (fun c_119 => ?_)
    refine lv_aload_n hx hb dL_isRefused_122 rfl (lv_at hl 4 rfl) ?_
    refine lv_iconst (v := nI 2) hx hb dL_isRefused_123 (by decide) ?_
    refine lv_iload_n hx hb dL_isRefused_124 rfl (lv_at hl 2 rfl) ?_
    refine lv_iload_n hx hb dL_isRefused_125 rfl (lv_at hl 2 rfl) ?_
    refine lv_iconst (v := nI 0) hx hb dL_isRefused_126 (by decide) ?_
    refine y_calli (va_SW (As := [.ref (G 0), .int (nI 2), .int nn, .int nn, .int (nI 0)]) (rest := []) hx hb hml hown hts (k_L_act_wish l hlt D G h0 c r o nn nn (nI 0) hI hW5) (vx_cwSW 5 hts gL_isRefused_L_act rfl rfl rfl (by decide +kernel) ⟨(Nat.le_of_ble_eq_true rfl), (Nat.le_of_ble_eq_true rfl)⟩) (fun a U g mk q => ⟨q.1, Pr_cg q.2⟩) (fun U hU hW => ⟨rfl, Pr_mk hE hRc hRr hRo hP hD hS hU hW⟩) rfl hl.1 rfl (lv_room (Nat.le_of_ble_eq_true rfl)) dL_isRefused_127 (Nat.le_of_ble_eq_true rfl) (Nat.le_of_ble_eq_true rfl)) hS (fun v9 u9 H locs wl hv9 hRc hRr hRo hP hD hS => ?_)
    have hw9 := R_wishO hv9 (fun z => hno z.1)
    clear hv9
    obtain ⟨hv9, hce⟩ := hw9
    have hce := hce.symm
    subst hce
    refine n_top (y := .int (-1031)) (congrArg Value.int hv9) ?_
    clear hv9
    refine lv_sipush (v := (-1031)) hx hb dL_isRefused_130 (by decide) ?_
    refine lv_icmp_ne (tgt := 310) hx hb dL_isRefused_133 (by decide) (fun c_133 => absurd c_133 (by decide)) (fun c_133 => ?_)
    refine lv_aload_n hx hb dL_isRefused_136 rfl (lv_at hl 4 rfl) ?_
    refine lv_iconst (v := nI 3) hx hb dL_isRefused_137 (by decide) ?_
    refine lv_iload_n hx hb dL_isRefused_138 rfl (lv_at hl 2 rfl) ?_
    refine lv_iload_n hx hb dL_isRefused_139 rfl (lv_at hl 2 rfl) ?_
    refine lv_iconst (v := nI 0) hx hb dL_isRefused_140 (by decide) ?_
    refine y_calli (va_SW (As := [.ref (G 0), .int (nI 3), .int nn, .int nn, .int (nI 0)]) (rest := []) hx hb hml hown hts (k_L_act_standIn l hlt D G h0 c r o nn nn (nI 0) hI) (vx_cwSW 5 hts gL_isRefused_L_act rfl rfl rfl (by decide +kernel) ⟨(Nat.le_of_ble_eq_true rfl), (Nat.le_of_ble_eq_true rfl)⟩) (fun a U g mk q => ⟨q.1, Pr_cg q.2⟩) (fun U hU hW => ⟨rfl, Pr_mk hE hRc hRr hRo hP hD hS hU hW⟩) rfl hl.1 rfl (lv_room (Nat.le_of_ble_eq_true rfl)) dL_isRefused_141 (Nat.le_of_ble_eq_true rfl) (Nat.le_of_ble_eq_true rfl)) hS (fun v9 u9 H locs wl hv9 hRc hRr hRo hP hD hS => ?_)
    have hw9 := R_siO hv9 (fun z => hno z.1)
    clear hv9
    obtain ⟨hv9, hce⟩ := hw9
    have hce := hce.symm
    subst hce
    refine n_top (y := .int (-1031)) (congrArg Value.int hv9) ?_
    clear hv9
    refine lv_sipush (v := (-1031)) hx hb dL_isRefused_144 (by decide) ?_
    refine lv_icmp_ne (tgt := 310) hx hb dL_isRefused_147 (by decide) (fun c_147 => absurd c_147 (by decide)) (fun c_147 => ?_)
    refine lv_aload_n hx hb dL_isRefused_150 rfl (lv_at hl 4 rfl) ?_
    refine lv_iconst (v := nI 4) hx hb dL_isRefused_151 (by decide) ?_
    refine lv_iload_n hx hb dL_isRefused_152 rfl (lv_at hl 2 rfl) ?_
    refine lv_iconst (v := nI 0) hx hb dL_isRefused_153 (by decide) ?_
    refine lv_iconst (v := nI 0) hx hb dL_isRefused_154 (by decide) ?_
    refine y_calli (va_SW (As := [.ref (G 0), .int (nI 4), .int nn, .int (nI 0), .int (nI 0)]) (rest := []) hx hb hml hown hts (k_L_act_hold l hlt D G h0 c r o nn (nI 0) 0 (by decide) hI) (vx_cwSW 5 hts gL_isRefused_L_act rfl rfl rfl (by decide +kernel) ⟨(Nat.le_of_ble_eq_true rfl), (Nat.le_of_ble_eq_true rfl)⟩) (fun a U g mk q => ⟨q.1, Pr_cg q.2⟩) (fun U hU hW => ⟨rfl, Pr_mk hE hRc hRr hRo hP hD hS hU hW⟩) rfl hl.1 rfl (lv_room (Nat.le_of_ble_eq_true rfl)) dL_isRefused_155 (Nat.le_of_ble_eq_true rfl) (Nat.le_of_ble_eq_true rfl)) hS (fun v9 u9 H locs wl hv9 hRc hRr hRo hP hD hS => ?_)
    have hw9 := R_holdO hv9 hno
    clear hv9
    obtain ⟨hv9, hce⟩ := hw9
    have hce := hce.symm
    subst hce
    refine n_top (y := .int (-1031)) (congrArg Value.int hv9) ?_
    clear hv9
    refine lv_sipush (v := (-1031)) hx hb dL_isRefused_158 (by decide) ?_
    refine lv_icmp_ne (tgt := 310) hx hb dL_isRefused_161 (by decide) (fun c_161 => absurd c_161 (by decide)) (fun c_161 => ?_)
    refine lv_aload_n hx hb dL_isRefused_164 rfl (lv_at hl 4 rfl) ?_
    refine lv_iconst (v := nI 5) hx hb dL_isRefused_165 (by decide) ?_
    refine lv_iload_n hx hb dL_isRefused_166 rfl (lv_at hl 2 rfl) ?_
    refine lv_iconst (v := (-1)) hx hb dL_isRefused_167 (by decide) ?_
    refine lv_iconst (v := nI 0) hx hb dL_isRefused_168 (by decide) ?_
    refine y_calli (va_SW (As := [.ref (G 0), .int (nI 5), .int nn, .int (-1), .int (nI 0)]) (rest := []) hx hb hml hown hts (k_L_act_setFaults l hlt D G h0 c r o nn (-1) (nI 0) hI) (vx_cwSW 5 hts gL_isRefused_L_act rfl rfl rfl (by decide +kernel) ⟨(Nat.le_of_ble_eq_true rfl), (Nat.le_of_ble_eq_true rfl)⟩) (fun a U g mk q => ⟨q.1, Pr_cg q.2⟩) (fun U hU hW => ⟨rfl, Pr_mk hE hRc hRr hRo hP hD hS hU hW⟩) rfl hl.1 rfl (lv_room (Nat.le_of_ble_eq_true rfl)) dL_isRefused_169 (Nat.le_of_ble_eq_true rfl) (Nat.le_of_ble_eq_true rfl)) hS (fun v9 u9 H locs wl hv9 hRc hRr hRo hP hD hS => ?_)
    have hw9 := R_sfO hv9 hno
    clear hv9
    obtain ⟨hv9, hce⟩ := hw9
    have hce := hce.symm
    subst hce
    refine n_top (y := .int (-1031)) (congrArg Value.int hv9) ?_
    clear hv9
    refine lv_sipush (v := (-1031)) hx hb dL_isRefused_172 (by decide) ?_
    refine lv_icmp_ne (tgt := 310) hx hb dL_isRefused_175 (by decide) (fun c_175 => absurd c_175 (by decide)) (fun c_175 => ?_)
    refine lv_aload_n hx hb dL_isRefused_178 rfl (lv_at hl 4 rfl) ?_
    refine lv_bipush (v := nI 6) hx hb dL_isRefused_179 (by decide) ?_
    refine lv_iload_n hx hb dL_isRefused_181 rfl (lv_at hl 2 rfl) ?_
    refine lv_iconst (v := (-1)) hx hb dL_isRefused_182 (by decide) ?_
    refine lv_iconst (v := nI 0) hx hb dL_isRefused_183 (by decide) ?_
    refine y_calli (va_SW (As := [.ref (G 0), .int (nI 6), .int nn, .int (-1), .int (nI 0)]) (rest := []) hx hb hml hown hts (k_L_act_setTime l hlt D G h0 c r o nn (-1) (nI 0) hI) (vx_cwSW 5 hts gL_isRefused_L_act rfl rfl rfl (by decide +kernel) ⟨(Nat.le_of_ble_eq_true rfl), (Nat.le_of_ble_eq_true rfl)⟩) (fun a U g mk q => ⟨q.1, Pr_cg q.2⟩) (fun U hU hW => ⟨rfl, Pr_mk hE hRc hRr hRo hP hD hS hU hW⟩) rfl hl.1 rfl (lv_room (Nat.le_of_ble_eq_true rfl)) dL_isRefused_184 (Nat.le_of_ble_eq_true rfl) (Nat.le_of_ble_eq_true rfl)) hS (fun v9 u9 H locs wl hv9 hRc hRr hRo hP hD hS => ?_)
    have hw9 := R_stO hv9 hno
    clear hv9
    obtain ⟨hv9, hce⟩ := hw9
    have hce := hce.symm
    subst hce
    refine n_top (y := .int (-1031)) (congrArg Value.int hv9) ?_
    clear hv9
    refine lv_sipush (v := (-1031)) hx hb dL_isRefused_187 (by decide) ?_
    refine lv_icmp_ne (tgt := 310) hx hb dL_isRefused_190 (by decide) (fun c_190 => absurd c_190 (by decide)) (fun c_190 => ?_)
    refine lv_aload_n hx hb dL_isRefused_193 rfl (lv_at hl 4 rfl) ?_
    refine lv_bipush (v := nI 7) hx hb dL_isRefused_194 (by decide) ?_
    refine lv_iload_n hx hb dL_isRefused_196 rfl (lv_at hl 3 rfl) ?_
    refine n_if_eq (tgt := 209) hx hb dL_isRefused_197 (by decide) (by decide) (fun c_197 => absurd c_197 (by decide)) (fun c_197 => ?_)
    refine lv_iconst (v := nI 0) hx hb dL_isRefused_200 (by decide) ?_
    refine lv_iload_n hx hb dL_isRefused_201 rfl (lv_at hl 5 rfl) ?_
    refine lv_bipush (v := nI 30) hx hb dL_isRefused_202 (by decide) ?_
    refine n_irem hx hb dL_isRefused_204 hx31 (by first | omega | decide | assumption) (by decide) ?_
    refine lv_isub hx hb dL_isRefused_205 ?_
    refine lv_goto (tgt := 211) hx hb dL_isRefused_206 (by decide) ?_
    refine lv_iconst (v := nI 0) hx hb dL_isRefused_211 (by decide) ?_
    refine lv_iconst (v := nI 0) hx hb dL_isRefused_212 (by decide) ?_
    refine y_calli (va_SW (As := [.ref (G 0), .int (nI 7), .int (nI 0 - nI (x % 30)), .int (nI 0), .int (nI 0)]) (rest := []) hx hb hml hown hts (k_L_act_begin l hlt D G h0 c r o (nI 0 - nI (x % 30)) (nI 0) (nI 0) hI hW5) (vx_cwSW 5 hts gL_isRefused_L_act rfl rfl rfl (by decide +kernel) ⟨(Nat.le_of_ble_eq_true rfl), (Nat.le_of_ble_eq_true rfl)⟩) (fun a U g mk q => ⟨q.1, Pr_cg q.2⟩) (fun U hU hW => ⟨rfl, Pr_mk hE hRc hRr hRo hP hD hS hU hW⟩) rfl hl.1 rfl (lv_room (Nat.le_of_ble_eq_true rfl)) dL_isRefused_213 (Nat.le_of_ble_eq_true rfl) (Nat.le_of_ble_eq_true rfl)) hS (fun v9 u9 H locs wl hv9 hRc hRr hRo hP hD hS => ?_)
    have hw9 := R_begA hv9 (rf_z hx30 (by decide))
    clear hv9
    obtain ⟨hv9, hce⟩ := hw9
    have hce := hce.symm
    subst hce
    refine n_top (y := .int (-1032)) (congrArg Value.int hv9) ?_
    clear hv9
    refine lv_sipush (v := (-1032)) hx hb dL_isRefused_216 (by decide) ?_
    refine lv_icmp_ne (tgt := 310) hx hb dL_isRefused_219 (by decide) (fun c_219 => absurd c_219 (by decide)) (fun c_219 => ?_)
    refine lv_aload_n hx hb dL_isRefused_222 rfl (lv_at hl 4 rfl) ?_
    refine lv_bipush (v := nI 8) hx hb dL_isRefused_223 (by decide) ?_
    refine lv_iload_n hx hb dL_isRefused_225 rfl (lv_at hl 3 rfl) ?_
    refine n_if_eq (tgt := 238) hx hb dL_isRefused_226 (by decide) (by decide) (fun c_226 => absurd c_226 (by decide)) (fun c_226 => ?_)
    refine lv_iconst (v := nI 0) hx hb dL_isRefused_229 (by decide) ?_
    refine lv_iload_n hx hb dL_isRefused_230 rfl (lv_at hl 5 rfl) ?_
    refine lv_bipush (v := nI 30) hx hb dL_isRefused_231 (by decide) ?_
    refine n_irem hx hb dL_isRefused_233 hx31 (by first | omega | decide | assumption) (by decide) ?_
    refine lv_isub hx hb dL_isRefused_234 ?_
    refine lv_goto (tgt := 241) hx hb dL_isRefused_235 (by decide) ?_
    refine lv_iconst (v := nI 0) hx hb dL_isRefused_241 (by decide) ?_
    refine lv_iconst (v := nI 0) hx hb dL_isRefused_242 (by decide) ?_
    refine y_calli (va_SW (As := [.ref (G 0), .int (nI 8), .int (nI 0 - nI (x % 30)), .int (nI 0), .int (nI 0)]) (rest := []) hx hb hml hown hts (k_L_act_tick l hlt D G h0 c r o (nI 0 - nI (x % 30)) (nI 0) (nI 0) hI) (vx_cwSW 5 hts gL_isRefused_L_act rfl rfl rfl (by decide +kernel) ⟨(Nat.le_of_ble_eq_true rfl), (Nat.le_of_ble_eq_true rfl)⟩) (fun a U g mk q => ⟨q.1, Pr_cg q.2⟩) (fun U hU hW => ⟨rfl, Pr_mk hE hRc hRr hRo hP hD hS hU hW⟩) rfl hl.1 rfl (lv_room (Nat.le_of_ble_eq_true rfl)) dL_isRefused_243 (Nat.le_of_ble_eq_true rfl) (Nat.le_of_ble_eq_true rfl)) hS (fun v9 u9 H locs wl hv9 hRc hRr hRo hP hD hS => ?_)
    have hw9 := R_tickA hv9 (rf_z hx30 (by decide))
    clear hv9
    obtain ⟨hv9, hce⟩ := hw9
    have hce := hce.symm
    subst hce
    refine n_top (y := .int (-1032)) (congrArg Value.int hv9) ?_
    clear hv9
    refine lv_sipush (v := (-1032)) hx hb dL_isRefused_246 (by decide) ?_
    refine lv_icmp_ne (tgt := 310) hx hb dL_isRefused_249 (by decide) (fun c_249 => absurd c_249 (by decide)) (fun c_249 => ?_)
    refine lv_aload_n hx hb dL_isRefused_252 rfl (lv_at hl 4 rfl) ?_
    refine y_calli (va_runV (As := []) (rest := []) ⟨hx, hb, hml, hown, hts⟩ (k_X2_goesOn l D G h0 c r o ho.1) (cwV 0 hts gL_isRefused_X2_goesOn rfl rfl rfl (by decide +kernel) ⟨Nat.le_of_ble_eq_true rfl, Nat.le_of_ble_eq_true rfl⟩) ⟨fun a U g mk q => ⟨q.1, Pr_cg q.2⟩, va_recv (ci := 3) (q0 := 0) hK hP rfl (Q_o hRc), fun U hU hW => ⟨rfl, Pr_mk hE hRc hRr hRo hP hD hS hU hW⟩⟩ rfl rfl hl.1 rfl (lv_room (Nat.le_of_ble_eq_true rfl)) dL_isRefused_253 ⟨Nat.le_of_ble_eq_true rfl, Nat.le_of_ble_eq_true rfl⟩) hS (fun v9 _ H locs wl hv9 hRc hRr hRo hP hD hS => ?_)
    refine n_top (y := .int (nI (c 20 3))) (congrArg Value.int hv9) ?_
    clear hv9 v9
    refine n_if_eq (tgt := 291) hx hb dL_isRefused_256 (by decide) (ho3 ho.1) (fun c_256 => ?_) (fun c_256 => ?_)
    · refine lv_aload_n hx hb dL_isRefused_291 rfl (lv_at hl 4 rfl) ?_
      refine lv_bipush (v := nI 8) hx hb dL_isRefused_292 (by decide) ?_
      refine lv_iconst (v := nI 5) hx hb dL_isRefused_294 (by decide) ?_
      refine lv_iconst (v := nI 0) hx hb dL_isRefused_295 (by decide) ?_
      refine lv_iconst (v := nI 0) hx hb dL_isRefused_296 (by decide) ?_
      refine y_calli (va_SW (As := [.ref (G 0), .int (nI 8), .int (nI 5), .int (nI 0), .int (nI 0)]) (rest := []) hx hb hml hown hts (k_L_act_tick l hlt D G h0 c r o (nI 5) (nI 0) (nI 0) hI) (vx_cwSW 5 hts gL_isRefused_L_act rfl rfl rfl (by decide +kernel) ⟨(Nat.le_of_ble_eq_true rfl), (Nat.le_of_ble_eq_true rfl)⟩) (fun a U g mk q => ⟨q.1, Pr_cg q.2⟩) (fun U hU hW => ⟨rfl, Pr_mk hE hRc hRr hRo hP hD hS hU hW⟩) rfl hl.1 rfl (lv_room (Nat.le_of_ble_eq_true rfl)) dL_isRefused_297 (Nat.le_of_ble_eq_true rfl) (Nat.le_of_ble_eq_true rfl)) hS (fun v9 u9 H locs wl hv9 hRc hRr hRo hP hD hS => ?_)
      have hw9 := R_tickS hv9 ⟨by decide, by decide⟩ c_256
      clear hv9
      obtain ⟨hv9, hce⟩ := hw9
      have hce := hce.symm
      subst hce
      refine n_top (y := .int (-1033)) (congrArg Value.int hv9) ?_
      clear hv9
      refine lv_sipush (v := (-1033)) hx hb dL_isRefused_300 (by decide) ?_
      refine lv_icmp_ne (tgt := 310) hx hb dL_isRefused_303 (by decide) (fun c_303 => absurd c_303 (by decide)) (fun c_303 => ?_)
      refine lv_iconst (v := nI 1) hx hb dL_isRefused_306 (by decide) ?_
      refine lv_goto (tgt := 311) hx hb dL_isRefused_307 (by decide) ?_
      refine lv_istore (lv' := [(7, .int (nI 1)), (5, .long (allI c (c 20 1))), (4, .int tt), (3, .int nn), (2, .int (nI 1)), (0, .ref (G 0)), (1, .int (nI x))]) hx hb dL_isRefused_311 hl (by decide) rfl (fun ls hl => ?_)
      refine lv_iconst (v := nI 0) hx hb dL_isRefused_313 (by decide) ?_
      refine lv_istore (lv' := [(8, .int (nI 0)), (7, .int (nI 1)), (5, .long (allI c (c 20 1))), (4, .int tt), (3, .int nn), (2, .int (nI 1)), (0, .ref (G 0)), (1, .int (nI x))]) hx hb dL_isRefused_314 hl (by decide) rfl (fun ls hl => ?_)
      refine lv_iload hx hb dL_isRefused_316 (lv_at hl 0 rfl) ?_
      refine lv_iconst (v := nI 4) hx hb dL_isRefused_318 (by decide) ?_
      refine n_icmp_ge (tgt := 353) hx hb dL_isRefused_319 (by decide) (by decide) (by decide) (fun c_319 => absurd c_319 (by decide)) (fun c_319 => ?_)
      refine lv_iload hx hb dL_isRefused_322 (lv_at hl 1 rfl) ?_
      refine n_if_eq (tgt := 353) hx hb dL_isRefused_324 (by decide) (by decide) (fun c_324 => absurd c_324 (by decide)) (fun c_324 => ?_)
      refine lv_aload_n hx hb dL_isRefused_327 rfl (lv_at hl 6 rfl) ?_
      refine lv_iload hx hb dL_isRefused_328 (lv_at hl 0 rfl) ?_
      refine lv_iload_n hx hb dL_isRefused_330 rfl (lv_at hl 4 rfl) ?_
      refine y_calli (va_SW (As := [.ref (G 0), .int (nI 0), .int nn]) (rest := []) hx hb hml hown hts (k_L_of_learned l hlt D G h0 c r o nn hI hno) (vx_cwSW 3 hts gL_isRefused_L_of rfl rfl rfl (by decide +kernel) ⟨(Nat.le_of_ble_eq_true rfl), (Nat.le_of_ble_eq_true rfl)⟩) (fun a U g mk q => ⟨q.1, Pr_cg q.2⟩) (fun U hU hW => ⟨rfl, Pr_mk hE hRc hRr hRo hP hD hS hU hW⟩) rfl hl.1 rfl (lv_room (Nat.le_of_ble_eq_true rfl)) dL_isRefused_331 (Nat.le_of_ble_eq_true rfl) (Nat.le_of_ble_eq_true rfl)) hS (fun v9 u9 H locs wl hv9 hRc hRr hRo hP hD hS => ?_)
      obtain ⟨hv9, hce⟩ := hv9
      have hce := hce.symm
      subst hce
      refine n_top (y := .int (-1031)) (congrArg Value.int hv9) ?_
      clear hv9
      refine lv_sipush (v := (-1031)) hx hb dL_isRefused_334 (by decide) ?_
      refine lv_icmp_ne (tgt := 344) hx hb dL_isRefused_337 (by decide) (fun c_337 => absurd c_337 (by decide)) (fun c_337 => ?_)
      refine lv_iconst (v := nI 1) hx hb dL_isRefused_340 (by decide) ?_
      refine lv_goto (tgt := 345) hx hb dL_isRefused_341 (by decide) ?_
      refine lv_istore (lv' := [(7, .int (nI 1)), (8, .int (nI 0)), (5, .long (allI c (c 20 1))), (4, .int tt), (3, .int nn), (2, .int (nI 1)), (0, .ref (G 0)), (1, .int (nI x))]) hx hb dL_isRefused_345 hl (by decide) rfl (fun ls hl => ?_)
      refine lv_iinc (v := nI 1) (lv' := [(8, .int (nI 1)), (7, .int (nI 1)), (5, .long (allI c (c 20 1))), (4, .int tt), (3, .int nn), (2, .int (nI 1)), (0, .ref (G 0)), (1, .int (nI x))]) hx hb dL_isRefused_347 hl (k := 1) rfl (nI_add 0 1) (by decide) rfl (fun ls hl => ?_)
      refine lv_goto (tgt := 316) hx hb dL_isRefused_350 (by decide) ?_
      refine lv_iload hx hb dL_isRefused_316 (lv_at hl 0 rfl) ?_
      refine lv_iconst (v := nI 4) hx hb dL_isRefused_318 (by decide) ?_
      refine n_icmp_ge (tgt := 353) hx hb dL_isRefused_319 (by decide) (by decide) (by decide) (fun c_319 => absurd c_319 (by decide)) (fun c_319 => ?_)
      refine lv_iload hx hb dL_isRefused_322 (lv_at hl 1 rfl) ?_
      refine n_if_eq (tgt := 353) hx hb dL_isRefused_324 (by decide) (by decide) (fun c_324 => absurd c_324 (by decide)) (fun c_324 => ?_)
      refine lv_aload_n hx hb dL_isRefused_327 rfl (lv_at hl 6 rfl) ?_
      refine lv_iload hx hb dL_isRefused_328 (lv_at hl 0 rfl) ?_
      refine lv_iload_n hx hb dL_isRefused_330 rfl (lv_at hl 4 rfl) ?_
      refine y_calli (va_SW (As := [.ref (G 0), .int (nI 1), .int nn]) (rest := []) hx hb hml hown hts (k_L_of_faults l hlt D G h0 c r o nn hI hno) (vx_cwSW 3 hts gL_isRefused_L_of rfl rfl rfl (by decide +kernel) ⟨(Nat.le_of_ble_eq_true rfl), (Nat.le_of_ble_eq_true rfl)⟩) (fun a U g mk q => ⟨q.1, Pr_cg q.2⟩) (fun U hU hW => ⟨rfl, Pr_mk hE hRc hRr hRo hP hD hS hU hW⟩) rfl hl.1 rfl (lv_room (Nat.le_of_ble_eq_true rfl)) dL_isRefused_331 (Nat.le_of_ble_eq_true rfl) (Nat.le_of_ble_eq_true rfl)) hS (fun v9 u9 H locs wl hv9 hRc hRr hRo hP hD hS => ?_)
      obtain ⟨hv9, hce⟩ := hv9
      have hce := hce.symm
      subst hce
      refine n_top (y := .int (-1031)) (congrArg Value.int hv9) ?_
      clear hv9
      refine lv_sipush (v := (-1031)) hx hb dL_isRefused_334 (by decide) ?_
      refine lv_icmp_ne (tgt := 344) hx hb dL_isRefused_337 (by decide) (fun c_337 => absurd c_337 (by decide)) (fun c_337 => ?_)
      refine lv_iconst (v := nI 1) hx hb dL_isRefused_340 (by decide) ?_
      refine lv_goto (tgt := 345) hx hb dL_isRefused_341 (by decide) ?_
      refine lv_istore (lv' := [(7, .int (nI 1)), (8, .int (nI 1)), (5, .long (allI c (c 20 1))), (4, .int tt), (3, .int nn), (2, .int (nI 1)), (0, .ref (G 0)), (1, .int (nI x))]) hx hb dL_isRefused_345 hl (by decide) rfl (fun ls hl => ?_)
      refine lv_iinc (v := nI 2) (lv' := [(8, .int (nI 2)), (7, .int (nI 1)), (5, .long (allI c (c 20 1))), (4, .int tt), (3, .int nn), (2, .int (nI 1)), (0, .ref (G 0)), (1, .int (nI x))]) hx hb dL_isRefused_347 hl (k := 1) rfl (nI_add 1 1) (by decide) rfl (fun ls hl => ?_)
      refine lv_goto (tgt := 316) hx hb dL_isRefused_350 (by decide) ?_
      refine lv_iload hx hb dL_isRefused_316 (lv_at hl 0 rfl) ?_
      refine lv_iconst (v := nI 4) hx hb dL_isRefused_318 (by decide) ?_
      refine n_icmp_ge (tgt := 353) hx hb dL_isRefused_319 (by decide) (by decide) (by decide) (fun c_319 => absurd c_319 (by decide)) (fun c_319 => ?_)
      refine lv_iload hx hb dL_isRefused_322 (lv_at hl 1 rfl) ?_
      refine n_if_eq (tgt := 353) hx hb dL_isRefused_324 (by decide) (by decide) (fun c_324 => absurd c_324 (by decide)) (fun c_324 => ?_)
      refine lv_aload_n hx hb dL_isRefused_327 rfl (lv_at hl 6 rfl) ?_
      refine lv_iload hx hb dL_isRefused_328 (lv_at hl 0 rfl) ?_
      refine lv_iload_n hx hb dL_isRefused_330 rfl (lv_at hl 4 rfl) ?_
      refine y_calli (va_SW (As := [.ref (G 0), .int (nI 2), .int nn]) (rest := []) hx hb hml hown hts (k_L_of_state l hlt D G h0 c r o nn hI hno) (vx_cwSW 3 hts gL_isRefused_L_of rfl rfl rfl (by decide +kernel) ⟨(Nat.le_of_ble_eq_true rfl), (Nat.le_of_ble_eq_true rfl)⟩) (fun a U g mk q => ⟨q.1, Pr_cg q.2⟩) (fun U hU hW => ⟨rfl, Pr_mk hE hRc hRr hRo hP hD hS hU hW⟩) rfl hl.1 rfl (lv_room (Nat.le_of_ble_eq_true rfl)) dL_isRefused_331 (Nat.le_of_ble_eq_true rfl) (Nat.le_of_ble_eq_true rfl)) hS (fun v9 u9 H locs wl hv9 hRc hRr hRo hP hD hS => ?_)
      obtain ⟨hv9, hce⟩ := hv9
      have hce := hce.symm
      subst hce
      refine n_top (y := .int (-1031)) (congrArg Value.int hv9) ?_
      clear hv9
      refine lv_sipush (v := (-1031)) hx hb dL_isRefused_334 (by decide) ?_
      refine lv_icmp_ne (tgt := 344) hx hb dL_isRefused_337 (by decide) (fun c_337 => absurd c_337 (by decide)) (fun c_337 => ?_)
      refine lv_iconst (v := nI 1) hx hb dL_isRefused_340 (by decide) ?_
      refine lv_goto (tgt := 345) hx hb dL_isRefused_341 (by decide) ?_
      refine lv_istore (lv' := [(7, .int (nI 1)), (8, .int (nI 2)), (5, .long (allI c (c 20 1))), (4, .int tt), (3, .int nn), (2, .int (nI 1)), (0, .ref (G 0)), (1, .int (nI x))]) hx hb dL_isRefused_345 hl (by decide) rfl (fun ls hl => ?_)
      refine lv_iinc (v := nI 3) (lv' := [(8, .int (nI 3)), (7, .int (nI 1)), (5, .long (allI c (c 20 1))), (4, .int tt), (3, .int nn), (2, .int (nI 1)), (0, .ref (G 0)), (1, .int (nI x))]) hx hb dL_isRefused_347 hl (k := 1) rfl (nI_add 2 1) (by decide) rfl (fun ls hl => ?_)
      refine lv_goto (tgt := 316) hx hb dL_isRefused_350 (by decide) ?_
      refine lv_iload hx hb dL_isRefused_316 (lv_at hl 0 rfl) ?_
      refine lv_iconst (v := nI 4) hx hb dL_isRefused_318 (by decide) ?_
      refine n_icmp_ge (tgt := 353) hx hb dL_isRefused_319 (by decide) (by decide) (by decide) (fun c_319 => absurd c_319 (by decide)) (fun c_319 => ?_)
      refine lv_iload hx hb dL_isRefused_322 (lv_at hl 1 rfl) ?_
      refine n_if_eq (tgt := 353) hx hb dL_isRefused_324 (by decide) (by decide) (fun c_324 => absurd c_324 (by decide)) (fun c_324 => ?_)
      refine lv_aload_n hx hb dL_isRefused_327 rfl (lv_at hl 6 rfl) ?_
      refine lv_iload hx hb dL_isRefused_328 (lv_at hl 0 rfl) ?_
      refine lv_iload_n hx hb dL_isRefused_330 rfl (lv_at hl 4 rfl) ?_
      refine y_calli (va_SW (As := [.ref (G 0), .int (nI 3), .int nn]) (rest := []) hx hb hml hown hts (k_L_of_waitsFor l hlt D G h0 c r o nn hI hno) (vx_cwSW 3 hts gL_isRefused_L_of rfl rfl rfl (by decide +kernel) ⟨(Nat.le_of_ble_eq_true rfl), (Nat.le_of_ble_eq_true rfl)⟩) (fun a U g mk q => ⟨q.1, Pr_cg q.2⟩) (fun U hU hW => ⟨rfl, Pr_mk hE hRc hRr hRo hP hD hS hU hW⟩) rfl hl.1 rfl (lv_room (Nat.le_of_ble_eq_true rfl)) dL_isRefused_331 (Nat.le_of_ble_eq_true rfl) (Nat.le_of_ble_eq_true rfl)) hS (fun v9 u9 H locs wl hv9 hRc hRr hRo hP hD hS => ?_)
      obtain ⟨hv9, hce⟩ := hv9
      have hce := hce.symm
      subst hce
      refine n_top (y := .int (-1031)) (congrArg Value.int hv9) ?_
      clear hv9
      refine lv_sipush (v := (-1031)) hx hb dL_isRefused_334 (by decide) ?_
      refine lv_icmp_ne (tgt := 344) hx hb dL_isRefused_337 (by decide) (fun c_337 => absurd c_337 (by decide)) (fun c_337 => ?_)
      refine lv_iconst (v := nI 1) hx hb dL_isRefused_340 (by decide) ?_
      refine lv_goto (tgt := 345) hx hb dL_isRefused_341 (by decide) ?_
      refine lv_istore (lv' := [(7, .int (nI 1)), (8, .int (nI 3)), (5, .long (allI c (c 20 1))), (4, .int tt), (3, .int nn), (2, .int (nI 1)), (0, .ref (G 0)), (1, .int (nI x))]) hx hb dL_isRefused_345 hl (by decide) rfl (fun ls hl => ?_)
      refine lv_iinc (v := nI 4) (lv' := [(8, .int (nI 4)), (7, .int (nI 1)), (5, .long (allI c (c 20 1))), (4, .int tt), (3, .int nn), (2, .int (nI 1)), (0, .ref (G 0)), (1, .int (nI x))]) hx hb dL_isRefused_347 hl (k := 1) rfl (nI_add 3 1) (by decide) rfl (fun ls hl => ?_)
      refine lv_goto (tgt := 316) hx hb dL_isRefused_350 (by decide) ?_
      refine lv_iload hx hb dL_isRefused_316 (lv_at hl 0 rfl) ?_
      refine lv_iconst (v := nI 4) hx hb dL_isRefused_318 (by decide) ?_
      refine n_icmp_ge (tgt := 353) hx hb dL_isRefused_319 (by decide) (by decide) (by decide) (fun c_319 => ?_) (fun c_319 => absurd c_319 (by decide))
      refine lv_iconst (v := nI 0) hx hb dL_isRefused_353 (by decide) ?_
      refine lv_istore (lv' := [(8, .int (nI 0)), (7, .int (nI 1)), (5, .long (allI c (c 20 1))), (4, .int tt), (3, .int nn), (2, .int (nI 1)), (0, .ref (G 0)), (1, .int (nI x))]) hx hb dL_isRefused_354 hl (by decide) rfl (fun ls hl => ?_)
      have L356 : ∀ (d i : Nat), c 20 1 - i < d → i ≤ c 20 1 → ∀ (H : Heap) (locs : List Loc) (wl : va_W) (ls : Array Slot), Rc G c wl → Rr G r wl → Ro G o wl → va_P D vwCl wl H → va_D (fun q => h0 ≤ q) wl → va_S (fun q => h0 ≤ q) s.heap H locs → lv_has ls 10 [(8, .int (nI i)), (7, .int (nI 1)), (0, .ref (G 0)), (1, .int (nI x)), (2, .int (nI 1)), (3, .int nn), (4, .int tt), (5, .long (allI c (c 20 1)))] → W p l e (headSpec wsL_isRefused ({ frames := 9, cells := 508, slots := 69800, locals := 243 } : Room)).room s m ([.ref (G 0), .int (nI x)] : List Value).toArray below meth cd H locs (60 + 56 * i) (2600 + 8400 * i) Q (F0 m 356 ls []) := by
        intro d356
        induction d356 with
        | zero => intro i hd; exact absurd hd (Nat.not_lt_zero _)
        | succ d356 ih356 =>
          intro i hd hi  H locs wl ls hRc hRr hRo hP hD hS hl
          refine lv_iload hx hb dL_isRefused_356 (lv_at hl 0 rfl) ?_
          refine lv_aload_n hx hb dL_isRefused_358 rfl (lv_at hl 2 rfl) ?_
          refine y_calli (va_runV (As := []) (rest := [.int (nI i)]) ⟨hx, hb, hml, hown, hts⟩ (k_X2_units l D G h0 c r o ) (cwV 0 hts gL_isRefused_X2_units rfl rfl rfl (by decide +kernel) ⟨Nat.le_of_ble_eq_true rfl, Nat.le_of_ble_eq_true rfl⟩) ⟨fun a U g mk q => ⟨q.1, Pr_cg q.2⟩, va_recv (ci := 3) (q0 := 0) hK hP rfl (Q_o hRc), fun U hU hW => ⟨rfl, Pr_mk hE hRc hRr hRo hP hD hS hU hW⟩⟩ rfl rfl hl.1 rfl (lv_room (Nat.le_of_ble_eq_true rfl)) dL_isRefused_359 ⟨(show _ ≤ 508 from by omega), (show _ ≤ 69800 from by omega)⟩) hS (fun v9 _ H locs wl hv9 hRc hRr hRo hP hD hS => ?_)
          refine n_top (y := .int (nI (c 20 1))) (congrArg Value.int hv9) ?_
          clear hv9 v9
          refine n_icmp_ge (tgt := 639) hx hb dL_isRefused_362 (by decide) (by omega) (hB _ _ (by decide)) (fun c_362 => ?_) (fun c_362 => ?_)
          · refine lv_iload hx hb dL_isRefused_639 (lv_at hl 1 rfl) ?_
            refine n_if_eq (tgt := 658) hx hb dL_isRefused_641 (by decide) (by decide) (fun c_641 => absurd c_641 (by decide)) (fun c_641 => ?_)
            refine lv_aload_n hx hb dL_isRefused_644 rfl (lv_at hl 2 rfl) ?_
            refine y_calll (va_runS (As := [.ref (G 0)]) (rest := []) ⟨hx, hb, hml, hown, hts⟩ (k_L_all l D G h0 c r o hI) (va_cwS 1 hts gL_isRefused_L_all rfl rfl rfl (by decide +kernel) ⟨Nat.le_of_ble_eq_true rfl, Nat.le_of_ble_eq_true rfl⟩) ⟨fun a U g mk q => ⟨q.1, Pr_cg q.2⟩, fun U hU hW => ⟨rfl, Pr_mk hE hRc hRr hRo hP hD hS hU hW⟩⟩ rfl rfl hl.1 rfl (lv_room (Nat.le_of_ble_eq_true rfl)) dL_isRefused_645 ⟨(show _ ≤ 508 from by omega), (show _ ≤ 69800 from by omega)⟩) hS (fun v9 _ H locs wl hv9 hRc hRr hRo hP hD hS => ?_)
            refine n_top (y := .long (allI c (c 20 1))) (congrArg Value.long hv9) ?_
            clear hv9 v9
            refine lv_lload hx hb dL_isRefused_648 (lv_at hl 7 rfl) ?_
            refine x_lcmp hx hb rfl dL_isRefused_650 ?_
            refine n_top (y := .int (nI 0)) (congrArg Value.int nI_0.symm) ?_
            refine n_if_ne (tgt := 658) hx hb dL_isRefused_651 (by decide) (by decide) (fun c_651 => absurd c_651 (by decide)) (fun c_651 => ?_)
            refine lv_iconst (v := nI 1) hx hb dL_isRefused_654 (by decide) ?_
            refine lv_goto (tgt := 659) hx hb dL_isRefused_655 (by decide) ?_
            rw [hQ]
            refine W.widen (k := 508) (n := 69800) (by omega) (by omega) ?_
            exact W.zret (v := nI 1) (ty := .boolean) hx hb hr (nb_le (by first | exact bN_le _ | decide | omega | assumption)) (fun t ht hW => ⟨⟨_, (), rfl, (show nI 1 = nI 1 from by first | rfl | (apply congrArg nI; omega) | exact congrArg nI (bN_t (by omega)).symm | exact congrArg nI (bN_f (by omega)).symm), Wr_mk hRc hRr hRo hP hD ht⟩, hS.F ht⟩) hS.2.2 dL_isRefused_659
          · have hk : i < c 20 1 := by omega
            refine lv_iload hx hb dL_isRefused_365 (lv_at hl 1 rfl) ?_
            refine n_if_eq (tgt := 639) hx hb dL_isRefused_367 (by decide) (by decide) (fun c_367 => absurd c_367 (by decide)) (fun c_367 => ?_)
            refine lv_iload hx hb dL_isRefused_370 (lv_at hl 0 rfl) ?_
            refine lv_iconst (v := nI 1) hx hb dL_isRefused_372 (by decide) ?_
            refine n_iadd hx hb dL_isRefused_373 ?_
            refine lv_aload_n hx hb dL_isRefused_374 rfl (lv_at hl 2 rfl) ?_
            refine y_calli (va_runV (As := []) (rest := [.int (nI (i + 1))]) ⟨hx, hb, hml, hown, hts⟩ (k_X2_units l D G h0 c r o ) (cwV 0 hts gL_isRefused_X2_units rfl rfl rfl (by decide +kernel) ⟨Nat.le_of_ble_eq_true rfl, Nat.le_of_ble_eq_true rfl⟩) ⟨fun a U g mk q => ⟨q.1, Pr_cg q.2⟩, va_recv (ci := 3) (q0 := 0) hK hP rfl (Q_o hRc), fun U hU hW => ⟨rfl, Pr_mk hE hRc hRr hRo hP hD hS hU hW⟩⟩ rfl rfl hl.1 rfl (lv_room (Nat.le_of_ble_eq_true rfl)) dL_isRefused_375 ⟨(show _ ≤ 508 from by omega), (show _ ≤ 69800 from by omega)⟩) hS (fun v9 _ H locs wl hv9 hRc hRr hRo hP hD hS => ?_)
            refine n_top (y := .int (nI (c 20 1))) (congrArg Value.int hv9) ?_
            clear hv9 v9
            refine n_irem hx hb dL_isRefused_378 (by omega) (by first | omega | decide | assumption) (hB _ _ (by decide)) ?_
            obtain ⟨oo, h_oo⟩ : ∃ z : Nat, z = (i + 1) % (c 20 1) := ⟨_, rfl⟩
            rw [← h_oo]
            have hoo : oo < c 20 1 := by rw [h_oo]; exact Nat.mod_lt _ (by omega)
            refine lv_istore (lv' := [(9, .int (nI oo)), (8, .int (nI i)), (7, .int (nI 1)), (0, .ref (G 0)), (1, .int (nI x)), (2, .int (nI 1)), (3, .int nn), (4, .int tt), (5, .long (allI c (c 20 1)))]) hx hb dL_isRefused_379 hl (by decide) rfl (fun ls hl => ?_)
            refine lv_aload_n hx hb dL_isRefused_381 rfl (lv_at hl 3 rfl) ?_
            refine lv_iconst (v := nI 1) hx hb dL_isRefused_382 (by decide) ?_
            refine lv_iload hx hb dL_isRefused_383 (lv_at hl 1 rfl) ?_
            refine lv_iload_n hx hb dL_isRefused_385 rfl (lv_at hl 6 rfl) ?_
            refine lv_iconst (v := nI 0) hx hb dL_isRefused_386 (by decide) ?_
            refine y_calli (va_SW (As := [.ref (G 0), .int (nI 1), .int (nI i), .int nn, .int (nI 0)]) (rest := []) hx hb hml hown hts (k_L_act_need l hlt D G h0 c r o (nI i) nn (nI 0) hI) (vx_cwSW 5 hts gL_isRefused_L_act rfl rfl rfl (by decide +kernel) ⟨(Nat.le_of_ble_eq_true rfl), (Nat.le_of_ble_eq_true rfl)⟩) (fun a U g mk q => ⟨q.1, Pr_cg q.2⟩) (fun U hU hW => ⟨rfl, Pr_mk hE hRc hRr hRo hP hD hS hU hW⟩) rfl hl.1 rfl (lv_room (Nat.le_of_ble_eq_true rfl)) dL_isRefused_387 (show _ ≤ 508 from by omega) (show _ ≤ 69800 from by omega)) hS (fun v9 u9 H locs wl hv9 hRc hRr hRo hP hD hS => ?_)
            have hw9 := R_needO hv9 (fun z => hno z.2)
            clear hv9
            obtain ⟨hv9, hce⟩ := hw9
            have hce := hce.symm
            subst hce
            refine n_top (y := .int (-1031)) (congrArg Value.int hv9) ?_
            clear hv9
            refine lv_sipush (v := (-1031)) hx hb dL_isRefused_390 (by decide) ?_
            refine lv_icmp_ne (tgt := 630) hx hb dL_isRefused_393 (by decide) (fun c_393 => absurd c_393 (by decide)) (fun c_393 => ?_)
            refine lv_aload_n hx hb dL_isRefused_396 rfl (lv_at hl 3 rfl) ?_
            refine lv_iconst (v := nI 1) hx hb dL_isRefused_397 (by decide) ?_
            refine lv_iload hx hb dL_isRefused_398 (lv_at hl 1 rfl) ?_
            refine lv_iload hx hb dL_isRefused_400 (lv_at hl 1 rfl) ?_
            refine lv_iconst (v := nI 0) hx hb dL_isRefused_402 (by decide) ?_
            refine y_calli (va_SW (As := [.ref (G 0), .int (nI 1), .int (nI i), .int (nI i), .int (nI 0)]) (rest := []) hx hb hml hown hts (k_L_act_need l hlt D G h0 c r o (nI i) (nI i) (nI 0) hI) (vx_cwSW 5 hts gL_isRefused_L_act rfl rfl rfl (by decide +kernel) ⟨(Nat.le_of_ble_eq_true rfl), (Nat.le_of_ble_eq_true rfl)⟩) (fun a U g mk q => ⟨q.1, Pr_cg q.2⟩) (fun U hU hW => ⟨rfl, Pr_mk hE hRc hRr hRo hP hD hS hU hW⟩) rfl hl.1 rfl (lv_room (Nat.le_of_ble_eq_true rfl)) dL_isRefused_403 (show _ ≤ 508 from by omega) (show _ ≤ 69800 from by omega)) hS (fun v9 u9 H locs wl hv9 hRc hRr hRo hP hD hS => ?_)
            have hw9 := R_needS hv9 hk hk hn (Or.inl rfl)
            clear hv9
            obtain ⟨hv9, hce⟩ := hw9
            have hce := hce.symm
            subst hce
            refine n_top (y := .int (-1033)) (congrArg Value.int hv9) ?_
            clear hv9
            refine lv_sipush (v := (-1033)) hx hb dL_isRefused_406 (by decide) ?_
            refine lv_icmp_ne (tgt := 630) hx hb dL_isRefused_409 (by decide) (fun c_409 => absurd c_409 (by decide)) (fun c_409 => ?_)
            refine lv_aload_n hx hb dL_isRefused_412 rfl (lv_at hl 3 rfl) ?_
            refine lv_iconst (v := nI 2) hx hb dL_isRefused_413 (by decide) ?_
            refine lv_iload hx hb dL_isRefused_414 (lv_at hl 1 rfl) ?_
            refine lv_iload_n hx hb dL_isRefused_416 rfl (lv_at hl 6 rfl) ?_
            refine lv_iconst (v := nI 0) hx hb dL_isRefused_417 (by decide) ?_
            refine y_calli (va_SW (As := [.ref (G 0), .int (nI 2), .int (nI i), .int nn, .int (nI 0)]) (rest := []) hx hb hml hown hts (k_L_act_wish l hlt D G h0 c r o (nI i) nn (nI 0) hI hW5) (vx_cwSW 5 hts gL_isRefused_L_act rfl rfl rfl (by decide +kernel) ⟨(Nat.le_of_ble_eq_true rfl), (Nat.le_of_ble_eq_true rfl)⟩) (fun a U g mk q => ⟨q.1, Pr_cg q.2⟩) (fun U hU hW => ⟨rfl, Pr_mk hE hRc hRr hRo hP hD hS hU hW⟩) rfl hl.1 rfl (lv_room (Nat.le_of_ble_eq_true rfl)) dL_isRefused_418 (show _ ≤ 508 from by omega) (show _ ≤ 69800 from by omega)) hS (fun v9 u9 H locs wl hv9 hRc hRr hRo hP hD hS => ?_)
            have hw9 := R_wishO hv9 (fun z => hno z.2)
            clear hv9
            obtain ⟨hv9, hce⟩ := hw9
            have hce := hce.symm
            subst hce
            refine n_top (y := .int (-1031)) (congrArg Value.int hv9) ?_
            clear hv9
            refine lv_sipush (v := (-1031)) hx hb dL_isRefused_421 (by decide) ?_
            refine lv_icmp_ne (tgt := 630) hx hb dL_isRefused_424 (by decide) (fun c_424 => absurd c_424 (by decide)) (fun c_424 => ?_)
            refine lv_aload_n hx hb dL_isRefused_427 rfl (lv_at hl 3 rfl) ?_
            refine lv_iconst (v := nI 2) hx hb dL_isRefused_428 (by decide) ?_
            refine lv_iload hx hb dL_isRefused_429 (lv_at hl 1 rfl) ?_
            refine lv_iload hx hb dL_isRefused_431 (lv_at hl 0 rfl) ?_
            refine lv_iload_n hx hb dL_isRefused_433 rfl (lv_at hl 5 rfl) ?_
            refine n_if_eq (tgt := 441) hx hb dL_isRefused_434 (by decide) (by decide) (fun c_434 => absurd c_434 (by decide)) (fun c_434 => ?_)
            refine lv_iconst (v := nI 0) hx hb dL_isRefused_437 (by decide) ?_
            refine lv_goto (tgt := 443) hx hb dL_isRefused_438 (by decide) ?_
            refine y_calli (va_SW (As := [.ref (G 0), .int (nI 2), .int (nI i), .int (nI oo), .int (nI 0)]) (rest := []) hx hb hml hown hts (k_L_act_wish l hlt D G h0 c r o (nI i) (nI oo) (nI 0) hI hW5) (vx_cwSW 5 hts gL_isRefused_L_act rfl rfl rfl (by decide +kernel) ⟨(Nat.le_of_ble_eq_true rfl), (Nat.le_of_ble_eq_true rfl)⟩) (fun a U g mk q => ⟨q.1, Pr_cg q.2⟩) (fun U hU hW => ⟨rfl, Pr_mk hE hRc hRr hRo hP hD hS hU hW⟩) rfl hl.1 rfl (lv_room (Nat.le_of_ble_eq_true rfl)) dL_isRefused_443 (show _ ≤ 508 from by omega) (show _ ≤ 69800 from by omega)) hS (fun v9 u9 H locs wl hv9 hRc hRr hRo hP hD hS => ?_)
            have hw9 := R_wishA hv9 (oku hk) (oku hoo) (fun z => (fun y : inR (nI 0) 1 100 => absurd y.1 (by decide)) z.1) hn
            clear hv9
            obtain ⟨hv9, hce⟩ := hw9
            have hce := hce.symm
            subst hce
            refine n_top (y := .int (-1032)) (congrArg Value.int hv9) ?_
            clear hv9
            refine lv_sipush (v := (-1032)) hx hb dL_isRefused_446 (by decide) ?_
            refine lv_icmp_ne (tgt := 630) hx hb dL_isRefused_449 (by decide) (fun c_449 => absurd c_449 (by decide)) (fun c_449 => ?_)
            refine lv_aload_n hx hb dL_isRefused_452 rfl (lv_at hl 3 rfl) ?_
            refine lv_iconst (v := nI 2) hx hb dL_isRefused_453 (by decide) ?_
            refine lv_iload hx hb dL_isRefused_454 (lv_at hl 1 rfl) ?_
            refine lv_iload hx hb dL_isRefused_456 (lv_at hl 1 rfl) ?_
            refine lv_iconst (v := nI 5) hx hb dL_isRefused_458 (by decide) ?_
            refine y_calli (va_SW (As := [.ref (G 0), .int (nI 2), .int (nI i), .int (nI i), .int (nI 5)]) (rest := []) hx hb hml hown hts (k_L_act_wish l hlt D G h0 c r o (nI i) (nI i) (nI 5) hI hW5) (vx_cwSW 5 hts gL_isRefused_L_act rfl rfl rfl (by decide +kernel) ⟨(Nat.le_of_ble_eq_true rfl), (Nat.le_of_ble_eq_true rfl)⟩) (fun a U g mk q => ⟨q.1, Pr_cg q.2⟩) (fun U hU hW => ⟨rfl, Pr_mk hE hRc hRr hRo hP hD hS hU hW⟩) rfl hl.1 rfl (lv_room (Nat.le_of_ble_eq_true rfl)) dL_isRefused_459 (show _ ≤ 508 from by omega) (show _ ≤ 69800 from by omega)) hS (fun v9 u9 H locs wl hv9 hRc hRr hRo hP hD hS => ?_)
            have hw9 := R_wishA hv9 (oku hk) (oku hk) (fun z => z.2 rfl) hn
            clear hv9
            obtain ⟨hv9, hce⟩ := hw9
            have hce := hce.symm
            subst hce
            refine n_top (y := .int (-1032)) (congrArg Value.int hv9) ?_
            clear hv9
            refine lv_sipush (v := (-1032)) hx hb dL_isRefused_462 (by decide) ?_
            refine lv_icmp_ne (tgt := 630) hx hb dL_isRefused_465 (by decide) (fun c_465 => absurd c_465 (by decide)) (fun c_465 => ?_)
            refine lv_aload_n hx hb dL_isRefused_468 rfl (lv_at hl 3 rfl) ?_
            refine lv_iconst (v := nI 3) hx hb dL_isRefused_469 (by decide) ?_
            refine lv_iload hx hb dL_isRefused_470 (lv_at hl 1 rfl) ?_
            refine lv_iload hx hb dL_isRefused_472 (lv_at hl 7 rfl) ?_
            refine lv_iconst (v := nI 0) hx hb dL_isRefused_474 (by decide) ?_
            refine y_calli (va_SW (As := [.ref (G 0), .int (nI 3), .int (nI i), .int tt, .int (nI 0)]) (rest := []) hx hb hml hown hts (k_L_act_standIn l hlt D G h0 c r o (nI i) tt (nI 0) hI) (vx_cwSW 5 hts gL_isRefused_L_act rfl rfl rfl (by decide +kernel) ⟨(Nat.le_of_ble_eq_true rfl), (Nat.le_of_ble_eq_true rfl)⟩) (fun a U g mk q => ⟨q.1, Pr_cg q.2⟩) (fun U hU hW => ⟨rfl, Pr_mk hE hRc hRr hRo hP hD hS hU hW⟩) rfl hl.1 rfl (lv_room (Nat.le_of_ble_eq_true rfl)) dL_isRefused_475 (show _ ≤ 508 from by omega) (show _ ≤ 69800 from by omega)) hS (fun v9 u9 H locs wl hv9 hRc hRr hRo hP hD hS => ?_)
            have hw9 := R_siO hv9 (fun z => hno2 z.2)
            clear hv9
            obtain ⟨hv9, hce⟩ := hw9
            have hce := hce.symm
            subst hce
            refine n_top (y := .int (-1031)) (congrArg Value.int hv9) ?_
            clear hv9
            refine lv_sipush (v := (-1031)) hx hb dL_isRefused_478 (by decide) ?_
            refine lv_icmp_ne (tgt := 630) hx hb dL_isRefused_481 (by decide) (fun c_481 => absurd c_481 (by decide)) (fun c_481 => ?_)
            refine lv_aload_n hx hb dL_isRefused_484 rfl (lv_at hl 3 rfl) ?_
            refine lv_iconst (v := nI 3) hx hb dL_isRefused_485 (by decide) ?_
            refine lv_iload hx hb dL_isRefused_486 (lv_at hl 1 rfl) ?_
            refine lv_iload hx hb dL_isRefused_488 (lv_at hl 1 rfl) ?_
            refine lv_iconst (v := nI 0) hx hb dL_isRefused_490 (by decide) ?_
            refine y_calli (va_SW (As := [.ref (G 0), .int (nI 3), .int (nI i), .int (nI i), .int (nI 0)]) (rest := []) hx hb hml hown hts (k_L_act_standIn l hlt D G h0 c r o (nI i) (nI i) (nI 0) hI) (vx_cwSW 5 hts gL_isRefused_L_act rfl rfl rfl (by decide +kernel) ⟨(Nat.le_of_ble_eq_true rfl), (Nat.le_of_ble_eq_true rfl)⟩) (fun a U g mk q => ⟨q.1, Pr_cg q.2⟩) (fun U hU hW => ⟨rfl, Pr_mk hE hRc hRr hRo hP hD hS hU hW⟩) rfl hl.1 rfl (lv_room (Nat.le_of_ble_eq_true rfl)) dL_isRefused_491 (show _ ≤ 508 from by omega) (show _ ≤ 69800 from by omega)) hS (fun v9 u9 H locs wl hv9 hRc hRr hRo hP hD hS => ?_)
            have hw9 := R_siA hv9 hk hn
            clear hv9
            obtain ⟨hv9, hce⟩ := hw9
            have hce := hce.symm
            subst hce
            refine n_top (y := .int (-1032)) (congrArg Value.int hv9) ?_
            clear hv9
            refine lv_sipush (v := (-1032)) hx hb dL_isRefused_494 (by decide) ?_
            refine lv_icmp_ne (tgt := 630) hx hb dL_isRefused_497 (by decide) (fun c_497 => absurd c_497 (by decide)) (fun c_497 => ?_)
            refine lv_aload_n hx hb dL_isRefused_500 rfl (lv_at hl 3 rfl) ?_
            refine lv_iconst (v := nI 5) hx hb dL_isRefused_501 (by decide) ?_
            refine lv_iload hx hb dL_isRefused_502 (lv_at hl 1 rfl) ?_
            refine lv_iload_n hx hb dL_isRefused_504 rfl (lv_at hl 5 rfl) ?_
            refine n_if_eq (tgt := 512) hx hb dL_isRefused_505 (by decide) (by decide) (fun c_505 => absurd c_505 (by decide)) (fun c_505 => ?_)
            refine lv_iconst (v := (-1)) hx hb dL_isRefused_508 (by decide) ?_
            refine lv_goto (tgt := 514) hx hb dL_isRefused_509 (by decide) ?_
            refine lv_iconst (v := nI 0) hx hb dL_isRefused_514 (by decide) ?_
            refine y_calli (va_SW (As := [.ref (G 0), .int (nI 5), .int (nI i), .int (-1), .int (nI 0)]) (rest := []) hx hb hml hown hts (k_L_act_setFaults l hlt D G h0 c r o (nI i) (-1) (nI 0) hI) (vx_cwSW 5 hts gL_isRefused_L_act rfl rfl rfl (by decide +kernel) ⟨(Nat.le_of_ble_eq_true rfl), (Nat.le_of_ble_eq_true rfl)⟩) (fun a U g mk q => ⟨q.1, Pr_cg q.2⟩) (fun U hU hW => ⟨rfl, Pr_mk hE hRc hRr hRo hP hD hS hU hW⟩) rfl hl.1 rfl (lv_room (Nat.le_of_ble_eq_true rfl)) dL_isRefused_515 (show _ ≤ 508 from by omega) (show _ ≤ 69800 from by omega)) hS (fun v9 u9 H locs wl hv9 hRc hRr hRo hP hD hS => ?_)
            have hw9 := R_sfA hv9 (oku hk) (fun y : inR (-1) 0 10 => absurd y.1 (by decide))
            clear hv9
            obtain ⟨hv9, hce⟩ := hw9
            have hce := hce.symm
            subst hce
            refine n_top (y := .int (-1032)) (congrArg Value.int hv9) ?_
            clear hv9
            refine lv_sipush (v := (-1032)) hx hb dL_isRefused_518 (by decide) ?_
            refine lv_icmp_ne (tgt := 630) hx hb dL_isRefused_521 (by decide) (fun c_521 => absurd c_521 (by decide)) (fun c_521 => ?_)
            refine lv_aload_n hx hb dL_isRefused_524 rfl (lv_at hl 3 rfl) ?_
            refine lv_bipush (v := nI 6) hx hb dL_isRefused_525 (by decide) ?_
            refine lv_iload hx hb dL_isRefused_527 (lv_at hl 1 rfl) ?_
            refine lv_iload_n hx hb dL_isRefused_529 rfl (lv_at hl 5 rfl) ?_
            refine n_if_eq (tgt := 537) hx hb dL_isRefused_530 (by decide) (by decide) (fun c_530 => absurd c_530 (by decide)) (fun c_530 => ?_)
            refine lv_iconst (v := nI 0) hx hb dL_isRefused_533 (by decide) ?_
            refine lv_goto (tgt := 539) hx hb dL_isRefused_534 (by decide) ?_
            refine lv_iconst (v := nI 0) hx hb dL_isRefused_539 (by decide) ?_
            refine y_calli (va_SW (As := [.ref (G 0), .int (nI 6), .int (nI i), .int (nI 0), .int (nI 0)]) (rest := []) hx hb hml hown hts (k_L_act_setTime l hlt D G h0 c r o (nI i) (nI 0) (nI 0) hI) (vx_cwSW 5 hts gL_isRefused_L_act rfl rfl rfl (by decide +kernel) ⟨(Nat.le_of_ble_eq_true rfl), (Nat.le_of_ble_eq_true rfl)⟩) (fun a U g mk q => ⟨q.1, Pr_cg q.2⟩) (fun U hU hW => ⟨rfl, Pr_mk hE hRc hRr hRo hP hD hS hU hW⟩) rfl hl.1 rfl (lv_room (Nat.le_of_ble_eq_true rfl)) dL_isRefused_540 (show _ ≤ 508 from by omega) (show _ ≤ 69800 from by omega)) hS (fun v9 u9 H locs wl hv9 hRc hRr hRo hP hD hS => ?_)
            have hw9 := R_stA hv9 (oku hk) (fun y : inR (nI 0) 1 100 => absurd y.1 (by decide))
            clear hv9
            obtain ⟨hv9, hce⟩ := hw9
            have hce := hce.symm
            subst hce
            refine n_top (y := .int (-1032)) (congrArg Value.int hv9) ?_
            clear hv9
            refine lv_sipush (v := (-1032)) hx hb dL_isRefused_543 (by decide) ?_
            refine lv_icmp_ne (tgt := 630) hx hb dL_isRefused_546 (by decide) (fun c_546 => absurd c_546 (by decide)) (fun c_546 => ?_)
            refine lv_aload_n hx hb dL_isRefused_549 rfl (lv_at hl 3 rfl) ?_
            refine y_calli (va_runV (As := []) (rest := []) ⟨hx, hb, hml, hown, hts⟩ (k_X2_goesOn l D G h0 c r o ho.1) (cwV 0 hts gL_isRefused_X2_goesOn rfl rfl rfl (by decide +kernel) ⟨Nat.le_of_ble_eq_true rfl, Nat.le_of_ble_eq_true rfl⟩) ⟨fun a U g mk q => ⟨q.1, Pr_cg q.2⟩, va_recv (ci := 3) (q0 := 0) hK hP rfl (Q_o hRc), fun U hU hW => ⟨rfl, Pr_mk hE hRc hRr hRo hP hD hS hU hW⟩⟩ rfl rfl hl.1 rfl (lv_room (Nat.le_of_ble_eq_true rfl)) dL_isRefused_550 ⟨(show _ ≤ 508 from by omega), (show _ ≤ 69800 from by omega)⟩) hS (fun v9 _ H locs wl hv9 hRc hRr hRo hP hD hS => ?_)
            refine n_top (y := .int (nI (c 20 3))) (congrArg Value.int hv9) ?_
            clear hv9 v9
            refine n_if_eq (tgt := 626) hx hb dL_isRefused_553 (by decide) (ho3 ho.1) (fun c_553 => ?_) (fun c_553 => ?_)
            · refine lv_iconst (v := nI 1) hx hb dL_isRefused_626 (by decide) ?_
              refine lv_goto (tgt := 631) hx hb dL_isRefused_627 (by decide) ?_
              refine lv_istore (lv' := [(7, .int (nI 1)), (9, .int (nI oo)), (8, .int (nI i)), (0, .ref (G 0)), (1, .int (nI x)), (2, .int (nI 1)), (3, .int nn), (4, .int tt), (5, .long (allI c (c 20 1)))]) hx hb dL_isRefused_631 hl (by decide) rfl (fun ls hl => ?_)
              refine lv_iinc (v := nI (i + 1)) (lv' := [(8, .int (nI (i + 1))), (7, .int (nI 1)), (9, .int (nI oo)), (0, .ref (G 0)), (1, .int (nI x)), (2, .int (nI 1)), (3, .int nn), (4, .int tt), (5, .long (allI c (c 20 1)))]) hx hb dL_isRefused_633 hl (k := 2) rfl (nI_add i 1) (by decide) rfl (fun ls hl => ?_)
              refine lv_goto (tgt := 356) hx hb dL_isRefused_636 (by decide) ?_
              refine W.widen (k := 60 + 56 * (i + 1)) (n := 2600 + 8400 * (i + 1)) (by omega) (by omega) ?_
              exact ih356 (i + 1) (by omega) (by omega)   _ _ _ _ hRc hRr hRo hP hD hS (lv_sub hl [0, 1, 3, 4, 5, 6, 7, 8] rfl)
            · exfalso; omega
      refine W.widen (k := 60 + 56 * 0) (n := 2600 + 8400 * 0) (by omega) (by omega) ?_
      exact L356 _ 0 (Nat.lt_succ_self _) (by omega)   _ _ _ _ hRc hRr hRo hP hD hS (lv_sub hl [0, 1, 6, 7, 5, 4, 3, 2] rfl)
    · refine lv_aload_n hx hb dL_isRefused_259 rfl (lv_at hl 4 rfl) ?_
      refine lv_iconst (v := nI 0) hx hb dL_isRefused_260 (by decide) ?_
      refine lv_iconst (v := nI 5) hx hb dL_isRefused_261 (by decide) ?_
      refine lv_iconst (v := nI 0) hx hb dL_isRefused_262 (by decide) ?_
      refine lv_iconst (v := nI 0) hx hb dL_isRefused_263 (by decide) ?_
      refine y_calli (va_SW (As := [.ref (G 0), .int (nI 0), .int (nI 5), .int (nI 0), .int (nI 0)]) (rest := []) hx hb hml hown hts (k_L_act_add l hlt D G h0 c r o (nI 5) (nI 0) (nI 0) hI) (vx_cwSW 5 hts gL_isRefused_L_act rfl rfl rfl (by decide +kernel) ⟨(Nat.le_of_ble_eq_true rfl), (Nat.le_of_ble_eq_true rfl)⟩) (fun a U g mk q => ⟨q.1, Pr_cg q.2⟩) (fun U hU hW => ⟨rfl, Pr_mk hE hRc hRr hRo hP hD hS hU hW⟩) rfl hl.1 rfl (lv_room (Nat.le_of_ble_eq_true rfl)) dL_isRefused_264 (Nat.le_of_ble_eq_true rfl) (Nat.le_of_ble_eq_true rfl)) hS (fun v9 u9 H locs wl hv9 hRc hRr hRo hP hD hS => ?_)
      have hw9 := R_addS hv9 ⟨⟨by decide, by decide⟩, ⟨by decide, by decide⟩⟩ (Nat.ne_of_gt c_256)
      clear hv9
      obtain ⟨hv9, hce⟩ := hw9
      have hce := hce.symm
      subst hce
      refine n_top (y := .int (-1033)) (congrArg Value.int hv9) ?_
      clear hv9
      refine lv_sipush (v := (-1033)) hx hb dL_isRefused_267 (by decide) ?_
      refine lv_icmp_ne (tgt := 310) hx hb dL_isRefused_270 (by decide) (fun c_270 => absurd c_270 (by decide)) (fun c_270 => ?_)
      refine lv_aload_n hx hb dL_isRefused_273 rfl (lv_at hl 4 rfl) ?_
      refine lv_bipush (v := nI 7) hx hb dL_isRefused_274 (by decide) ?_
      refine lv_iconst (v := nI 5) hx hb dL_isRefused_276 (by decide) ?_
      refine lv_iconst (v := nI 0) hx hb dL_isRefused_277 (by decide) ?_
      refine lv_iconst (v := nI 0) hx hb dL_isRefused_278 (by decide) ?_
      refine y_calli (va_SW (As := [.ref (G 0), .int (nI 7), .int (nI 5), .int (nI 0), .int (nI 0)]) (rest := []) hx hb hml hown hts (k_L_act_begin l hlt D G h0 c r o (nI 5) (nI 0) (nI 0) hI hW5) (vx_cwSW 5 hts gL_isRefused_L_act rfl rfl rfl (by decide +kernel) ⟨(Nat.le_of_ble_eq_true rfl), (Nat.le_of_ble_eq_true rfl)⟩) (fun a U g mk q => ⟨q.1, Pr_cg q.2⟩) (fun U hU hW => ⟨rfl, Pr_mk hE hRc hRr hRo hP hD hS hU hW⟩) rfl hl.1 rfl (lv_room (Nat.le_of_ble_eq_true rfl)) dL_isRefused_279 (Nat.le_of_ble_eq_true rfl) (Nat.le_of_ble_eq_true rfl)) hS (fun v9 u9 H locs wl hv9 hRc hRr hRo hP hD hS => ?_)
      have hw9 := R_begS hv9 ⟨by decide, by decide⟩ (Nat.ne_of_gt c_256)
      clear hv9
      obtain ⟨hv9, hce⟩ := hw9
      have hce := hce.symm
      subst hce
      refine n_top (y := .int (-1033)) (congrArg Value.int hv9) ?_
      clear hv9
      refine lv_sipush (v := (-1033)) hx hb dL_isRefused_282 (by decide) ?_
      refine lv_icmp_ne (tgt := 310) hx hb dL_isRefused_285 (by decide) (fun c_285 => absurd c_285 (by decide)) (fun c_285 => ?_)
      refine lv_goto (tgt := 306) hx hb dL_isRefused_288 (by decide) ?_
      refine lv_iconst (v := nI 1) hx hb dL_isRefused_306 (by decide) ?_
      refine lv_goto (tgt := 311) hx hb dL_isRefused_307 (by decide) ?_
      refine lv_istore (lv' := [(7, .int (nI 1)), (5, .long (allI c (c 20 1))), (4, .int tt), (3, .int nn), (2, .int (nI 1)), (0, .ref (G 0)), (1, .int (nI x))]) hx hb dL_isRefused_311 hl (by decide) rfl (fun ls hl => ?_)
      refine lv_iconst (v := nI 0) hx hb dL_isRefused_313 (by decide) ?_
      refine lv_istore (lv' := [(8, .int (nI 0)), (7, .int (nI 1)), (5, .long (allI c (c 20 1))), (4, .int tt), (3, .int nn), (2, .int (nI 1)), (0, .ref (G 0)), (1, .int (nI x))]) hx hb dL_isRefused_314 hl (by decide) rfl (fun ls hl => ?_)
      refine lv_iload hx hb dL_isRefused_316 (lv_at hl 0 rfl) ?_
      refine lv_iconst (v := nI 4) hx hb dL_isRefused_318 (by decide) ?_
      refine n_icmp_ge (tgt := 353) hx hb dL_isRefused_319 (by decide) (by decide) (by decide) (fun c_319 => absurd c_319 (by decide)) (fun c_319 => ?_)
      refine lv_iload hx hb dL_isRefused_322 (lv_at hl 1 rfl) ?_
      refine n_if_eq (tgt := 353) hx hb dL_isRefused_324 (by decide) (by decide) (fun c_324 => absurd c_324 (by decide)) (fun c_324 => ?_)
      refine lv_aload_n hx hb dL_isRefused_327 rfl (lv_at hl 6 rfl) ?_
      refine lv_iload hx hb dL_isRefused_328 (lv_at hl 0 rfl) ?_
      refine lv_iload_n hx hb dL_isRefused_330 rfl (lv_at hl 4 rfl) ?_
      refine y_calli (va_SW (As := [.ref (G 0), .int (nI 0), .int nn]) (rest := []) hx hb hml hown hts (k_L_of_learned l hlt D G h0 c r o nn hI hno) (vx_cwSW 3 hts gL_isRefused_L_of rfl rfl rfl (by decide +kernel) ⟨(Nat.le_of_ble_eq_true rfl), (Nat.le_of_ble_eq_true rfl)⟩) (fun a U g mk q => ⟨q.1, Pr_cg q.2⟩) (fun U hU hW => ⟨rfl, Pr_mk hE hRc hRr hRo hP hD hS hU hW⟩) rfl hl.1 rfl (lv_room (Nat.le_of_ble_eq_true rfl)) dL_isRefused_331 (Nat.le_of_ble_eq_true rfl) (Nat.le_of_ble_eq_true rfl)) hS (fun v9 u9 H locs wl hv9 hRc hRr hRo hP hD hS => ?_)
      obtain ⟨hv9, hce⟩ := hv9
      have hce := hce.symm
      subst hce
      refine n_top (y := .int (-1031)) (congrArg Value.int hv9) ?_
      clear hv9
      refine lv_sipush (v := (-1031)) hx hb dL_isRefused_334 (by decide) ?_
      refine lv_icmp_ne (tgt := 344) hx hb dL_isRefused_337 (by decide) (fun c_337 => absurd c_337 (by decide)) (fun c_337 => ?_)
      refine lv_iconst (v := nI 1) hx hb dL_isRefused_340 (by decide) ?_
      refine lv_goto (tgt := 345) hx hb dL_isRefused_341 (by decide) ?_
      refine lv_istore (lv' := [(7, .int (nI 1)), (8, .int (nI 0)), (5, .long (allI c (c 20 1))), (4, .int tt), (3, .int nn), (2, .int (nI 1)), (0, .ref (G 0)), (1, .int (nI x))]) hx hb dL_isRefused_345 hl (by decide) rfl (fun ls hl => ?_)
      refine lv_iinc (v := nI 1) (lv' := [(8, .int (nI 1)), (7, .int (nI 1)), (5, .long (allI c (c 20 1))), (4, .int tt), (3, .int nn), (2, .int (nI 1)), (0, .ref (G 0)), (1, .int (nI x))]) hx hb dL_isRefused_347 hl (k := 1) rfl (nI_add 0 1) (by decide) rfl (fun ls hl => ?_)
      refine lv_goto (tgt := 316) hx hb dL_isRefused_350 (by decide) ?_
      refine lv_iload hx hb dL_isRefused_316 (lv_at hl 0 rfl) ?_
      refine lv_iconst (v := nI 4) hx hb dL_isRefused_318 (by decide) ?_
      refine n_icmp_ge (tgt := 353) hx hb dL_isRefused_319 (by decide) (by decide) (by decide) (fun c_319 => absurd c_319 (by decide)) (fun c_319 => ?_)
      refine lv_iload hx hb dL_isRefused_322 (lv_at hl 1 rfl) ?_
      refine n_if_eq (tgt := 353) hx hb dL_isRefused_324 (by decide) (by decide) (fun c_324 => absurd c_324 (by decide)) (fun c_324 => ?_)
      refine lv_aload_n hx hb dL_isRefused_327 rfl (lv_at hl 6 rfl) ?_
      refine lv_iload hx hb dL_isRefused_328 (lv_at hl 0 rfl) ?_
      refine lv_iload_n hx hb dL_isRefused_330 rfl (lv_at hl 4 rfl) ?_
      refine y_calli (va_SW (As := [.ref (G 0), .int (nI 1), .int nn]) (rest := []) hx hb hml hown hts (k_L_of_faults l hlt D G h0 c r o nn hI hno) (vx_cwSW 3 hts gL_isRefused_L_of rfl rfl rfl (by decide +kernel) ⟨(Nat.le_of_ble_eq_true rfl), (Nat.le_of_ble_eq_true rfl)⟩) (fun a U g mk q => ⟨q.1, Pr_cg q.2⟩) (fun U hU hW => ⟨rfl, Pr_mk hE hRc hRr hRo hP hD hS hU hW⟩) rfl hl.1 rfl (lv_room (Nat.le_of_ble_eq_true rfl)) dL_isRefused_331 (Nat.le_of_ble_eq_true rfl) (Nat.le_of_ble_eq_true rfl)) hS (fun v9 u9 H locs wl hv9 hRc hRr hRo hP hD hS => ?_)
      obtain ⟨hv9, hce⟩ := hv9
      have hce := hce.symm
      subst hce
      refine n_top (y := .int (-1031)) (congrArg Value.int hv9) ?_
      clear hv9
      refine lv_sipush (v := (-1031)) hx hb dL_isRefused_334 (by decide) ?_
      refine lv_icmp_ne (tgt := 344) hx hb dL_isRefused_337 (by decide) (fun c_337 => absurd c_337 (by decide)) (fun c_337 => ?_)
      refine lv_iconst (v := nI 1) hx hb dL_isRefused_340 (by decide) ?_
      refine lv_goto (tgt := 345) hx hb dL_isRefused_341 (by decide) ?_
      refine lv_istore (lv' := [(7, .int (nI 1)), (8, .int (nI 1)), (5, .long (allI c (c 20 1))), (4, .int tt), (3, .int nn), (2, .int (nI 1)), (0, .ref (G 0)), (1, .int (nI x))]) hx hb dL_isRefused_345 hl (by decide) rfl (fun ls hl => ?_)
      refine lv_iinc (v := nI 2) (lv' := [(8, .int (nI 2)), (7, .int (nI 1)), (5, .long (allI c (c 20 1))), (4, .int tt), (3, .int nn), (2, .int (nI 1)), (0, .ref (G 0)), (1, .int (nI x))]) hx hb dL_isRefused_347 hl (k := 1) rfl (nI_add 1 1) (by decide) rfl (fun ls hl => ?_)
      refine lv_goto (tgt := 316) hx hb dL_isRefused_350 (by decide) ?_
      refine lv_iload hx hb dL_isRefused_316 (lv_at hl 0 rfl) ?_
      refine lv_iconst (v := nI 4) hx hb dL_isRefused_318 (by decide) ?_
      refine n_icmp_ge (tgt := 353) hx hb dL_isRefused_319 (by decide) (by decide) (by decide) (fun c_319 => absurd c_319 (by decide)) (fun c_319 => ?_)
      refine lv_iload hx hb dL_isRefused_322 (lv_at hl 1 rfl) ?_
      refine n_if_eq (tgt := 353) hx hb dL_isRefused_324 (by decide) (by decide) (fun c_324 => absurd c_324 (by decide)) (fun c_324 => ?_)
      refine lv_aload_n hx hb dL_isRefused_327 rfl (lv_at hl 6 rfl) ?_
      refine lv_iload hx hb dL_isRefused_328 (lv_at hl 0 rfl) ?_
      refine lv_iload_n hx hb dL_isRefused_330 rfl (lv_at hl 4 rfl) ?_
      refine y_calli (va_SW (As := [.ref (G 0), .int (nI 2), .int nn]) (rest := []) hx hb hml hown hts (k_L_of_state l hlt D G h0 c r o nn hI hno) (vx_cwSW 3 hts gL_isRefused_L_of rfl rfl rfl (by decide +kernel) ⟨(Nat.le_of_ble_eq_true rfl), (Nat.le_of_ble_eq_true rfl)⟩) (fun a U g mk q => ⟨q.1, Pr_cg q.2⟩) (fun U hU hW => ⟨rfl, Pr_mk hE hRc hRr hRo hP hD hS hU hW⟩) rfl hl.1 rfl (lv_room (Nat.le_of_ble_eq_true rfl)) dL_isRefused_331 (Nat.le_of_ble_eq_true rfl) (Nat.le_of_ble_eq_true rfl)) hS (fun v9 u9 H locs wl hv9 hRc hRr hRo hP hD hS => ?_)
      obtain ⟨hv9, hce⟩ := hv9
      have hce := hce.symm
      subst hce
      refine n_top (y := .int (-1031)) (congrArg Value.int hv9) ?_
      clear hv9
      refine lv_sipush (v := (-1031)) hx hb dL_isRefused_334 (by decide) ?_
      refine lv_icmp_ne (tgt := 344) hx hb dL_isRefused_337 (by decide) (fun c_337 => absurd c_337 (by decide)) (fun c_337 => ?_)
      refine lv_iconst (v := nI 1) hx hb dL_isRefused_340 (by decide) ?_
      refine lv_goto (tgt := 345) hx hb dL_isRefused_341 (by decide) ?_
      refine lv_istore (lv' := [(7, .int (nI 1)), (8, .int (nI 2)), (5, .long (allI c (c 20 1))), (4, .int tt), (3, .int nn), (2, .int (nI 1)), (0, .ref (G 0)), (1, .int (nI x))]) hx hb dL_isRefused_345 hl (by decide) rfl (fun ls hl => ?_)
      refine lv_iinc (v := nI 3) (lv' := [(8, .int (nI 3)), (7, .int (nI 1)), (5, .long (allI c (c 20 1))), (4, .int tt), (3, .int nn), (2, .int (nI 1)), (0, .ref (G 0)), (1, .int (nI x))]) hx hb dL_isRefused_347 hl (k := 1) rfl (nI_add 2 1) (by decide) rfl (fun ls hl => ?_)
      refine lv_goto (tgt := 316) hx hb dL_isRefused_350 (by decide) ?_
      refine lv_iload hx hb dL_isRefused_316 (lv_at hl 0 rfl) ?_
      refine lv_iconst (v := nI 4) hx hb dL_isRefused_318 (by decide) ?_
      refine n_icmp_ge (tgt := 353) hx hb dL_isRefused_319 (by decide) (by decide) (by decide) (fun c_319 => absurd c_319 (by decide)) (fun c_319 => ?_)
      refine lv_iload hx hb dL_isRefused_322 (lv_at hl 1 rfl) ?_
      refine n_if_eq (tgt := 353) hx hb dL_isRefused_324 (by decide) (by decide) (fun c_324 => absurd c_324 (by decide)) (fun c_324 => ?_)
      refine lv_aload_n hx hb dL_isRefused_327 rfl (lv_at hl 6 rfl) ?_
      refine lv_iload hx hb dL_isRefused_328 (lv_at hl 0 rfl) ?_
      refine lv_iload_n hx hb dL_isRefused_330 rfl (lv_at hl 4 rfl) ?_
      refine y_calli (va_SW (As := [.ref (G 0), .int (nI 3), .int nn]) (rest := []) hx hb hml hown hts (k_L_of_waitsFor l hlt D G h0 c r o nn hI hno) (vx_cwSW 3 hts gL_isRefused_L_of rfl rfl rfl (by decide +kernel) ⟨(Nat.le_of_ble_eq_true rfl), (Nat.le_of_ble_eq_true rfl)⟩) (fun a U g mk q => ⟨q.1, Pr_cg q.2⟩) (fun U hU hW => ⟨rfl, Pr_mk hE hRc hRr hRo hP hD hS hU hW⟩) rfl hl.1 rfl (lv_room (Nat.le_of_ble_eq_true rfl)) dL_isRefused_331 (Nat.le_of_ble_eq_true rfl) (Nat.le_of_ble_eq_true rfl)) hS (fun v9 u9 H locs wl hv9 hRc hRr hRo hP hD hS => ?_)
      obtain ⟨hv9, hce⟩ := hv9
      have hce := hce.symm
      subst hce
      refine n_top (y := .int (-1031)) (congrArg Value.int hv9) ?_
      clear hv9
      refine lv_sipush (v := (-1031)) hx hb dL_isRefused_334 (by decide) ?_
      refine lv_icmp_ne (tgt := 344) hx hb dL_isRefused_337 (by decide) (fun c_337 => absurd c_337 (by decide)) (fun c_337 => ?_)
      refine lv_iconst (v := nI 1) hx hb dL_isRefused_340 (by decide) ?_
      refine lv_goto (tgt := 345) hx hb dL_isRefused_341 (by decide) ?_
      refine lv_istore (lv' := [(7, .int (nI 1)), (8, .int (nI 3)), (5, .long (allI c (c 20 1))), (4, .int tt), (3, .int nn), (2, .int (nI 1)), (0, .ref (G 0)), (1, .int (nI x))]) hx hb dL_isRefused_345 hl (by decide) rfl (fun ls hl => ?_)
      refine lv_iinc (v := nI 4) (lv' := [(8, .int (nI 4)), (7, .int (nI 1)), (5, .long (allI c (c 20 1))), (4, .int tt), (3, .int nn), (2, .int (nI 1)), (0, .ref (G 0)), (1, .int (nI x))]) hx hb dL_isRefused_347 hl (k := 1) rfl (nI_add 3 1) (by decide) rfl (fun ls hl => ?_)
      refine lv_goto (tgt := 316) hx hb dL_isRefused_350 (by decide) ?_
      refine lv_iload hx hb dL_isRefused_316 (lv_at hl 0 rfl) ?_
      refine lv_iconst (v := nI 4) hx hb dL_isRefused_318 (by decide) ?_
      refine n_icmp_ge (tgt := 353) hx hb dL_isRefused_319 (by decide) (by decide) (by decide) (fun c_319 => ?_) (fun c_319 => absurd c_319 (by decide))
      refine lv_iconst (v := nI 0) hx hb dL_isRefused_353 (by decide) ?_
      refine lv_istore (lv' := [(8, .int (nI 0)), (7, .int (nI 1)), (5, .long (allI c (c 20 1))), (4, .int tt), (3, .int nn), (2, .int (nI 1)), (0, .ref (G 0)), (1, .int (nI x))]) hx hb dL_isRefused_354 hl (by decide) rfl (fun ls hl => ?_)
      have L356 : ∀ (d i : Nat), c 20 1 - i < d → i ≤ c 20 1 → ∀ (H : Heap) (locs : List Loc) (wl : va_W) (ls : Array Slot), Rc G c wl → Rr G r wl → Ro G o wl → va_P D vwCl wl H → va_D (fun q => h0 ≤ q) wl → va_S (fun q => h0 ≤ q) s.heap H locs → lv_has ls 10 [(8, .int (nI i)), (7, .int (nI 1)), (0, .ref (G 0)), (1, .int (nI x)), (2, .int (nI 1)), (3, .int nn), (4, .int tt), (5, .long (allI c (c 20 1)))] → W p l e (headSpec wsL_isRefused ({ frames := 9, cells := 508, slots := 69800, locals := 243 } : Room)).room s m ([.ref (G 0), .int (nI x)] : List Value).toArray below meth cd H locs (60 + 56 * i) (2600 + 8400 * i) Q (F0 m 356 ls []) := by
        intro d356
        induction d356 with
        | zero => intro i hd; exact absurd hd (Nat.not_lt_zero _)
        | succ d356 ih356 =>
          intro i hd hi  H locs wl ls hRc hRr hRo hP hD hS hl
          refine lv_iload hx hb dL_isRefused_356 (lv_at hl 0 rfl) ?_
          refine lv_aload_n hx hb dL_isRefused_358 rfl (lv_at hl 2 rfl) ?_
          refine y_calli (va_runV (As := []) (rest := [.int (nI i)]) ⟨hx, hb, hml, hown, hts⟩ (k_X2_units l D G h0 c r o ) (cwV 0 hts gL_isRefused_X2_units rfl rfl rfl (by decide +kernel) ⟨Nat.le_of_ble_eq_true rfl, Nat.le_of_ble_eq_true rfl⟩) ⟨fun a U g mk q => ⟨q.1, Pr_cg q.2⟩, va_recv (ci := 3) (q0 := 0) hK hP rfl (Q_o hRc), fun U hU hW => ⟨rfl, Pr_mk hE hRc hRr hRo hP hD hS hU hW⟩⟩ rfl rfl hl.1 rfl (lv_room (Nat.le_of_ble_eq_true rfl)) dL_isRefused_359 ⟨(show _ ≤ 508 from by omega), (show _ ≤ 69800 from by omega)⟩) hS (fun v9 _ H locs wl hv9 hRc hRr hRo hP hD hS => ?_)
          refine n_top (y := .int (nI (c 20 1))) (congrArg Value.int hv9) ?_
          clear hv9 v9
          refine n_icmp_ge (tgt := 639) hx hb dL_isRefused_362 (by decide) (by omega) (hB _ _ (by decide)) (fun c_362 => ?_) (fun c_362 => ?_)
          · refine lv_iload hx hb dL_isRefused_639 (lv_at hl 1 rfl) ?_
            refine n_if_eq (tgt := 658) hx hb dL_isRefused_641 (by decide) (by decide) (fun c_641 => absurd c_641 (by decide)) (fun c_641 => ?_)
            refine lv_aload_n hx hb dL_isRefused_644 rfl (lv_at hl 2 rfl) ?_
            refine y_calll (va_runS (As := [.ref (G 0)]) (rest := []) ⟨hx, hb, hml, hown, hts⟩ (k_L_all l D G h0 c r o hI) (va_cwS 1 hts gL_isRefused_L_all rfl rfl rfl (by decide +kernel) ⟨Nat.le_of_ble_eq_true rfl, Nat.le_of_ble_eq_true rfl⟩) ⟨fun a U g mk q => ⟨q.1, Pr_cg q.2⟩, fun U hU hW => ⟨rfl, Pr_mk hE hRc hRr hRo hP hD hS hU hW⟩⟩ rfl rfl hl.1 rfl (lv_room (Nat.le_of_ble_eq_true rfl)) dL_isRefused_645 ⟨(show _ ≤ 508 from by omega), (show _ ≤ 69800 from by omega)⟩) hS (fun v9 _ H locs wl hv9 hRc hRr hRo hP hD hS => ?_)
            refine n_top (y := .long (allI c (c 20 1))) (congrArg Value.long hv9) ?_
            clear hv9 v9
            refine lv_lload hx hb dL_isRefused_648 (lv_at hl 7 rfl) ?_
            refine x_lcmp hx hb rfl dL_isRefused_650 ?_
            refine n_top (y := .int (nI 0)) (congrArg Value.int nI_0.symm) ?_
            refine n_if_ne (tgt := 658) hx hb dL_isRefused_651 (by decide) (by decide) (fun c_651 => absurd c_651 (by decide)) (fun c_651 => ?_)
            refine lv_iconst (v := nI 1) hx hb dL_isRefused_654 (by decide) ?_
            refine lv_goto (tgt := 659) hx hb dL_isRefused_655 (by decide) ?_
            rw [hQ]
            refine W.widen (k := 508) (n := 69800) (by omega) (by omega) ?_
            exact W.zret (v := nI 1) (ty := .boolean) hx hb hr (nb_le (by first | exact bN_le _ | decide | omega | assumption)) (fun t ht hW => ⟨⟨_, (), rfl, (show nI 1 = nI 1 from by first | rfl | (apply congrArg nI; omega) | exact congrArg nI (bN_t (by omega)).symm | exact congrArg nI (bN_f (by omega)).symm), Wr_mk hRc hRr hRo hP hD ht⟩, hS.F ht⟩) hS.2.2 dL_isRefused_659
          · have hk : i < c 20 1 := by omega
            refine lv_iload hx hb dL_isRefused_365 (lv_at hl 1 rfl) ?_
            refine n_if_eq (tgt := 639) hx hb dL_isRefused_367 (by decide) (by decide) (fun c_367 => absurd c_367 (by decide)) (fun c_367 => ?_)
            refine lv_iload hx hb dL_isRefused_370 (lv_at hl 0 rfl) ?_
            refine lv_iconst (v := nI 1) hx hb dL_isRefused_372 (by decide) ?_
            refine n_iadd hx hb dL_isRefused_373 ?_
            refine lv_aload_n hx hb dL_isRefused_374 rfl (lv_at hl 2 rfl) ?_
            refine y_calli (va_runV (As := []) (rest := [.int (nI (i + 1))]) ⟨hx, hb, hml, hown, hts⟩ (k_X2_units l D G h0 c r o ) (cwV 0 hts gL_isRefused_X2_units rfl rfl rfl (by decide +kernel) ⟨Nat.le_of_ble_eq_true rfl, Nat.le_of_ble_eq_true rfl⟩) ⟨fun a U g mk q => ⟨q.1, Pr_cg q.2⟩, va_recv (ci := 3) (q0 := 0) hK hP rfl (Q_o hRc), fun U hU hW => ⟨rfl, Pr_mk hE hRc hRr hRo hP hD hS hU hW⟩⟩ rfl rfl hl.1 rfl (lv_room (Nat.le_of_ble_eq_true rfl)) dL_isRefused_375 ⟨(show _ ≤ 508 from by omega), (show _ ≤ 69800 from by omega)⟩) hS (fun v9 _ H locs wl hv9 hRc hRr hRo hP hD hS => ?_)
            refine n_top (y := .int (nI (c 20 1))) (congrArg Value.int hv9) ?_
            clear hv9 v9
            refine n_irem hx hb dL_isRefused_378 (by omega) (by first | omega | decide | assumption) (hB _ _ (by decide)) ?_
            obtain ⟨oo, h_oo⟩ : ∃ z : Nat, z = (i + 1) % (c 20 1) := ⟨_, rfl⟩
            rw [← h_oo]
            have hoo : oo < c 20 1 := by rw [h_oo]; exact Nat.mod_lt _ (by omega)
            refine lv_istore (lv' := [(9, .int (nI oo)), (8, .int (nI i)), (7, .int (nI 1)), (0, .ref (G 0)), (1, .int (nI x)), (2, .int (nI 1)), (3, .int nn), (4, .int tt), (5, .long (allI c (c 20 1)))]) hx hb dL_isRefused_379 hl (by decide) rfl (fun ls hl => ?_)
            refine lv_aload_n hx hb dL_isRefused_381 rfl (lv_at hl 3 rfl) ?_
            refine lv_iconst (v := nI 1) hx hb dL_isRefused_382 (by decide) ?_
            refine lv_iload hx hb dL_isRefused_383 (lv_at hl 1 rfl) ?_
            refine lv_iload_n hx hb dL_isRefused_385 rfl (lv_at hl 6 rfl) ?_
            refine lv_iconst (v := nI 0) hx hb dL_isRefused_386 (by decide) ?_
            refine y_calli (va_SW (As := [.ref (G 0), .int (nI 1), .int (nI i), .int nn, .int (nI 0)]) (rest := []) hx hb hml hown hts (k_L_act_need l hlt D G h0 c r o (nI i) nn (nI 0) hI) (vx_cwSW 5 hts gL_isRefused_L_act rfl rfl rfl (by decide +kernel) ⟨(Nat.le_of_ble_eq_true rfl), (Nat.le_of_ble_eq_true rfl)⟩) (fun a U g mk q => ⟨q.1, Pr_cg q.2⟩) (fun U hU hW => ⟨rfl, Pr_mk hE hRc hRr hRo hP hD hS hU hW⟩) rfl hl.1 rfl (lv_room (Nat.le_of_ble_eq_true rfl)) dL_isRefused_387 (show _ ≤ 508 from by omega) (show _ ≤ 69800 from by omega)) hS (fun v9 u9 H locs wl hv9 hRc hRr hRo hP hD hS => ?_)
            have hw9 := R_needO hv9 (fun z => hno z.2)
            clear hv9
            obtain ⟨hv9, hce⟩ := hw9
            have hce := hce.symm
            subst hce
            refine n_top (y := .int (-1031)) (congrArg Value.int hv9) ?_
            clear hv9
            refine lv_sipush (v := (-1031)) hx hb dL_isRefused_390 (by decide) ?_
            refine lv_icmp_ne (tgt := 630) hx hb dL_isRefused_393 (by decide) (fun c_393 => absurd c_393 (by decide)) (fun c_393 => ?_)
            refine lv_aload_n hx hb dL_isRefused_396 rfl (lv_at hl 3 rfl) ?_
            refine lv_iconst (v := nI 1) hx hb dL_isRefused_397 (by decide) ?_
            refine lv_iload hx hb dL_isRefused_398 (lv_at hl 1 rfl) ?_
            refine lv_iload hx hb dL_isRefused_400 (lv_at hl 1 rfl) ?_
            refine lv_iconst (v := nI 0) hx hb dL_isRefused_402 (by decide) ?_
            refine y_calli (va_SW (As := [.ref (G 0), .int (nI 1), .int (nI i), .int (nI i), .int (nI 0)]) (rest := []) hx hb hml hown hts (k_L_act_need l hlt D G h0 c r o (nI i) (nI i) (nI 0) hI) (vx_cwSW 5 hts gL_isRefused_L_act rfl rfl rfl (by decide +kernel) ⟨(Nat.le_of_ble_eq_true rfl), (Nat.le_of_ble_eq_true rfl)⟩) (fun a U g mk q => ⟨q.1, Pr_cg q.2⟩) (fun U hU hW => ⟨rfl, Pr_mk hE hRc hRr hRo hP hD hS hU hW⟩) rfl hl.1 rfl (lv_room (Nat.le_of_ble_eq_true rfl)) dL_isRefused_403 (show _ ≤ 508 from by omega) (show _ ≤ 69800 from by omega)) hS (fun v9 u9 H locs wl hv9 hRc hRr hRo hP hD hS => ?_)
            have hw9 := R_needS hv9 hk hk hn (Or.inl rfl)
            clear hv9
            obtain ⟨hv9, hce⟩ := hw9
            have hce := hce.symm
            subst hce
            refine n_top (y := .int (-1033)) (congrArg Value.int hv9) ?_
            clear hv9
            refine lv_sipush (v := (-1033)) hx hb dL_isRefused_406 (by decide) ?_
            refine lv_icmp_ne (tgt := 630) hx hb dL_isRefused_409 (by decide) (fun c_409 => absurd c_409 (by decide)) (fun c_409 => ?_)
            refine lv_aload_n hx hb dL_isRefused_412 rfl (lv_at hl 3 rfl) ?_
            refine lv_iconst (v := nI 2) hx hb dL_isRefused_413 (by decide) ?_
            refine lv_iload hx hb dL_isRefused_414 (lv_at hl 1 rfl) ?_
            refine lv_iload_n hx hb dL_isRefused_416 rfl (lv_at hl 6 rfl) ?_
            refine lv_iconst (v := nI 0) hx hb dL_isRefused_417 (by decide) ?_
            refine y_calli (va_SW (As := [.ref (G 0), .int (nI 2), .int (nI i), .int nn, .int (nI 0)]) (rest := []) hx hb hml hown hts (k_L_act_wish l hlt D G h0 c r o (nI i) nn (nI 0) hI hW5) (vx_cwSW 5 hts gL_isRefused_L_act rfl rfl rfl (by decide +kernel) ⟨(Nat.le_of_ble_eq_true rfl), (Nat.le_of_ble_eq_true rfl)⟩) (fun a U g mk q => ⟨q.1, Pr_cg q.2⟩) (fun U hU hW => ⟨rfl, Pr_mk hE hRc hRr hRo hP hD hS hU hW⟩) rfl hl.1 rfl (lv_room (Nat.le_of_ble_eq_true rfl)) dL_isRefused_418 (show _ ≤ 508 from by omega) (show _ ≤ 69800 from by omega)) hS (fun v9 u9 H locs wl hv9 hRc hRr hRo hP hD hS => ?_)
            have hw9 := R_wishO hv9 (fun z => hno z.2)
            clear hv9
            obtain ⟨hv9, hce⟩ := hw9
            have hce := hce.symm
            subst hce
            refine n_top (y := .int (-1031)) (congrArg Value.int hv9) ?_
            clear hv9
            refine lv_sipush (v := (-1031)) hx hb dL_isRefused_421 (by decide) ?_
            refine lv_icmp_ne (tgt := 630) hx hb dL_isRefused_424 (by decide) (fun c_424 => absurd c_424 (by decide)) (fun c_424 => ?_)
            refine lv_aload_n hx hb dL_isRefused_427 rfl (lv_at hl 3 rfl) ?_
            refine lv_iconst (v := nI 2) hx hb dL_isRefused_428 (by decide) ?_
            refine lv_iload hx hb dL_isRefused_429 (lv_at hl 1 rfl) ?_
            refine lv_iload hx hb dL_isRefused_431 (lv_at hl 0 rfl) ?_
            refine lv_iload_n hx hb dL_isRefused_433 rfl (lv_at hl 5 rfl) ?_
            refine n_if_eq (tgt := 441) hx hb dL_isRefused_434 (by decide) (by decide) (fun c_434 => absurd c_434 (by decide)) (fun c_434 => ?_)
            refine lv_iconst (v := nI 0) hx hb dL_isRefused_437 (by decide) ?_
            refine lv_goto (tgt := 443) hx hb dL_isRefused_438 (by decide) ?_
            refine y_calli (va_SW (As := [.ref (G 0), .int (nI 2), .int (nI i), .int (nI oo), .int (nI 0)]) (rest := []) hx hb hml hown hts (k_L_act_wish l hlt D G h0 c r o (nI i) (nI oo) (nI 0) hI hW5) (vx_cwSW 5 hts gL_isRefused_L_act rfl rfl rfl (by decide +kernel) ⟨(Nat.le_of_ble_eq_true rfl), (Nat.le_of_ble_eq_true rfl)⟩) (fun a U g mk q => ⟨q.1, Pr_cg q.2⟩) (fun U hU hW => ⟨rfl, Pr_mk hE hRc hRr hRo hP hD hS hU hW⟩) rfl hl.1 rfl (lv_room (Nat.le_of_ble_eq_true rfl)) dL_isRefused_443 (show _ ≤ 508 from by omega) (show _ ≤ 69800 from by omega)) hS (fun v9 u9 H locs wl hv9 hRc hRr hRo hP hD hS => ?_)
            have hw9 := R_wishA hv9 (oku hk) (oku hoo) (fun z => (fun y : inR (nI 0) 1 100 => absurd y.1 (by decide)) z.1) hn
            clear hv9
            obtain ⟨hv9, hce⟩ := hw9
            have hce := hce.symm
            subst hce
            refine n_top (y := .int (-1032)) (congrArg Value.int hv9) ?_
            clear hv9
            refine lv_sipush (v := (-1032)) hx hb dL_isRefused_446 (by decide) ?_
            refine lv_icmp_ne (tgt := 630) hx hb dL_isRefused_449 (by decide) (fun c_449 => absurd c_449 (by decide)) (fun c_449 => ?_)
            refine lv_aload_n hx hb dL_isRefused_452 rfl (lv_at hl 3 rfl) ?_
            refine lv_iconst (v := nI 2) hx hb dL_isRefused_453 (by decide) ?_
            refine lv_iload hx hb dL_isRefused_454 (lv_at hl 1 rfl) ?_
            refine lv_iload hx hb dL_isRefused_456 (lv_at hl 1 rfl) ?_
            refine lv_iconst (v := nI 5) hx hb dL_isRefused_458 (by decide) ?_
            refine y_calli (va_SW (As := [.ref (G 0), .int (nI 2), .int (nI i), .int (nI i), .int (nI 5)]) (rest := []) hx hb hml hown hts (k_L_act_wish l hlt D G h0 c r o (nI i) (nI i) (nI 5) hI hW5) (vx_cwSW 5 hts gL_isRefused_L_act rfl rfl rfl (by decide +kernel) ⟨(Nat.le_of_ble_eq_true rfl), (Nat.le_of_ble_eq_true rfl)⟩) (fun a U g mk q => ⟨q.1, Pr_cg q.2⟩) (fun U hU hW => ⟨rfl, Pr_mk hE hRc hRr hRo hP hD hS hU hW⟩) rfl hl.1 rfl (lv_room (Nat.le_of_ble_eq_true rfl)) dL_isRefused_459 (show _ ≤ 508 from by omega) (show _ ≤ 69800 from by omega)) hS (fun v9 u9 H locs wl hv9 hRc hRr hRo hP hD hS => ?_)
            have hw9 := R_wishA hv9 (oku hk) (oku hk) (fun z => z.2 rfl) hn
            clear hv9
            obtain ⟨hv9, hce⟩ := hw9
            have hce := hce.symm
            subst hce
            refine n_top (y := .int (-1032)) (congrArg Value.int hv9) ?_
            clear hv9
            refine lv_sipush (v := (-1032)) hx hb dL_isRefused_462 (by decide) ?_
            refine lv_icmp_ne (tgt := 630) hx hb dL_isRefused_465 (by decide) (fun c_465 => absurd c_465 (by decide)) (fun c_465 => ?_)
            refine lv_aload_n hx hb dL_isRefused_468 rfl (lv_at hl 3 rfl) ?_
            refine lv_iconst (v := nI 3) hx hb dL_isRefused_469 (by decide) ?_
            refine lv_iload hx hb dL_isRefused_470 (lv_at hl 1 rfl) ?_
            refine lv_iload hx hb dL_isRefused_472 (lv_at hl 7 rfl) ?_
            refine lv_iconst (v := nI 0) hx hb dL_isRefused_474 (by decide) ?_
            refine y_calli (va_SW (As := [.ref (G 0), .int (nI 3), .int (nI i), .int tt, .int (nI 0)]) (rest := []) hx hb hml hown hts (k_L_act_standIn l hlt D G h0 c r o (nI i) tt (nI 0) hI) (vx_cwSW 5 hts gL_isRefused_L_act rfl rfl rfl (by decide +kernel) ⟨(Nat.le_of_ble_eq_true rfl), (Nat.le_of_ble_eq_true rfl)⟩) (fun a U g mk q => ⟨q.1, Pr_cg q.2⟩) (fun U hU hW => ⟨rfl, Pr_mk hE hRc hRr hRo hP hD hS hU hW⟩) rfl hl.1 rfl (lv_room (Nat.le_of_ble_eq_true rfl)) dL_isRefused_475 (show _ ≤ 508 from by omega) (show _ ≤ 69800 from by omega)) hS (fun v9 u9 H locs wl hv9 hRc hRr hRo hP hD hS => ?_)
            have hw9 := R_siO hv9 (fun z => hno2 z.2)
            clear hv9
            obtain ⟨hv9, hce⟩ := hw9
            have hce := hce.symm
            subst hce
            refine n_top (y := .int (-1031)) (congrArg Value.int hv9) ?_
            clear hv9
            refine lv_sipush (v := (-1031)) hx hb dL_isRefused_478 (by decide) ?_
            refine lv_icmp_ne (tgt := 630) hx hb dL_isRefused_481 (by decide) (fun c_481 => absurd c_481 (by decide)) (fun c_481 => ?_)
            refine lv_aload_n hx hb dL_isRefused_484 rfl (lv_at hl 3 rfl) ?_
            refine lv_iconst (v := nI 3) hx hb dL_isRefused_485 (by decide) ?_
            refine lv_iload hx hb dL_isRefused_486 (lv_at hl 1 rfl) ?_
            refine lv_iload hx hb dL_isRefused_488 (lv_at hl 1 rfl) ?_
            refine lv_iconst (v := nI 0) hx hb dL_isRefused_490 (by decide) ?_
            refine y_calli (va_SW (As := [.ref (G 0), .int (nI 3), .int (nI i), .int (nI i), .int (nI 0)]) (rest := []) hx hb hml hown hts (k_L_act_standIn l hlt D G h0 c r o (nI i) (nI i) (nI 0) hI) (vx_cwSW 5 hts gL_isRefused_L_act rfl rfl rfl (by decide +kernel) ⟨(Nat.le_of_ble_eq_true rfl), (Nat.le_of_ble_eq_true rfl)⟩) (fun a U g mk q => ⟨q.1, Pr_cg q.2⟩) (fun U hU hW => ⟨rfl, Pr_mk hE hRc hRr hRo hP hD hS hU hW⟩) rfl hl.1 rfl (lv_room (Nat.le_of_ble_eq_true rfl)) dL_isRefused_491 (show _ ≤ 508 from by omega) (show _ ≤ 69800 from by omega)) hS (fun v9 u9 H locs wl hv9 hRc hRr hRo hP hD hS => ?_)
            have hw9 := R_siA hv9 hk hn
            clear hv9
            obtain ⟨hv9, hce⟩ := hw9
            have hce := hce.symm
            subst hce
            refine n_top (y := .int (-1032)) (congrArg Value.int hv9) ?_
            clear hv9
            refine lv_sipush (v := (-1032)) hx hb dL_isRefused_494 (by decide) ?_
            refine lv_icmp_ne (tgt := 630) hx hb dL_isRefused_497 (by decide) (fun c_497 => absurd c_497 (by decide)) (fun c_497 => ?_)
            refine lv_aload_n hx hb dL_isRefused_500 rfl (lv_at hl 3 rfl) ?_
            refine lv_iconst (v := nI 5) hx hb dL_isRefused_501 (by decide) ?_
            refine lv_iload hx hb dL_isRefused_502 (lv_at hl 1 rfl) ?_
            refine lv_iload_n hx hb dL_isRefused_504 rfl (lv_at hl 5 rfl) ?_
            refine n_if_eq (tgt := 512) hx hb dL_isRefused_505 (by decide) (by decide) (fun c_505 => absurd c_505 (by decide)) (fun c_505 => ?_)
            refine lv_iconst (v := (-1)) hx hb dL_isRefused_508 (by decide) ?_
            refine lv_goto (tgt := 514) hx hb dL_isRefused_509 (by decide) ?_
            refine lv_iconst (v := nI 0) hx hb dL_isRefused_514 (by decide) ?_
            refine y_calli (va_SW (As := [.ref (G 0), .int (nI 5), .int (nI i), .int (-1), .int (nI 0)]) (rest := []) hx hb hml hown hts (k_L_act_setFaults l hlt D G h0 c r o (nI i) (-1) (nI 0) hI) (vx_cwSW 5 hts gL_isRefused_L_act rfl rfl rfl (by decide +kernel) ⟨(Nat.le_of_ble_eq_true rfl), (Nat.le_of_ble_eq_true rfl)⟩) (fun a U g mk q => ⟨q.1, Pr_cg q.2⟩) (fun U hU hW => ⟨rfl, Pr_mk hE hRc hRr hRo hP hD hS hU hW⟩) rfl hl.1 rfl (lv_room (Nat.le_of_ble_eq_true rfl)) dL_isRefused_515 (show _ ≤ 508 from by omega) (show _ ≤ 69800 from by omega)) hS (fun v9 u9 H locs wl hv9 hRc hRr hRo hP hD hS => ?_)
            have hw9 := R_sfA hv9 (oku hk) (fun y : inR (-1) 0 10 => absurd y.1 (by decide))
            clear hv9
            obtain ⟨hv9, hce⟩ := hw9
            have hce := hce.symm
            subst hce
            refine n_top (y := .int (-1032)) (congrArg Value.int hv9) ?_
            clear hv9
            refine lv_sipush (v := (-1032)) hx hb dL_isRefused_518 (by decide) ?_
            refine lv_icmp_ne (tgt := 630) hx hb dL_isRefused_521 (by decide) (fun c_521 => absurd c_521 (by decide)) (fun c_521 => ?_)
            refine lv_aload_n hx hb dL_isRefused_524 rfl (lv_at hl 3 rfl) ?_
            refine lv_bipush (v := nI 6) hx hb dL_isRefused_525 (by decide) ?_
            refine lv_iload hx hb dL_isRefused_527 (lv_at hl 1 rfl) ?_
            refine lv_iload_n hx hb dL_isRefused_529 rfl (lv_at hl 5 rfl) ?_
            refine n_if_eq (tgt := 537) hx hb dL_isRefused_530 (by decide) (by decide) (fun c_530 => absurd c_530 (by decide)) (fun c_530 => ?_)
            refine lv_iconst (v := nI 0) hx hb dL_isRefused_533 (by decide) ?_
            refine lv_goto (tgt := 539) hx hb dL_isRefused_534 (by decide) ?_
            refine lv_iconst (v := nI 0) hx hb dL_isRefused_539 (by decide) ?_
            refine y_calli (va_SW (As := [.ref (G 0), .int (nI 6), .int (nI i), .int (nI 0), .int (nI 0)]) (rest := []) hx hb hml hown hts (k_L_act_setTime l hlt D G h0 c r o (nI i) (nI 0) (nI 0) hI) (vx_cwSW 5 hts gL_isRefused_L_act rfl rfl rfl (by decide +kernel) ⟨(Nat.le_of_ble_eq_true rfl), (Nat.le_of_ble_eq_true rfl)⟩) (fun a U g mk q => ⟨q.1, Pr_cg q.2⟩) (fun U hU hW => ⟨rfl, Pr_mk hE hRc hRr hRo hP hD hS hU hW⟩) rfl hl.1 rfl (lv_room (Nat.le_of_ble_eq_true rfl)) dL_isRefused_540 (show _ ≤ 508 from by omega) (show _ ≤ 69800 from by omega)) hS (fun v9 u9 H locs wl hv9 hRc hRr hRo hP hD hS => ?_)
            have hw9 := R_stA hv9 (oku hk) (fun y : inR (nI 0) 1 100 => absurd y.1 (by decide))
            clear hv9
            obtain ⟨hv9, hce⟩ := hw9
            have hce := hce.symm
            subst hce
            refine n_top (y := .int (-1032)) (congrArg Value.int hv9) ?_
            clear hv9
            refine lv_sipush (v := (-1032)) hx hb dL_isRefused_543 (by decide) ?_
            refine lv_icmp_ne (tgt := 630) hx hb dL_isRefused_546 (by decide) (fun c_546 => absurd c_546 (by decide)) (fun c_546 => ?_)
            refine lv_aload_n hx hb dL_isRefused_549 rfl (lv_at hl 3 rfl) ?_
            refine y_calli (va_runV (As := []) (rest := []) ⟨hx, hb, hml, hown, hts⟩ (k_X2_goesOn l D G h0 c r o ho.1) (cwV 0 hts gL_isRefused_X2_goesOn rfl rfl rfl (by decide +kernel) ⟨Nat.le_of_ble_eq_true rfl, Nat.le_of_ble_eq_true rfl⟩) ⟨fun a U g mk q => ⟨q.1, Pr_cg q.2⟩, va_recv (ci := 3) (q0 := 0) hK hP rfl (Q_o hRc), fun U hU hW => ⟨rfl, Pr_mk hE hRc hRr hRo hP hD hS hU hW⟩⟩ rfl rfl hl.1 rfl (lv_room (Nat.le_of_ble_eq_true rfl)) dL_isRefused_550 ⟨(show _ ≤ 508 from by omega), (show _ ≤ 69800 from by omega)⟩) hS (fun v9 _ H locs wl hv9 hRc hRr hRo hP hD hS => ?_)
            refine n_top (y := .int (nI (c 20 3))) (congrArg Value.int hv9) ?_
            clear hv9 v9
            refine n_if_eq (tgt := 626) hx hb dL_isRefused_553 (by decide) (ho3 ho.1) (fun c_553 => ?_) (fun c_553 => ?_)
            · exfalso; omega
            · refine lv_aload_n hx hb dL_isRefused_556 rfl (lv_at hl 3 rfl) ?_
              refine lv_iconst (v := nI 4) hx hb dL_isRefused_557 (by decide) ?_
              refine lv_iload hx hb dL_isRefused_558 (lv_at hl 1 rfl) ?_
              refine lv_iconst (v := nI 0) hx hb dL_isRefused_560 (by decide) ?_
              refine lv_iconst (v := nI 0) hx hb dL_isRefused_561 (by decide) ?_
              refine y_calli (va_SW (As := [.ref (G 0), .int (nI 4), .int (nI i), .int (nI 0), .int (nI 0)]) (rest := []) hx hb hml hown hts (k_L_act_hold l hlt D G h0 c r o (nI i) (nI 0) 0 (by decide) hI) (vx_cwSW 5 hts gL_isRefused_L_act rfl rfl rfl (by decide +kernel) ⟨(Nat.le_of_ble_eq_true rfl), (Nat.le_of_ble_eq_true rfl)⟩) (fun a U g mk q => ⟨q.1, Pr_cg q.2⟩) (fun U hU hW => ⟨rfl, Pr_mk hE hRc hRr hRo hP hD hS hU hW⟩) rfl hl.1 rfl (lv_room (Nat.le_of_ble_eq_true rfl)) dL_isRefused_562 (show _ ≤ 508 from by omega) (show _ ≤ 69800 from by omega)) hS (fun v9 u9 H locs wl hv9 hRc hRr hRo hP hD hS => ?_)
              have hw9 := R_holdS hv9 (oku hk) (Nat.ne_of_gt c_256)
              clear hv9
              obtain ⟨hv9, hce⟩ := hw9
              have hce := hce.symm
              subst hce
              refine n_top (y := .int (-1033)) (congrArg Value.int hv9) ?_
              clear hv9
              refine lv_sipush (v := (-1033)) hx hb dL_isRefused_565 (by decide) ?_
              refine lv_icmp_ne (tgt := 630) hx hb dL_isRefused_568 (by decide) (fun c_568 => absurd c_568 (by decide)) (fun c_568 => ?_)
              refine lv_aload_n hx hb dL_isRefused_571 rfl (lv_at hl 3 rfl) ?_
              refine lv_iconst (v := nI 3) hx hb dL_isRefused_572 (by decide) ?_
              refine lv_iload hx hb dL_isRefused_573 (lv_at hl 1 rfl) ?_
              refine lv_iconst (v := (-1)) hx hb dL_isRefused_575 (by decide) ?_
              refine lv_iconst (v := nI 0) hx hb dL_isRefused_576 (by decide) ?_
              refine y_calli (va_SW (As := [.ref (G 0), .int (nI 3), .int (nI i), .int (-1), .int (nI 0)]) (rest := []) hx hb hml hown hts (k_L_act_standIn l hlt D G h0 c r o (nI i) (-1) (nI 0) hI) (vx_cwSW 5 hts gL_isRefused_L_act rfl rfl rfl (by decide +kernel) ⟨(Nat.le_of_ble_eq_true rfl), (Nat.le_of_ble_eq_true rfl)⟩) (fun a U g mk q => ⟨q.1, Pr_cg q.2⟩) (fun U hU hW => ⟨rfl, Pr_mk hE hRc hRr hRo hP hD hS hU hW⟩) rfl hl.1 rfl (lv_room (Nat.le_of_ble_eq_true rfl)) dL_isRefused_577 (show _ ≤ 508 from by omega) (show _ ≤ 69800 from by omega)) hS (fun v9 u9 H locs wl hv9 hRc hRr hRo hP hD hS => ?_)
              have hw9 := R_siS hv9 hk hn (Nat.ne_of_gt c_256)
              clear hv9
              obtain ⟨hv9, hce⟩ := hw9
              have hce := hce.symm
              subst hce
              refine n_top (y := .int (-1033)) (congrArg Value.int hv9) ?_
              clear hv9
              refine lv_sipush (v := (-1033)) hx hb dL_isRefused_580 (by decide) ?_
              refine lv_icmp_ne (tgt := 630) hx hb dL_isRefused_583 (by decide) (fun c_583 => absurd c_583 (by decide)) (fun c_583 => ?_)
              refine lv_aload_n hx hb dL_isRefused_586 rfl (lv_at hl 3 rfl) ?_
              refine y_calli (va_runV (As := []) (rest := []) ⟨hx, hb, hml, hown, hts⟩ (k_X2_units l D G h0 c r o ) (cwV 0 hts gL_isRefused_X2_units rfl rfl rfl (by decide +kernel) ⟨Nat.le_of_ble_eq_true rfl, Nat.le_of_ble_eq_true rfl⟩) ⟨fun a U g mk q => ⟨q.1, Pr_cg q.2⟩, va_recv (ci := 3) (q0 := 0) hK hP rfl (Q_o hRc), fun U hU hW => ⟨rfl, Pr_mk hE hRc hRr hRo hP hD hS hU hW⟩⟩ rfl rfl hl.1 rfl (lv_room (Nat.le_of_ble_eq_true rfl)) dL_isRefused_587 ⟨(show _ ≤ 508 from by omega), (show _ ≤ 69800 from by omega)⟩) hS (fun v9 _ H locs wl hv9 hRc hRr hRo hP hD hS => ?_)
              refine n_top (y := .int (nI (c 20 1))) (congrArg Value.int hv9) ?_
              clear hv9 v9
              refine lv_iconst (v := nI 2) hx hb dL_isRefused_590 (by decide) ?_
              refine n_icmp_lt (tgt := 626) hx hb dL_isRefused_591 (by decide) (hB _ _ (by decide)) (by decide) (fun c_591 => ?_) (fun c_591 => ?_)
              · refine lv_iconst (v := nI 1) hx hb dL_isRefused_626 (by decide) ?_
                refine lv_goto (tgt := 631) hx hb dL_isRefused_627 (by decide) ?_
                refine lv_istore (lv' := [(7, .int (nI 1)), (9, .int (nI oo)), (8, .int (nI i)), (0, .ref (G 0)), (1, .int (nI x)), (2, .int (nI 1)), (3, .int nn), (4, .int tt), (5, .long (allI c (c 20 1)))]) hx hb dL_isRefused_631 hl (by decide) rfl (fun ls hl => ?_)
                refine lv_iinc (v := nI (i + 1)) (lv' := [(8, .int (nI (i + 1))), (7, .int (nI 1)), (9, .int (nI oo)), (0, .ref (G 0)), (1, .int (nI x)), (2, .int (nI 1)), (3, .int nn), (4, .int tt), (5, .long (allI c (c 20 1)))]) hx hb dL_isRefused_633 hl (k := 2) rfl (nI_add i 1) (by decide) rfl (fun ls hl => ?_)
                refine lv_goto (tgt := 356) hx hb dL_isRefused_636 (by decide) ?_
                refine W.widen (k := 60 + 56 * (i + 1)) (n := 2600 + 8400 * (i + 1)) (by omega) (by omega) ?_
                exact ih356 (i + 1) (by omega) (by omega)   _ _ _ _ hRc hRr hRo hP hD hS (lv_sub hl [0, 1, 3, 4, 5, 6, 7, 8] rfl)
              · refine lv_aload_n hx hb dL_isRefused_594 rfl (lv_at hl 3 rfl) ?_
                refine lv_iconst (v := nI 2) hx hb dL_isRefused_595 (by decide) ?_
                refine lv_iload hx hb dL_isRefused_596 (lv_at hl 1 rfl) ?_
                refine lv_iload hx hb dL_isRefused_598 (lv_at hl 0 rfl) ?_
                refine lv_iconst (v := nI 5) hx hb dL_isRefused_600 (by decide) ?_
                refine y_calli (va_SW (As := [.ref (G 0), .int (nI 2), .int (nI i), .int (nI oo), .int (nI 5)]) (rest := []) hx hb hml hown hts (k_L_act_wish l hlt D G h0 c r o (nI i) (nI oo) (nI 5) hI hW5) (vx_cwSW 5 hts gL_isRefused_L_act rfl rfl rfl (by decide +kernel) ⟨(Nat.le_of_ble_eq_true rfl), (Nat.le_of_ble_eq_true rfl)⟩) (fun a U g mk q => ⟨q.1, Pr_cg q.2⟩) (fun U hU hW => ⟨rfl, Pr_mk hE hRc hRr hRo hP hD hS hU hW⟩) rfl hl.1 rfl (lv_room (Nat.le_of_ble_eq_true rfl)) dL_isRefused_601 (show _ ≤ 508 from by omega) (show _ ≤ 69800 from by omega)) hS (fun v9 u9 H locs wl hv9 hRc hRr hRo hP hD hS => ?_)
                have hw9 := R_wishS hv9 (oku hk) (oku hoo) ⟨⟨by decide, by decide⟩, fun e => rf_ne (by omega) hk h_oo (nI_ij (by omega) (by omega) e)⟩ (Nat.ne_of_gt c_256)
                clear hv9
                obtain ⟨hv9, hce⟩ := hw9
                have hce := hce.symm
                subst hce
                refine n_top (y := .int (-1033)) (congrArg Value.int hv9) ?_
                clear hv9
                refine lv_sipush (v := (-1033)) hx hb dL_isRefused_604 (by decide) ?_
                refine lv_icmp_ne (tgt := 630) hx hb dL_isRefused_607 (by decide) (fun c_607 => absurd c_607 (by decide)) (fun c_607 => ?_)
                refine lv_aload_n hx hb dL_isRefused_610 rfl (lv_at hl 3 rfl) ?_
                refine lv_iconst (v := nI 1) hx hb dL_isRefused_611 (by decide) ?_
                refine lv_iload hx hb dL_isRefused_612 (lv_at hl 1 rfl) ?_
                refine lv_iload hx hb dL_isRefused_614 (lv_at hl 0 rfl) ?_
                refine lv_iconst (v := nI 0) hx hb dL_isRefused_616 (by decide) ?_
                refine y_calli (va_SW (As := [.ref (G 0), .int (nI 1), .int (nI i), .int (nI oo), .int (nI 0)]) (rest := []) hx hb hml hown hts (k_L_act_need l hlt D G h0 c r o (nI i) (nI oo) (nI 0) hI) (vx_cwSW 5 hts gL_isRefused_L_act rfl rfl rfl (by decide +kernel) ⟨(Nat.le_of_ble_eq_true rfl), (Nat.le_of_ble_eq_true rfl)⟩) (fun a U g mk q => ⟨q.1, Pr_cg q.2⟩) (fun U hU hW => ⟨rfl, Pr_mk hE hRc hRr hRo hP hD hS hU hW⟩) rfl hl.1 rfl (lv_room (Nat.le_of_ble_eq_true rfl)) dL_isRefused_617 (show _ ≤ 508 from by omega) (show _ ≤ 69800 from by omega)) hS (fun v9 u9 H locs wl hv9 hRc hRr hRo hP hD hS => ?_)
                have hw9 := R_needS hv9 hk hoo hn (Or.inr (Nat.ne_of_gt c_256))
                clear hv9
                obtain ⟨hv9, hce⟩ := hw9
                have hce := hce.symm
                subst hce
                refine n_top (y := .int (-1033)) (congrArg Value.int hv9) ?_
                clear hv9
                refine lv_sipush (v := (-1033)) hx hb dL_isRefused_620 (by decide) ?_
                refine lv_icmp_ne (tgt := 630) hx hb dL_isRefused_623 (by decide) (fun c_623 => absurd c_623 (by decide)) (fun c_623 => ?_)
                refine lv_iconst (v := nI 1) hx hb dL_isRefused_626 (by decide) ?_
                refine lv_goto (tgt := 631) hx hb dL_isRefused_627 (by decide) ?_
                refine lv_istore (lv' := [(7, .int (nI 1)), (9, .int (nI oo)), (8, .int (nI i)), (0, .ref (G 0)), (1, .int (nI x)), (2, .int (nI 1)), (3, .int nn), (4, .int tt), (5, .long (allI c (c 20 1)))]) hx hb dL_isRefused_631 hl (by decide) rfl (fun ls hl => ?_)
                refine lv_iinc (v := nI (i + 1)) (lv' := [(8, .int (nI (i + 1))), (7, .int (nI 1)), (9, .int (nI oo)), (0, .ref (G 0)), (1, .int (nI x)), (2, .int (nI 1)), (3, .int nn), (4, .int tt), (5, .long (allI c (c 20 1)))]) hx hb dL_isRefused_633 hl (k := 2) rfl (nI_add i 1) (by decide) rfl (fun ls hl => ?_)
                refine lv_goto (tgt := 356) hx hb dL_isRefused_636 (by decide) ?_
                refine W.widen (k := 60 + 56 * (i + 1)) (n := 2600 + 8400 * (i + 1)) (by omega) (by omega) ?_
                exact ih356 (i + 1) (by omega) (by omega)   _ _ _ _ hRc hRr hRo hP hD hS (lv_sub hl [0, 1, 3, 4, 5, 6, 7, 8] rfl)
      refine W.widen (k := 60 + 56 * 0) (n := 2600 + 8400 * 0) (by omega) (by omega) ?_
      exact L356 _ 0 (Nat.lt_succ_self _) (by omega)   _ _ _ _ hRc hRr hRo hP hD hS (lv_sub hl [0, 1, 6, 7, 5, 4, 3, 2] rfl)
