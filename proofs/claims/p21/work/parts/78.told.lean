theorem up2_same (x : Nat → Nat → Nat) (a i : Nat) : up2 x a i (x a i) = x := by
  funext b j
  by_cases h : b = a ∧ j = i
  · obtain ⟨rfl, rfl⟩ := h
    exact up2_s ..
  · exact up_off h
set_option maxHeartbeats 4000000 in
set_option maxRecDepth 100000 in
theorem k_L_isTold_1 (l : Launch) (D : va_G) (G : Nat → Nat) (h0 : Nat) (c r : Nat → Nat → Nat) (o : Nat) (hlt : l.stackTraces = false) (ρ : Nat → Nat → Nat) (q : Nat) (hq : q ≤ 500) (hLI : LI c r ρ q) (hg : c 20 3 = 0) (k oo v : Nat) (hk : k < c 20 1) (hoo : oo < c 20 1) (hko : k ≠ oo) (hv31 : v < 2 ^ 31) : Met l yL_isTold wsL_isTold ({ frames := 9, cells := 3, slots := 18, locals := 153 } : Room) (va_Pc [.ref (G 0), .ref (G 3), .ref (G 4), .ref (G 6), .int (nI 1), .int (nI k), .int (nI oo), .int (nI v)] (fun U => Pr D G h0 c r o U)) (va_Qi (fun (v9 : Int32) (z9 : (Nat → Nat → Nat) × (Nat → Nat → Nat)) => v9 = nI 1 ∧ (∃ ρ9, LI z9.1 z9.2 ρ9 (q + 1)) ∧ z9.1 20 1 = c 20 1 ∧ z9.1 20 3 = c 20 3) (fun (z9 : (Nat → Nat → Nat) × (Nat → Nat → Nat)) t => Wr D G h0 z9.1 z9.2 o t) (fun q => h0 ≤ q)) 3 18 (fun q => h0 ≤ q) := by
  refine Met.ofW (cc := cL_isTold) (maxL := 12) (ret := (some .boolean)) (by decide) rfl ?_
  intro p e s m args below meth cd s₁ B hml hv
  obtain ⟨rfl, hE, wl, hRc, hRr, hRo, hP, hD⟩ := hv
  have hx := B.exec
  have hb := B.bytes
  have hr := B.returns
  have hts := atoms_spec (ws := wsL_isTold) B.pre
  have hown : s.vm.findClass RL = some m.cls := findClass_of_methodNamed B.named
  have hlocks := B.notSynchronized
  have hK := hE.2.1
  have hS : va_S (fun q => h0 ≤ q) s.heap s.heap [] := va_S.rf
  have hl := lv_entry ([.ref (G 0), .ref (G 3), .ref (G 4), .ref (G 6), .int (nI 1), .int (nI k), .int (nI oo), .int (nI v)]) (n := 12) (Nat.le_of_ble_eq_true rfl)
  rw [lg_entry_eq]
  generalize (lg_sl ([.ref (G 0), .ref (G 3), .ref (G 4), .ref (G 6), .int (nI 1), .int (nI k), .int (nI oo), .int (nI v)]) ++ List.replicate (12 - (lg_sl ([.ref (G 0), .ref (G 3), .ref (G 4), .ref (G 6), .int (nI 1), .int (nI k), .int (nI oo), .int (nI v)])).length) Slot.unset).toArray = ls at hl ⊢
  have hl : lv_has ls 12 [(0, .ref (G 0)), (1, .ref (G 3)), (2, .ref (G 4)), (3, .ref (G 6)), (4, .int (nI 1)), (5, .int (nI k)), (6, .int (nI oo)), (7, .int (nI v))] := hl
  obtain ⟨Q, hQ⟩ : ∃ Q, Q = MQ below (va_Qi (fun (v9 : Int32) (z9 : (Nat → Nat → Nat) × (Nat → Nat → Nat)) => v9 = nI 1 ∧ (∃ ρ9, LI z9.1 z9.2 ρ9 (q + 1)) ∧ z9.1 20 1 = c 20 1 ∧ z9.1 20 3 = c 20 3) (fun (z9 : (Nat → Nat → Nat) × (Nat → Nat → Nat)) t => Wr D G h0 z9.1 z9.2 o t) (fun q => h0 ≤ q)) ([.ref (G 0), .ref (G 3), .ref (G 4), .ref (G 6), .int (nI 1), .int (nI k), .int (nI oo), .int (nI v)] : List Value).toArray s 3 18 (fun q => h0 ≤ q) := ⟨_, rfl⟩
  rw [← hQ]
  have hV := hLI.1
  have hI := hV.1
  have hn8 := hLI.2.1
  have hBr := hLI.2.2.1
  have hGs := hLI.2.2.2.2.1
  have hB := IC_B hI
  have hn := IC_n hI
  have hW5 : c 30 0 ≤ 512 := Nat.le_trans hV.2.2.2 (by omega)
  obtain ⟨g13, g14, g16, g17⟩ := hGs.1 k (by omega)
  obtain ⟨g10, g11, g12, g15⟩ := hGs.2 k hk
  refine lv_iload hx hb dL_isTold_0 (lv_at hl 4 rfl) ?_
  refine lv_iconst (v := nI 1) hx hb dL_isTold_2 (by decide) ?_
  refine n_icmp_ne (tgt := 169) hx hb dL_isTold_3 (by decide) (by decide) (by decide) (fun c_3 => absurd c_3 (by decide)) (fun c_3 => ?_)
  refine lv_iconst (v := nI 0) hx hb dL_isTold_6 (by decide) ?_
  refine lv_istore (lv' := [(8, .int (nI 0)), (0, .ref (G 0)), (1, .ref (G 3)), (2, .ref (G 4)), (3, .ref (G 6)), (4, .int (nI 1)), (5, .int (nI k)), (6, .int (nI oo)), (7, .int (nI v))]) hx hb dL_isTold_7 hl (by decide) rfl (fun ls hl => ?_)
  refine lv_iconst (v := nI 1) hx hb dL_isTold_9 (by decide) ?_
  refine lv_iload hx hb dL_isTold_10 (lv_at hl 7 rfl) ?_
  refine n_bit hx hb dL_isTold_12 (by omega) ?_
  refine lv_istore (lv' := [(9, .int (nI (2 ^ oo))), (8, .int (nI 0)), (0, .ref (G 0)), (1, .ref (G 3)), (2, .ref (G 4)), (3, .ref (G 6)), (4, .int (nI 1)), (5, .int (nI k)), (6, .int (nI oo)), (7, .int (nI v))]) hx hb dL_isTold_13 hl (by decide) rfl (fun ls hl => ?_)
  refine lv_iconst (v := nI 0) hx hb dL_isTold_15 (by decide) ?_
  refine lv_istore (lv' := [(10, .int (nI 0)), (9, .int (nI (2 ^ oo))), (8, .int (nI 0)), (0, .ref (G 0)), (1, .ref (G 3)), (2, .ref (G 4)), (3, .ref (G 6)), (4, .int (nI 1)), (5, .int (nI k)), (6, .int (nI oo)), (7, .int (nI v))]) hx hb dL_isTold_16 hl (by decide) rfl (fun ls hl => ?_)
  have L18 : ∀ (d t : Nat), 8 - t < d → t ≤ 8 → ∀ (H : Heap) (locs : List Loc) (wl : va_W) (ls : Array Slot), Rc G c wl → Rr G r wl → Ro G o wl → va_P D vwCl wl H → va_D (fun q => h0 ≤ q) wl → va_S (fun q => h0 ≤ q) s.heap H locs → lv_has ls 12 [(10, .int (nI t)), (9, .int (nI (rdI c 0 oo t))), (0, .ref (G 0)), (1, .ref (G 3)), (2, .ref (G 4)), (3, .ref (G 6)), (5, .int (nI k)), (6, .int (nI oo)), (7, .int (nI v)), (8, .int (nI 0))] → W p l e (headSpec wsL_isTold ({ frames := 9, cells := 3, slots := 18, locals := 153 } : Room)).room s m ([.ref (G 0), .ref (G 3), .ref (G 4), .ref (G 6), .int (nI 1), .int (nI k), .int (nI oo), .int (nI v)] : List Value).toArray below meth cd H locs 0 0 Q (F0 m 18 ls []) := by
    intro d18
    induction d18 with
    | zero => intro t hd; exact absurd hd (Nat.not_lt_zero _)
    | succ d18 ih18 =>
      intro t hd hi  H locs wl ls hRc hRr hRo hP hD hS hl
      refine lv_iload hx hb dL_isTold_18 (lv_at hl 0 rfl) ?_
      refine lv_bipush (v := nI 8) hx hb dL_isTold_20 (by decide) ?_
      refine n_icmp_ge (tgt := 78) hx hb dL_isTold_22 (by decide) (by omega) (by decide) (fun c_22 => ?_) (fun c_22 => ?_)
      · have hr8 : rdI c 0 oo t < 2 ^ 31 := Nat.lt_trans (rdI_lt (IC_7 hI) (IC_8 hI) hoo t) (Nat.pow_lt_pow_right (by decide) (by omega))
        obtain ⟨tm, htm⟩ := Sel_ex (Rch (eC c 0) oo k) 0 (2 ^ oo)
        have J78 : (∀ (H : Heap) (locs : List Loc) (wl : va_W), Rc G c wl → Rr G r wl → Ro G o wl → va_P D vwCl wl H → va_D (fun q => h0 ≤ q) wl → va_S (fun q => h0 ≤ q) s.heap H locs → W p l e (headSpec wsL_isTold ({ frames := 9, cells := 3, slots := 18, locals := 153 } : Room)).room s m ([.ref (G 0), .ref (G 3), .ref (G 4), .ref (G 6), .int (nI 1), .int (nI k), .int (nI oo), .int (nI v)] : List Value).toArray below meth cd H locs 0 0 Q (F0 m 94 ls [.int (nI (bN (Rch (eC c 0) oo k)))])) → W p l e (headSpec wsL_isTold ({ frames := 9, cells := 3, slots := 18, locals := 153 } : Room)).room s m ([.ref (G 0), .ref (G 3), .ref (G 4), .ref (G 6), .int (nI 1), .int (nI k), .int (nI oo), .int (nI v)] : List Value).toArray below meth cd H locs 0 0 Q (F0 m 78 ls []) := by
          intro hk78
          refine lv_iload hx hb dL_isTold_78 (lv_at hl 1 rfl) ?_
          refine lv_iload hx hb dL_isTold_80 (lv_at hl 6 rfl) ?_
          refine n_ishr hx hb dL_isTold_82 hr8 (by omega) ?_
          refine lv_iconst (v := nI 1) hx hb dL_isTold_83 (by decide) ?_
          refine n_bitt hx hb dL_isTold_84 ?_
          refine lv_iconst (v := nI 1) hx hb dL_isTold_85 (by decide) ?_
          refine n_icmpb_ne (tgt := 93) hx hb dL_isTold_86 (by decide) (fun c_86 => ?_) (fun c_86 => ?_)
          · refine lv_iconst (v := nI 0) hx hb dL_isTold_93 (by decide) ?_
            refine n_top (y := .int (nI (bN (Rch (eC c 0) oo k)))) (congrArg Value.int (show nI 0 = nI (bN (Rch (eC c 0) oo k)) from by exact congrArg nI (bN_f (fun z => c_86 ((reach_n (IC_7 hI) (IC_8 hI) hoo (by omega)).mpr z))).symm)) ?_
            exact hk78 _ _ _ hRc hRr hRo hP hD hS
          · refine lv_iconst (v := nI 1) hx hb dL_isTold_89 (by decide) ?_
            refine lv_goto (tgt := 94) hx hb dL_isTold_90 (by decide) ?_
            refine n_top (y := .int (nI (bN (Rch (eC c 0) oo k)))) (congrArg Value.int (show nI 1 = nI (bN (Rch (eC c 0) oo k)) from by exact congrArg nI (bN_t ((reach_n (IC_7 hI) (IC_8 hI) hoo (by omega)).mp c_86)).symm)) ?_
            exact hk78 _ _ _ hRc hRr hRo hP hD hS
        refine J78 (fun H locs wl hRc hRr hRo hP hD hS => ?_)
        refine lv_istore (lv' := [(8, .int (nI (bN (Rch (eC c 0) oo k)))), (10, .int (nI t)), (9, .int (nI (rdI c 0 oo t))), (0, .ref (G 0)), (1, .ref (G 3)), (2, .ref (G 4)), (3, .ref (G 6)), (5, .int (nI k)), (6, .int (nI oo)), (7, .int (nI v))]) hx hb dL_isTold_94 hl (by decide) rfl (fun ls hl => ?_)
        refine lv_aload_n hx hb dL_isTold_96 rfl (lv_at hl 4 rfl) ?_
        refine lv_bipush (v := nI 8) hx hb dL_isTold_97 (by decide) ?_
        refine lv_iload hx hb dL_isTold_99 (lv_at hl 7 rfl) ?_
        refine n_imul hx hb dL_isTold_101 ?_
        refine lv_iconst (v := nI 4) hx hb dL_isTold_102 (by decide) ?_
        refine n_iadd hx hb dL_isTold_103 ?_
        refine x_iald hx hb hK hP 3 (Q_g hRr) (by first | omega | decide | assumption) (by decide) dL_isTold_104 (v := nI (r 14 k)) (gV_j _ (k := k) (j := 4) (by decide) (by decide)) ?_
        refine lv_iload hx hb dL_isTold_105 (lv_at hl 8 rfl) ?_
        refine n_ishr hx hb dL_isTold_107 (hBr _ _ (by decide)) (by omega) ?_
        refine lv_iconst (v := nI 1) hx hb dL_isTold_108 (by decide) ?_
        refine n_bitt hx hb dL_isTold_109 ?_
        refine lv_istore (lv' := [(10, .int (nI (bN (Nat.testBit (r 14 k) oo = true)))), (8, .int (nI (bN (Rch (eC c 0) oo k)))), (9, .int (nI (rdI c 0 oo t))), (0, .ref (G 0)), (1, .ref (G 3)), (2, .ref (G 4)), (3, .ref (G 6)), (5, .int (nI k)), (6, .int (nI oo)), (7, .int (nI v))]) hx hb dL_isTold_110 hl (by decide) rfl (fun ls hl => ?_)
        refine lv_aload_n hx hb dL_isTold_112 rfl (lv_at hl 4 rfl) ?_
        refine lv_bipush (v := nI 8) hx hb dL_isTold_113 (by decide) ?_
        refine lv_iload hx hb dL_isTold_115 (lv_at hl 7 rfl) ?_
        refine n_imul hx hb dL_isTold_117 ?_
        refine lv_iconst (v := nI 4) hx hb dL_isTold_118 (by decide) ?_
        refine n_iadd hx hb dL_isTold_119 ?_
        refine lv_dup2_11 hx hb dL_isTold_120 rfl rfl ?_
        refine x_iald hx hb hK hP 3 (Q_g hRr) (by first | omega | decide | assumption) (by decide) dL_isTold_121 (v := nI (r 14 k)) (gV_j _ (k := k) (j := 4) (by decide) (by decide)) ?_
        have J122 : (∀ (H : Heap) (locs : List Loc) (wl : va_W), Rc G c wl → Rr G r wl → Ro G o wl → va_P D vwCl wl H → va_D (fun q => h0 ≤ q) wl → va_S (fun q => h0 ≤ q) s.heap H locs → W p l e (headSpec wsL_isTold ({ frames := 9, cells := 3, slots := 18, locals := 153 } : Room)).room s m ([.ref (G 0), .ref (G 3), .ref (G 4), .ref (G 6), .int (nI 1), .int (nI k), .int (nI oo), .int (nI v)] : List Value).toArray below meth cd H locs 0 0 Q (F0 m 135 ls [.int (nI tm), .int (nI (r 14 k)), .int (nI ((8 * k) + 4)), .ref (G 3)])) → W p l e (headSpec wsL_isTold ({ frames := 9, cells := 3, slots := 18, locals := 153 } : Room)).room s m ([.ref (G 0), .ref (G 3), .ref (G 4), .ref (G 6), .int (nI 1), .int (nI k), .int (nI oo), .int (nI v)] : List Value).toArray below meth cd H locs 0 0 Q (F0 m 122 ls [.int (nI (r 14 k)), .int (nI ((8 * k) + 4)), .ref (G 3)]) := by
          intro hk122
          refine lv_iload hx hb dL_isTold_122 (lv_at hl 1 rfl) ?_
          refine n_ifb_eq (tgt := 131) hx hb dL_isTold_124 (by decide) (fun c_124 => ?_) (fun c_124 => ?_)
          · refine lv_iconst (v := nI 1) hx hb dL_isTold_131 (by decide) ?_
            refine lv_iload hx hb dL_isTold_132 (lv_at hl 8 rfl) ?_
            refine n_bit hx hb dL_isTold_134 (by omega) ?_
            refine n_top (y := .int (nI tm)) (congrArg Value.int (show nI (2 ^ oo) = nI tm from by exact congrArg nI (htm.2 c_124).symm)) ?_
            exact hk122 _ _ _ hRc hRr hRo hP hD hS
          · refine lv_iconst (v := nI 0) hx hb dL_isTold_127 (by decide) ?_
            refine lv_goto (tgt := 135) hx hb dL_isTold_128 (by decide) ?_
            refine n_top (y := .int (nI tm)) (congrArg Value.int (show nI 0 = nI tm from by exact congrArg nI (htm.1 c_124).symm)) ?_
            exact hk122 _ _ _ hRc hRr hRo hP hD hS
        refine J122 (fun H locs wl hRc hRr hRo hP hD hS => ?_)
        refine n_ior hx hb dL_isTold_135 ?_
        refine x_iast (Z := fun wl => Rc G c wl ∧ Rr G (up2 r 14 k ((r 14 k) ||| tm)) wl ∧ Ro G o wl) hx hb hK hP hD hS 3 (Q_g hRr) (by first | omega | decide | assumption) (by decide) dL_isTold_136 ⟨Rc_fr hRc (by decide) (by decide), P_g (r := r) (k := k) (j := 4) ((r 14 k) ||| tm) (by decide) (by decide) (by first | omega | decide | assumption) hRr, ⟨rfl, rfl, rfl⟩⟩ (fun H locs wl hZ hP hD hS => ?_)
        obtain ⟨hRc, hRr, hRo⟩ := hZ
        refine lv_aload_n hx hb dL_isTold_137 rfl (lv_at hl 3 rfl) ?_
        refine lv_iconst (v := nI 1) hx hb dL_isTold_138 (by decide) ?_
        refine lv_iload hx hb dL_isTold_139 (lv_at hl 7 rfl) ?_
        refine lv_iload hx hb dL_isTold_141 (lv_at hl 8 rfl) ?_
        refine lv_iconst (v := nI 0) hx hb dL_isTold_143 (by decide) ?_
        refine y_calli (va_SW (As := [.ref (G 0), .int (nI 1), .int (nI k), .int (nI oo), .int (nI 0)]) (rest := []) hx hb hml hown hts (k_L_act_need l hlt D G h0 c (up2 r 14 k ((r 14 k) ||| tm)) o (nI k) (nI oo) (nI 0) hI) (vx_cwSW 5 hts gL_isTold_L_act rfl rfl rfl (by decide +kernel) ⟨(Nat.le_of_ble_eq_true rfl), (Nat.le_of_ble_eq_true rfl)⟩) (fun a U g mk q => ⟨q.1, Pr_cg q.2⟩) (fun U hU hW => ⟨rfl, Pr_mk hE hRc hRr hRo hP hD hS hU hW⟩) rfl hl.1 rfl (lv_room (Nat.le_of_ble_eq_true rfl)) dL_isTold_144 (Nat.le_of_ble_eq_true rfl) (Nat.le_of_ble_eq_true rfl)) hS (fun v9 C H locs wl hv9 hRc hRr hRo hP hD hS => ?_)
        have hv9 := A_need hv9 hk hoo hn hg
        refine lv_iload hx hb dL_isTold_147 (lv_at hl 1 rfl) ?_
        refine n_ifb_eq (tgt := 158) hx hb dL_isTold_149 (by decide) (fun c_149 => ?_) (fun c_149 => ?_)
        · refine lv_iload hx hb dL_isTold_158 (lv_at hl 0 rfl) ?_
          refine lv_icmp_ne (tgt := 167) hx hb dL_isTold_160 (by decide) (fun c_160 => ?_) (fun c_160 => ?_)
          · exfalso; exact c_160 (hv9.elim (fun z => absurd z.1 c_149) (fun z => by rw [g14]; exact z.2.1))
          · refine lv_iconst (v := nI 1) hx hb dL_isTold_163 (by decide) ?_
            refine lv_goto (tgt := 168) hx hb dL_isTold_164 (by decide) ?_
            refine W.widen (k := 3) (n := 18) (Nat.le_of_ble_eq_true rfl) (Nat.le_of_ble_eq_true rfl) ?_
            rw [hQ]
            have hrel : (fun (v9 : Int32) (z9 : (Nat → Nat → Nat) × (Nat → Nat → Nat)) => v9 = nI 1 ∧ (∃ ρ9, LI z9.1 z9.2 ρ9 (q + 1)) ∧ z9.1 20 1 = c 20 1 ∧ z9.1 20 3 = c 20 3) (nI 1) (C, (up2 r 14 k ((r 14 k) ||| tm))) := by refine ⟨rfl, ?_⟩; rcases hv9 with ⟨z1, -, z3⟩ | ⟨z1, -, z3⟩; exact absurd z1 c_149; rw [z3, htm.2 z1]; exact ⟨LI_need hLI hk hoo hg, rfl, rfl⟩
            exact W.zret (v := nI 1) (ty := .boolean) hx hb hr (nb_le (by first | exact bN_le _ | decide | omega | assumption)) (fun t ht hW => ⟨⟨_, (C, (up2 r 14 k ((r 14 k) ||| tm))), rfl, hrel, Wr_mk hRc hRr hRo hP hD ht⟩, hS.F ht⟩) hS.2.2 dL_isTold_168
        · refine lv_sipush (v := (-1033)) hx hb dL_isTold_152 (by decide) ?_
          refine lv_goto (tgt := 160) hx hb dL_isTold_155 (by decide) ?_
          refine lv_icmp_ne (tgt := 167) hx hb dL_isTold_160 (by decide) (fun c_160 => ?_) (fun c_160 => ?_)
          · exfalso; exact c_160 (hv9.elim (fun z => z.2.1) (fun z => absurd c_149 z.1))
          · refine lv_iconst (v := nI 1) hx hb dL_isTold_163 (by decide) ?_
            refine lv_goto (tgt := 168) hx hb dL_isTold_164 (by decide) ?_
            refine W.widen (k := 3) (n := 18) (Nat.le_of_ble_eq_true rfl) (Nat.le_of_ble_eq_true rfl) ?_
            rw [hQ]
            have hrel : (fun (v9 : Int32) (z9 : (Nat → Nat → Nat) × (Nat → Nat → Nat)) => v9 = nI 1 ∧ (∃ ρ9, LI z9.1 z9.2 ρ9 (q + 1)) ∧ z9.1 20 1 = c 20 1 ∧ z9.1 20 3 = c 20 3) (nI 1) (C, (up2 r 14 k ((r 14 k) ||| tm))) := by refine ⟨rfl, ?_⟩; rcases hv9 with ⟨z1, -, z3⟩ | ⟨z1, -, z3⟩; (rw [z3, htm.1 z1, Nat.or_zero, up2_same]; exact ⟨⟨ρ, LI_le hLI (Nat.le_succ q)⟩, rfl, rfl⟩); exact absurd c_149 z1
            exact W.zret (v := nI 1) (ty := .boolean) hx hb hr (nb_le (by first | exact bN_le _ | decide | omega | assumption)) (fun t ht hW => ⟨⟨_, (C, (up2 r 14 k ((r 14 k) ||| tm))), rfl, hrel, Wr_mk hRc hRr hRo hP hD ht⟩, hS.F ht⟩) hS.2.2 dL_isTold_168
      · refine lv_iconst (v := nI 0) hx hb dL_isTold_25 (by decide) ?_
        refine lv_istore (lv' := [(11, .int (nI 0)), (10, .int (nI t)), (9, .int (nI (rdI c 0 oo t))), (0, .ref (G 0)), (1, .ref (G 3)), (2, .ref (G 4)), (3, .ref (G 6)), (5, .int (nI k)), (6, .int (nI oo)), (7, .int (nI v)), (8, .int (nI 0))]) hx hb dL_isTold_26 hl (by decide) rfl (fun ls hl => ?_)
        have L28 : ∀ (d i : Nat), c 20 1 - i < d → i ≤ c 20 1 → ∀ (H : Heap) (locs : List Loc) (wl : va_W) (ls : Array Slot), Rc G c wl → Rr G r wl → Ro G o wl → va_P D vwCl wl H → va_D (fun q => h0 ≤ q) wl → va_S (fun q => h0 ≤ q) s.heap H locs → lv_has ls 12 [(11, .int (nI i)), (9, .int (nI (rsI c 0 (rdI c 0 oo t) i))), (0, .ref (G 0)), (1, .ref (G 3)), (2, .ref (G 4)), (3, .ref (G 6)), (5, .int (nI k)), (6, .int (nI oo)), (7, .int (nI v)), (8, .int (nI 0)), (10, .int (nI t))] → W p l e (headSpec wsL_isTold ({ frames := 9, cells := 3, slots := 18, locals := 153 } : Room)).room s m ([.ref (G 0), .ref (G 3), .ref (G 4), .ref (G 6), .int (nI 1), .int (nI k), .int (nI oo), .int (nI v)] : List Value).toArray below meth cd H locs 0 0 Q (F0 m 28 ls []) := by
          intro d28
          induction d28 with
          | zero => intro i hd; exact absurd hd (Nat.not_lt_zero _)
          | succ d28 ih28 =>
            intro i hd hi  H locs wl ls hRc hRr hRo hP hD hS hl
            have hrs : (rsI c 0 (rdI c 0 oo t) i) < 2 ^ 31 := Nat.lt_trans (rsI_lt (IC_7 hI) (IC_8 hI) (rdI_lt (IC_7 hI) (IC_8 hI) hoo t) i) (Nat.pow_lt_pow_right (by decide) (by omega))
            refine lv_iload hx hb dL_isTold_28 (lv_at hl 0 rfl) ?_
            refine lv_aload_n hx hb dL_isTold_30 rfl (lv_at hl 2 rfl) ?_
            refine y_calli (va_runV (As := []) (rest := [.int (nI i)]) ⟨hx, hb, hml, hown, hts⟩ (k_X2_units l D G h0 c r o ) (cwV 0 hts gL_isTold_X2_units rfl rfl rfl (by decide +kernel) ⟨Nat.le_of_ble_eq_true rfl, Nat.le_of_ble_eq_true rfl⟩) ⟨fun a U g mk q => ⟨q.1, Pr_cg q.2⟩, va_recv (ci := 3) (q0 := 0) hK hP rfl (Q_o hRc), fun U hU hW => ⟨rfl, Pr_mk hE hRc hRr hRo hP hD hS hU hW⟩⟩ rfl rfl hl.1 rfl (lv_room (Nat.le_of_ble_eq_true rfl)) dL_isTold_31 ⟨Nat.le_of_ble_eq_true rfl, Nat.le_of_ble_eq_true rfl⟩) hS (fun v9 _ H locs wl hv9 hRc hRr hRo hP hD hS => ?_)
            refine n_top (y := .int (nI (c 20 1))) (congrArg Value.int hv9) ?_
            clear hv9 v9
            refine n_icmp_ge (tgt := 72) hx hb dL_isTold_34 (by decide) (by omega) (hB _ _ (by decide)) (fun c_34 => ?_) (fun c_34 => ?_)
            · refine lv_iinc (v := nI (t + 1)) (lv' := [(10, .int (nI (t + 1))), (11, .int (nI i)), (9, .int (nI (rsI c 0 (rdI c 0 oo t) i))), (0, .ref (G 0)), (1, .ref (G 3)), (2, .ref (G 4)), (3, .ref (G 6)), (5, .int (nI k)), (6, .int (nI oo)), (7, .int (nI v)), (8, .int (nI 0))]) hx hb dL_isTold_72 hl (k := 10) rfl (nI_add t 1) (by decide) rfl (fun ls hl => ?_)
              refine lv_goto (tgt := 18) hx hb dL_isTold_75 (by decide) ?_
              exact ih18 (t + 1) (by omega) (by omega)   _ _ _ _ hRc hRr hRo hP hD hS (show lv_has ls 12 [(10, .int (nI (t + 1))), (9, .int (nI (rdI c 0 oo (t + 1)))), (0, .ref (G 0)), (1, .ref (G 3)), (2, .ref (G 4)), (3, .ref (G 6)), (5, .int (nI k)), (6, .int (nI oo)), (7, .int (nI v)), (8, .int (nI 0))] from by rw [show ((.int (nI (rdI c 0 oo (t + 1))) : Value)) = .int (nI (rsI c 0 (rdI c 0 oo t) i)) from by exact congrArg (fun z => Value.int (nI z)) ((show rdI c 0 oo (t + 1) = rsI c 0 (rdI c 0 oo t) i from by rw [show i = c 20 1 by omega]; rfl))]; exact lv_sub hl [0, 2, 3, 4, 5, 6, 7, 8, 9, 10] rfl)
            · refine lv_iload hx hb dL_isTold_37 (lv_at hl 1 rfl) ?_
              have J39 : (∀ (H : Heap) (locs : List Loc) (wl : va_W), Rc G c wl → Rr G r wl → Ro G o wl → va_P D vwCl wl H → va_D (fun q => h0 ≤ q) wl → va_S (fun q => h0 ≤ q) s.heap H locs → W p l e (headSpec wsL_isTold ({ frames := 9, cells := 3, slots := 18, locals := 153 } : Room)).room s m ([.ref (G 0), .ref (G 3), .ref (G 4), .ref (G 6), .int (nI 1), .int (nI k), .int (nI oo), .int (nI v)] : List Value).toArray below meth cd H locs 0 0 Q (F0 m 63 ls [.int (nI (if Nat.testBit (rsI c 0 (rdI c 0 oo t) i) i = true then c 7 i else 0)), .int (nI (rsI c 0 (rdI c 0 oo t) i))])) → W p l e (headSpec wsL_isTold ({ frames := 9, cells := 3, slots := 18, locals := 153 } : Room)).room s m ([.ref (G 0), .ref (G 3), .ref (G 4), .ref (G 6), .int (nI 1), .int (nI k), .int (nI oo), .int (nI v)] : List Value).toArray below meth cd H locs 0 0 Q (F0 m 39 ls [.int (nI (rsI c 0 (rdI c 0 oo t) i))]) := by
                intro hk39
                refine lv_iload hx hb dL_isTold_39 (lv_at hl 1 rfl) ?_
                refine lv_iload hx hb dL_isTold_41 (lv_at hl 0 rfl) ?_
                refine n_ishr hx hb dL_isTold_43 hrs (by omega) ?_
                refine lv_iconst (v := nI 1) hx hb dL_isTold_44 (by decide) ?_
                refine n_bitt hx hb dL_isTold_45 ?_
                refine lv_iconst (v := nI 1) hx hb dL_isTold_46 (by decide) ?_
                refine n_icmpb_ne (tgt := 62) hx hb dL_isTold_47 (by decide) (fun c_47 => ?_) (fun c_47 => ?_)
                · refine lv_iconst (v := nI 0) hx hb dL_isTold_62 (by decide) ?_
                  refine n_top (y := .int (nI (if Nat.testBit (rsI c 0 (rdI c 0 oo t) i) i = true then c 7 i else 0))) (congrArg Value.int (show nI 0 = nI (if Nat.testBit (rsI c 0 (rdI c 0 oo t) i) i = true then c 7 i else 0) from by exact congrArg nI (if_neg c_47).symm)) ?_
                  exact hk39 _ _ _ hRc hRr hRo hP hD hS
                · refine lv_aload_n hx hb dL_isTold_50 rfl (lv_at hl 3 rfl) ?_
                  refine lv_bipush (v := nI 8) hx hb dL_isTold_51 (by decide) ?_
                  refine lv_iload hx hb dL_isTold_53 (lv_at hl 0 rfl) ?_
                  refine n_imul hx hb dL_isTold_55 ?_
                  refine lv_iconst (v := nI 4) hx hb dL_isTold_56 (by decide) ?_
                  refine n_iadd hx hb dL_isTold_57 ?_
                  refine x_iald hx hb hK hP 3 (Q_g hRr) (by first | omega | decide | assumption) (by decide) dL_isTold_58 (v := nI (r 14 i)) (gV_j _ (k := i) (j := 4) (by decide) (by decide)) ?_
                  refine lv_goto (tgt := 63) hx hb dL_isTold_59 (by decide) ?_
                  refine n_top (y := .int (nI (if Nat.testBit (rsI c 0 (rdI c 0 oo t) i) i = true then c 7 i else 0))) (congrArg Value.int (show nI (r 14 i) = nI (if Nat.testBit (rsI c 0 (rdI c 0 oo t) i) i = true then c 7 i else 0) from by exact congrArg nI (by rw [if_pos c_47]; exact (hGs.1 i (by omega)).2.1))) ?_
                  exact hk39 _ _ _ hRc hRr hRo hP hD hS
              refine J39 (fun H locs wl hRc hRr hRo hP hD hS => ?_)
              refine n_ior hx hb dL_isTold_63 ?_
              refine lv_istore (lv' := [(9, .int (nI ((rsI c 0 (rdI c 0 oo t) i) ||| (if Nat.testBit (rsI c 0 (rdI c 0 oo t) i) i = true then c 7 i else 0)))), (11, .int (nI i)), (0, .ref (G 0)), (1, .ref (G 3)), (2, .ref (G 4)), (3, .ref (G 6)), (5, .int (nI k)), (6, .int (nI oo)), (7, .int (nI v)), (8, .int (nI 0)), (10, .int (nI t))]) hx hb dL_isTold_64 hl (by decide) rfl (fun ls hl => ?_)
              refine lv_iinc (v := nI (i + 1)) (lv' := [(11, .int (nI (i + 1))), (9, .int (nI ((rsI c 0 (rdI c 0 oo t) i) ||| (if Nat.testBit (rsI c 0 (rdI c 0 oo t) i) i = true then c 7 i else 0)))), (0, .ref (G 0)), (1, .ref (G 3)), (2, .ref (G 4)), (3, .ref (G 6)), (5, .int (nI k)), (6, .int (nI oo)), (7, .int (nI v)), (8, .int (nI 0)), (10, .int (nI t))]) hx hb dL_isTold_66 hl (k := 1) rfl (nI_add i 1) (by decide) rfl (fun ls hl => ?_)
              refine lv_goto (tgt := 28) hx hb dL_isTold_69 (by decide) ?_
              exact ih28 (i + 1) (by omega) (by omega)   _ _ _ _ hRc hRr hRo hP hD hS (show lv_has ls 12 [(11, .int (nI (i + 1))), (9, .int (nI (rsI c 0 (rdI c 0 oo t) (i + 1)))), (0, .ref (G 0)), (1, .ref (G 3)), (2, .ref (G 4)), (3, .ref (G 6)), (5, .int (nI k)), (6, .int (nI oo)), (7, .int (nI v)), (8, .int (nI 0)), (10, .int (nI t))] from by rw [show ((.int (nI (rsI c 0 (rdI c 0 oo t) (i + 1))) : Value)) = .int (nI ((rsI c 0 (rdI c 0 oo t) i) ||| (if Nat.testBit (rsI c 0 (rdI c 0 oo t) i) i = true then c 7 i else 0))) from by exact congrArg (fun z => Value.int (nI z)) (rsI_if c _ _)]; exact lv_sub hl [0, 1, 2, 3, 4, 5, 6, 7, 8, 9, 10] rfl)
        exact L28 _ 0 (Nat.lt_succ_self _) (by omega)   _ _ _ _ hRc hRr hRo hP hD hS (show lv_has ls 12 [(11, .int (nI 0)), (9, .int (nI (rsI c 0 (rdI c 0 oo t) 0))), (0, .ref (G 0)), (1, .ref (G 3)), (2, .ref (G 4)), (3, .ref (G 6)), (5, .int (nI k)), (6, .int (nI oo)), (7, .int (nI v)), (8, .int (nI 0)), (10, .int (nI t))] from by rw [show ((.int (nI (rsI c 0 (rdI c 0 oo t) 0)) : Value)) = .int (nI (rdI c 0 oo t)) from by rfl]; exact lv_sub hl [0, 2, 3, 4, 5, 6, 7, 8, 9, 10, 1] rfl)
  exact L18 _ 0 (Nat.lt_succ_self _) (by omega)   _ _ _ _ hRc hRr hRo hP hD hS (show lv_has ls 12 [(10, .int (nI 0)), (9, .int (nI (rdI c 0 oo 0))), (0, .ref (G 0)), (1, .ref (G 3)), (2, .ref (G 4)), (3, .ref (G 6)), (5, .int (nI k)), (6, .int (nI oo)), (7, .int (nI v)), (8, .int (nI 0))] from by rw [show ((.int (nI (rdI c 0 oo 0)) : Value)) = .int (nI (2 ^ oo)) from by rfl]; exact lv_sub hl [0, 1, 3, 4, 5, 6, 8, 9, 10, 2] rfl)
set_option maxHeartbeats 4000000 in
set_option maxRecDepth 100000 in
theorem k_L_isTold_2 (l : Launch) (D : va_G) (G : Nat → Nat) (h0 : Nat) (c r : Nat → Nat → Nat) (o : Nat) (hlt : l.stackTraces = false) (ρ : Nat → Nat → Nat) (q : Nat) (hq : q ≤ 500) (hLI : LI c r ρ q) (hg : c 20 3 = 0) (k oo v : Nat) (hk : k < c 20 1) (hoo : oo < c 20 1) (hko : k ≠ oo) (hv31 : v < 2 ^ 31) : Met l yL_isTold wsL_isTold ({ frames := 9, cells := 7, slots := 2033, locals := 243 } : Room) (va_Pc [.ref (G 0), .ref (G 3), .ref (G 4), .ref (G 6), .int (nI 2), .int (nI k), .int (nI oo), .int (nI v)] (fun U => Pr D G h0 c r o U)) (va_Qi (fun (v9 : Int32) (z9 : (Nat → Nat → Nat) × (Nat → Nat → Nat)) => v9 = nI 1 ∧ (∃ ρ9, LI z9.1 z9.2 ρ9 (q + 1)) ∧ z9.1 20 1 = c 20 1 ∧ z9.1 20 3 = c 20 3) (fun (z9 : (Nat → Nat → Nat) × (Nat → Nat → Nat)) t => Wr D G h0 z9.1 z9.2 o t) (fun q => h0 ≤ q)) 7 2033 (fun q => h0 ≤ q) := by
  refine Met.ofW (cc := cL_isTold) (maxL := 12) (ret := (some .boolean)) (by decide) rfl ?_
  intro p e s m args below meth cd s₁ B hml hv
  obtain ⟨rfl, hE, wl, hRc, hRr, hRo, hP, hD⟩ := hv
  have hx := B.exec
  have hb := B.bytes
  have hr := B.returns
  have hts := atoms_spec (ws := wsL_isTold) B.pre
  have hown : s.vm.findClass RL = some m.cls := findClass_of_methodNamed B.named
  have hlocks := B.notSynchronized
  have hK := hE.2.1
  have hS : va_S (fun q => h0 ≤ q) s.heap s.heap [] := va_S.rf
  have hl := lv_entry ([.ref (G 0), .ref (G 3), .ref (G 4), .ref (G 6), .int (nI 2), .int (nI k), .int (nI oo), .int (nI v)]) (n := 12) (Nat.le_of_ble_eq_true rfl)
  rw [lg_entry_eq]
  generalize (lg_sl ([.ref (G 0), .ref (G 3), .ref (G 4), .ref (G 6), .int (nI 2), .int (nI k), .int (nI oo), .int (nI v)]) ++ List.replicate (12 - (lg_sl ([.ref (G 0), .ref (G 3), .ref (G 4), .ref (G 6), .int (nI 2), .int (nI k), .int (nI oo), .int (nI v)])).length) Slot.unset).toArray = ls at hl ⊢
  have hl : lv_has ls 12 [(0, .ref (G 0)), (1, .ref (G 3)), (2, .ref (G 4)), (3, .ref (G 6)), (4, .int (nI 2)), (5, .int (nI k)), (6, .int (nI oo)), (7, .int (nI v))] := hl
  have hV := hLI.1
  have hI := hV.1
  have hn8 := hLI.2.1
  have hBr := hLI.2.2.1
  have hGs := hLI.2.2.2.2.1
  have hB := IC_B hI
  have hn := IC_n hI
  have hW5 : c 30 0 ≤ 512 := Nat.le_trans hV.2.2.2 (by omega)
  obtain ⟨g13, g14, g16, g17⟩ := hGs.1 k (by omega)
  obtain ⟨g10, g11, g12, g15⟩ := hGs.2 k hk
  have hwk := LI_w hLI (by omega) hk hoo
  have hM2 := hLI.2.2.2.2.2.1.2.2
  have hcq : c 30 0 ≤ q := hV.2.2.2
  refine lv_iload hx hb dL_isTold_0 (lv_at hl 4 rfl) ?_
  refine lv_iconst (v := nI 1) hx hb dL_isTold_2 (by decide) ?_
  refine n_icmp_ne (tgt := 169) hx hb dL_isTold_3 (by decide) (by decide) (by decide) (fun c_3 => ?_) (fun c_3 => absurd c_3 (by decide))
  refine lv_iload hx hb dL_isTold_169 (lv_at hl 4 rfl) ?_
  refine lv_iconst (v := nI 2) hx hb dL_isTold_171 (by decide) ?_
  refine n_icmp_ne (tgt := 280) hx hb dL_isTold_172 (by decide) (by decide) (by decide) (fun c_172 => absurd c_172 (by decide)) (fun c_172 => ?_)
  refine lv_iconst (v := nI 1) hx hb dL_isTold_175 (by decide) ?_
  refine lv_iload hx hb dL_isTold_176 (lv_at hl 7 rfl) ?_
  refine lv_bipush (v := nI 9) hx hb dL_isTold_178 (by decide) ?_
  refine n_irem hx hb dL_isTold_180 hv31 (by first | omega | decide | assumption) (by decide) ?_
  refine n_iadd hx hb dL_isTold_181 ?_
  refine lv_istore (lv' := [(8, .int (nI (1 + (v % 9)))), (0, .ref (G 0)), (1, .ref (G 3)), (2, .ref (G 4)), (3, .ref (G 6)), (4, .int (nI 2)), (5, .int (nI k)), (6, .int (nI oo)), (7, .int (nI v))]) hx hb dL_isTold_182 hl (by decide) rfl (fun ls hl => ?_)
  refine lv_aload_n hx hb dL_isTold_184 rfl (lv_at hl 3 rfl) ?_
  refine lv_bipush (v := nI 8) hx hb dL_isTold_185 (by decide) ?_
  refine lv_iload hx hb dL_isTold_187 (lv_at hl 6 rfl) ?_
  refine n_imul hx hb dL_isTold_189 ?_
  refine lv_iload hx hb dL_isTold_190 (lv_at hl 7 rfl) ?_
  refine n_iadd hx hb dL_isTold_192 ?_
  refine x_iald hx hb hK hP 4 (Q_a2 hRr) (by first | omega | decide | assumption) (by decide) dL_isTold_193 (v := nI (r 2 ((8 * k) + oo))) rfl ?_
  refine lv_bipush (v := nI 127) hx hb dL_isTold_194 (by decide) ?_
  refine n_iand hx hb dL_isTold_196 ?_
  refine lv_istore (lv' := [(9, .int (nI ((r 2 ((8 * k) + oo)) &&& 127))), (8, .int (nI (1 + (v % 9)))), (0, .ref (G 0)), (1, .ref (G 3)), (2, .ref (G 4)), (3, .ref (G 6)), (4, .int (nI 2)), (5, .int (nI k)), (6, .int (nI oo)), (7, .int (nI v))]) hx hb dL_isTold_197 hl (by decide) rfl (fun ls hl => ?_)
  refine lv_aload_n hx hb dL_isTold_199 rfl (lv_at hl 4 rfl) ?_
  refine lv_bipush (v := nI 8) hx hb dL_isTold_200 (by decide) ?_
  refine lv_iload hx hb dL_isTold_202 (lv_at hl 7 rfl) ?_
  refine n_imul hx hb dL_isTold_204 ?_
  refine lv_iload hx hb dL_isTold_205 (lv_at hl 8 rfl) ?_
  refine n_iadd hx hb dL_isTold_207 ?_
  refine lv_iload hx hb dL_isTold_208 (lv_at hl 0 rfl) ?_
  refine n_if_ne (tgt := 225) hx hb dL_isTold_210 (by decide) (Nat.lt_of_le_of_lt Nat.and_le_right (by decide)) (fun c_210 => ?_) (fun c_210 => ?_)
  · refine lv_aload_n hx hb dL_isTold_225 rfl (lv_at hl 4 rfl) ?_
    refine lv_bipush (v := nI 8) hx hb dL_isTold_226 (by decide) ?_
    refine lv_iload hx hb dL_isTold_228 (lv_at hl 7 rfl) ?_
    refine n_imul hx hb dL_isTold_230 ?_
    refine lv_iload hx hb dL_isTold_231 (lv_at hl 8 rfl) ?_
    refine n_iadd hx hb dL_isTold_233 ?_
    refine x_iald hx hb hK hP 4 (Q_a2 hRr) (by first | omega | decide | assumption) (by decide) dL_isTold_234 (v := nI (r 2 ((8 * k) + oo))) rfl ?_
    refine lv_iload hx hb dL_isTold_235 (lv_at hl 0 rfl) ?_
    refine n_isub hx hb dL_isTold_237 (by exact Nat.and_le_left) ?_
    refine lv_iload hx hb dL_isTold_238 (lv_at hl 1 rfl) ?_
    refine n_iadd hx hb dL_isTold_240 ?_
    refine x_iast (Z := fun wl => Rc G c wl ∧ Rr G (up2 r 2 ((8 * k) + oo) (((r 2 ((8 * k) + oo)) - ((r 2 ((8 * k) + oo)) &&& 127)) + (1 + (v % 9)))) wl ∧ Ro G o wl) hx hb hK hP hD hS 4 (Q_a2 hRr) (by first | omega | decide | assumption) (by decide) dL_isTold_241 ⟨Rc_fr hRc (by decide) (by decide), P_a2 (r := r) (((r 2 ((8 * k) + oo)) - ((r 2 ((8 * k) + oo)) &&& 127)) + (1 + (v % 9))) (by first | omega | decide | assumption) hRr, ⟨rfl, rfl, rfl⟩⟩ (fun H locs wl hZ hP hD hS => ?_)
    obtain ⟨hRc, hRr, hRo⟩ := hZ
    refine lv_aload_n hx hb dL_isTold_242 rfl (lv_at hl 5 rfl) ?_
    refine lv_iconst (v := nI 2) hx hb dL_isTold_243 (by decide) ?_
    refine lv_dup2_11 hx hb dL_isTold_244 rfl rfl ?_
    refine x_iald hx hb hK hP 6 (Q_a4 hRr) (by first | omega | decide | assumption) (by decide) dL_isTold_245 (v := nI (r 4 2)) (congrArg nI (show (up2 r 2 ((8 * k) + oo) (((r 2 ((8 * k) + oo)) - ((r 2 ((8 * k) + oo)) &&& 127)) + (1 + (v % 9)))) 4 2 = r 4 2 from by simp [up2])) ?_
    refine lv_iload hx hb dL_isTold_246 (lv_at hl 0 rfl) ?_
    refine n_if_ne (tgt := 255) hx hb dL_isTold_248 (by decide) (Nat.lt_of_le_of_lt Nat.and_le_right (by decide)) (fun c_248 => ?_) (fun c_248 => ?_)
    · refine lv_iconst (v := nI 0) hx hb dL_isTold_255 (by decide) ?_
      refine n_iadd hx hb dL_isTold_256 ?_
      refine x_iast (Z := fun wl => Rc G c wl ∧ Rr G (up2 (up2 r 2 ((8 * k) + oo) (((r 2 ((8 * k) + oo)) - ((r 2 ((8 * k) + oo)) &&& 127)) + (1 + (v % 9)))) 4 2 ((r 4 2) + 0)) wl ∧ Ro G o wl) hx hb hK hP hD hS 6 (Q_a4 hRr) (by first | omega | decide | assumption) (by decide) dL_isTold_257 ⟨Rc_fr hRc (by decide) (by decide), P_a4 (r := (up2 r 2 ((8 * k) + oo) (((r 2 ((8 * k) + oo)) - ((r 2 ((8 * k) + oo)) &&& 127)) + (1 + (v % 9))))) ((r 4 2) + 0) (by first | omega | decide | assumption) hRr, ⟨rfl, rfl, rfl⟩⟩ (fun H locs wl hZ hP hD hS => ?_)
      obtain ⟨hRc, hRr, hRo⟩ := hZ
      refine lv_aload_n hx hb dL_isTold_258 rfl (lv_at hl 2 rfl) ?_
      refine lv_iconst (v := nI 2) hx hb dL_isTold_259 (by decide) ?_
      refine lv_iload hx hb dL_isTold_260 (lv_at hl 7 rfl) ?_
      refine lv_iload hx hb dL_isTold_262 (lv_at hl 8 rfl) ?_
      refine lv_iload hx hb dL_isTold_264 (lv_at hl 1 rfl) ?_
      refine y_calli (va_SW (As := [.ref (G 0), .int (nI 2), .int (nI k), .int (nI oo), .int (nI (1 + (v % 9)))]) (rest := []) hx hb hml hown hts (k_L_act_wish l hlt D G h0 c (up2 (up2 r 2 ((8 * k) + oo) (((r 2 ((8 * k) + oo)) - ((r 2 ((8 * k) + oo)) &&& 127)) + (1 + (v % 9)))) 4 2 ((r 4 2) + 0)) o (nI k) (nI oo) (nI (1 + (v % 9))) hI hW5) (vx_cwSW 5 hts gL_isTold_L_act rfl rfl rfl (by decide +kernel) ⟨(Nat.le_of_ble_eq_true rfl), (Nat.le_of_ble_eq_true rfl)⟩) (fun a U g mk q => ⟨q.1, Pr_cg q.2⟩) (fun U hU hW => ⟨rfl, Pr_mk hE hRc hRr hRo hP hD hS hU hW⟩) rfl hl.1 rfl (lv_room (Nat.le_of_ble_eq_true rfl)) dL_isTold_266 (Nat.le_of_ble_eq_true rfl) (Nat.le_of_ble_eq_true rfl)) hS (fun v9 C H locs wl hv9 hRc hRr hRo hP hD hS => ?_)
      have hv9 := A_wish hv9 hk hoo hko ⟨by omega, by omega⟩ hn hg
      refine lv_iload hx hb dL_isTold_269 (lv_at hl 0 rfl) ?_
      refine lv_icmp_ne (tgt := 278) hx hb dL_isTold_271 (by decide) (fun c_271 => ?_) (fun c_271 => ?_)
      · exfalso; exact c_271 (hv9.elim (fun z => by have := hwk.2.2.mpr z.1; omega) (fun z => by obtain ⟨j, z1, z2, -⟩ := z; rw [z2, hwk.1, (wf_s hV z1).2.2.2.1]))
      · refine lv_iconst (v := nI 1) hx hb dL_isTold_274 (by decide) ?_
        refine lv_goto (tgt := 279) hx hb dL_isTold_275 (by decide) ?_
        refine W.widen (k := 7) (n := 2033) (Nat.le_of_ble_eq_true rfl) (Nat.le_of_ble_eq_true rfl) ?_
        have hrel : (fun (v9 : Int32) (z9 : (Nat → Nat → Nat) × (Nat → Nat → Nat)) => v9 = nI 1 ∧ (∃ ρ9, LI z9.1 z9.2 ρ9 (q + 1)) ∧ z9.1 20 1 = c 20 1 ∧ z9.1 20 3 = c 20 3) (nI 1) (C, (up2 (up2 r 2 ((8 * k) + oo) (((r 2 ((8 * k) + oo)) - ((r 2 ((8 * k) + oo)) &&& 127)) + (1 + (v % 9)))) 4 2 ((r 4 2) + 0))) := by refine ⟨rfl, ?_⟩; rcases hv9 with ⟨z1, -⟩ | ⟨j, z1, -, z3⟩; (exact absurd (hwk.2.2.mpr z1) (by omega)); rw [z3]; exact ⟨LI_wupd hLI (by omega) hk hoo ⟨by omega, by omega⟩ hg z1, rfl, rfl⟩
        exact W.zret (v := nI 1) (ty := .boolean) hx hb hr (nb_le (by first | exact bN_le _ | decide | omega | assumption)) (fun t ht hW => ⟨⟨_, (C, (up2 (up2 r 2 ((8 * k) + oo) (((r 2 ((8 * k) + oo)) - ((r 2 ((8 * k) + oo)) &&& 127)) + (1 + (v % 9)))) 4 2 ((r 4 2) + 0))), rfl, hrel, Wr_mk hRc hRr hRo hP hD ht⟩, hS.F ht⟩) hS.2.2 dL_isTold_279
    · exfalso; omega
  · refine lv_iload hx hb dL_isTold_213 (lv_at hl 1 rfl) ?_
    refine lv_aload_n hx hb dL_isTold_215 rfl (lv_at hl 5 rfl) ?_
    refine lv_iconst (v := nI 2) hx hb dL_isTold_216 (by decide) ?_
    refine x_iald hx hb hK hP 6 (Q_a4 hRr) (by first | omega | decide | assumption) (by decide) dL_isTold_217 (v := nI (r 4 2)) rfl ?_
    refine lv_bipush (v := nI 7) hx hb dL_isTold_218 (by decide) ?_
    refine n_shl hx hb dL_isTold_220 (by omega) (by rw [hM2]; omega) ?_
    refine n_ior hx hb dL_isTold_221 ?_
    refine lv_goto (tgt := 241) hx hb dL_isTold_222 (by decide) ?_
    refine x_iast (Z := fun wl => Rc G c wl ∧ Rr G (up2 r 2 ((8 * k) + oo) ((1 + (v % 9)) ||| ((r 4 2) * 2 ^ 7))) wl ∧ Ro G o wl) hx hb hK hP hD hS 4 (Q_a2 hRr) (by first | omega | decide | assumption) (by decide) dL_isTold_241 ⟨Rc_fr hRc (by decide) (by decide), P_a2 (r := r) ((1 + (v % 9)) ||| ((r 4 2) * 2 ^ 7)) (by first | omega | decide | assumption) hRr, ⟨rfl, rfl, rfl⟩⟩ (fun H locs wl hZ hP hD hS => ?_)
    obtain ⟨hRc, hRr, hRo⟩ := hZ
    refine lv_aload_n hx hb dL_isTold_242 rfl (lv_at hl 5 rfl) ?_
    refine lv_iconst (v := nI 2) hx hb dL_isTold_243 (by decide) ?_
    refine lv_dup2_11 hx hb dL_isTold_244 rfl rfl ?_
    refine x_iald hx hb hK hP 6 (Q_a4 hRr) (by first | omega | decide | assumption) (by decide) dL_isTold_245 (v := nI (r 4 2)) (congrArg nI (show (up2 r 2 ((8 * k) + oo) ((1 + (v % 9)) ||| ((r 4 2) * 2 ^ 7))) 4 2 = r 4 2 from by simp [up2])) ?_
    refine lv_iload hx hb dL_isTold_246 (lv_at hl 0 rfl) ?_
    refine n_if_ne (tgt := 255) hx hb dL_isTold_248 (by decide) (Nat.lt_of_le_of_lt Nat.and_le_right (by decide)) (fun c_248 => ?_) (fun c_248 => ?_)
    · exfalso; omega
    · refine lv_iconst (v := nI 1) hx hb dL_isTold_251 (by decide) ?_
      refine lv_goto (tgt := 256) hx hb dL_isTold_252 (by decide) ?_
      refine n_iadd hx hb dL_isTold_256 ?_
      refine x_iast (Z := fun wl => Rc G c wl ∧ Rr G (up2 (up2 r 2 ((8 * k) + oo) ((1 + (v % 9)) ||| ((r 4 2) * 2 ^ 7))) 4 2 ((r 4 2) + 1)) wl ∧ Ro G o wl) hx hb hK hP hD hS 6 (Q_a4 hRr) (by first | omega | decide | assumption) (by decide) dL_isTold_257 ⟨Rc_fr hRc (by decide) (by decide), P_a4 (r := (up2 r 2 ((8 * k) + oo) ((1 + (v % 9)) ||| ((r 4 2) * 2 ^ 7)))) ((r 4 2) + 1) (by first | omega | decide | assumption) hRr, ⟨rfl, rfl, rfl⟩⟩ (fun H locs wl hZ hP hD hS => ?_)
      obtain ⟨hRc, hRr, hRo⟩ := hZ
      refine lv_aload_n hx hb dL_isTold_258 rfl (lv_at hl 2 rfl) ?_
      refine lv_iconst (v := nI 2) hx hb dL_isTold_259 (by decide) ?_
      refine lv_iload hx hb dL_isTold_260 (lv_at hl 7 rfl) ?_
      refine lv_iload hx hb dL_isTold_262 (lv_at hl 8 rfl) ?_
      refine lv_iload hx hb dL_isTold_264 (lv_at hl 1 rfl) ?_
      refine y_calli (va_SW (As := [.ref (G 0), .int (nI 2), .int (nI k), .int (nI oo), .int (nI (1 + (v % 9)))]) (rest := []) hx hb hml hown hts (k_L_act_wish l hlt D G h0 c (up2 (up2 r 2 ((8 * k) + oo) ((1 + (v % 9)) ||| ((r 4 2) * 2 ^ 7))) 4 2 ((r 4 2) + 1)) o (nI k) (nI oo) (nI (1 + (v % 9))) hI hW5) (vx_cwSW 5 hts gL_isTold_L_act rfl rfl rfl (by decide +kernel) ⟨(Nat.le_of_ble_eq_true rfl), (Nat.le_of_ble_eq_true rfl)⟩) (fun a U g mk q => ⟨q.1, Pr_cg q.2⟩) (fun U hU hW => ⟨rfl, Pr_mk hE hRc hRr hRo hP hD hS hU hW⟩) rfl hl.1 rfl (lv_room (Nat.le_of_ble_eq_true rfl)) dL_isTold_266 (Nat.le_of_ble_eq_true rfl) (Nat.le_of_ble_eq_true rfl)) hS (fun v9 C H locs wl hv9 hRc hRr hRo hP hD hS => ?_)
      have hv9 := A_wish hv9 hk hoo hko ⟨by omega, by omega⟩ hn hg
      refine lv_iload hx hb dL_isTold_269 (lv_at hl 0 rfl) ?_
      refine lv_icmp_ne (tgt := 278) hx hb dL_isTold_271 (by decide) (fun c_271 => ?_) (fun c_271 => ?_)
      · exfalso; exact c_271 (hv9.elim (fun z => by rw [z.2.1, c_210]) (fun z => by obtain ⟨j, z1, -⟩ := z; have := hwk.2.2.mp (by omega); omega))
      · refine lv_iconst (v := nI 1) hx hb dL_isTold_274 (by decide) ?_
        refine lv_goto (tgt := 279) hx hb dL_isTold_275 (by decide) ?_
        refine W.widen (k := 7) (n := 2033) (Nat.le_of_ble_eq_true rfl) (Nat.le_of_ble_eq_true rfl) ?_
        have hrel : (fun (v9 : Int32) (z9 : (Nat → Nat → Nat) × (Nat → Nat → Nat)) => v9 = nI 1 ∧ (∃ ρ9, LI z9.1 z9.2 ρ9 (q + 1)) ∧ z9.1 20 1 = c 20 1 ∧ z9.1 20 3 = c 20 3) (nI 1) (C, (up2 (up2 r 2 ((8 * k) + oo) ((1 + (v % 9)) ||| ((r 4 2) * 2 ^ 7))) 4 2 ((r 4 2) + 1))) := by refine ⟨rfl, ?_⟩; rcases hv9 with ⟨z1, -, q0, p, N9, ca, hca, hN1, hN2, z3⟩ | ⟨j, z1, -⟩; (rw [z3]; exact ⟨LI_wnew hLI (by omega) hk hoo ⟨by omega, by omega⟩ hg z1 hca hN1 hN2, by rw [hca]; rfl, by rw [hca]; rfl⟩); exact absurd (hwk.2.2.mp (by omega)) (by omega)
        exact W.zret (v := nI 1) (ty := .boolean) hx hb hr (nb_le (by first | exact bN_le _ | decide | omega | assumption)) (fun t ht hW => ⟨⟨_, (C, (up2 (up2 r 2 ((8 * k) + oo) ((1 + (v % 9)) ||| ((r 4 2) * 2 ^ 7))) 4 2 ((r 4 2) + 1))), rfl, hrel, Wr_mk hRc hRr hRo hP hD ht⟩, hS.F ht⟩) hS.2.2 dL_isTold_279
set_option maxHeartbeats 4000000 in
set_option maxRecDepth 100000 in
theorem k_L_isTold_3 (l : Launch) (D : va_G) (G : Nat → Nat) (h0 : Nat) (c r : Nat → Nat → Nat) (o : Nat) (hlt : l.stackTraces = false) (ρ : Nat → Nat → Nat) (q : Nat) (hq : q ≤ 500) (hLI : LI c r ρ q) (hg : c 20 3 = 0) (k oo v : Nat) (hk : k < c 20 1) (hoo : oo < c 20 1) (hko : k ≠ oo) (hv31 : v < 2 ^ 31) : Met l yL_isTold wsL_isTold ({ frames := 9, cells := 4, slots := 24, locals := 154 } : Room) (va_Pc [.ref (G 0), .ref (G 3), .ref (G 4), .ref (G 6), .int (nI 3), .int (nI k), .int (nI oo), .int (nI v)] (fun U => Pr D G h0 c r o U)) (va_Qi (fun (v9 : Int32) (z9 : (Nat → Nat → Nat) × (Nat → Nat → Nat)) => v9 = nI 1 ∧ (∃ ρ9, LI z9.1 z9.2 ρ9 (q + 1)) ∧ z9.1 20 1 = c 20 1 ∧ z9.1 20 3 = c 20 3) (fun (z9 : (Nat → Nat → Nat) × (Nat → Nat → Nat)) t => Wr D G h0 z9.1 z9.2 o t) (fun q => h0 ≤ q)) 4 24 (fun q => h0 ≤ q) := by
  refine Met.ofW (cc := cL_isTold) (maxL := 12) (ret := (some .boolean)) (by decide) rfl ?_
  intro p e s m args below meth cd s₁ B hml hv
  obtain ⟨rfl, hE, wl, hRc, hRr, hRo, hP, hD⟩ := hv
  have hx := B.exec
  have hb := B.bytes
  have hr := B.returns
  have hts := atoms_spec (ws := wsL_isTold) B.pre
  have hown : s.vm.findClass RL = some m.cls := findClass_of_methodNamed B.named
  have hlocks := B.notSynchronized
  have hK := hE.2.1
  have hS : va_S (fun q => h0 ≤ q) s.heap s.heap [] := va_S.rf
  have hl := lv_entry ([.ref (G 0), .ref (G 3), .ref (G 4), .ref (G 6), .int (nI 3), .int (nI k), .int (nI oo), .int (nI v)]) (n := 12) (Nat.le_of_ble_eq_true rfl)
  rw [lg_entry_eq]
  generalize (lg_sl ([.ref (G 0), .ref (G 3), .ref (G 4), .ref (G 6), .int (nI 3), .int (nI k), .int (nI oo), .int (nI v)]) ++ List.replicate (12 - (lg_sl ([.ref (G 0), .ref (G 3), .ref (G 4), .ref (G 6), .int (nI 3), .int (nI k), .int (nI oo), .int (nI v)])).length) Slot.unset).toArray = ls at hl ⊢
  have hl : lv_has ls 12 [(0, .ref (G 0)), (1, .ref (G 3)), (2, .ref (G 4)), (3, .ref (G 6)), (4, .int (nI 3)), (5, .int (nI k)), (6, .int (nI oo)), (7, .int (nI v))] := hl
  obtain ⟨Q, hQ⟩ : ∃ Q, Q = MQ below (va_Qi (fun (v9 : Int32) (z9 : (Nat → Nat → Nat) × (Nat → Nat → Nat)) => v9 = nI 1 ∧ (∃ ρ9, LI z9.1 z9.2 ρ9 (q + 1)) ∧ z9.1 20 1 = c 20 1 ∧ z9.1 20 3 = c 20 3) (fun (z9 : (Nat → Nat → Nat) × (Nat → Nat → Nat)) t => Wr D G h0 z9.1 z9.2 o t) (fun q => h0 ≤ q)) ([.ref (G 0), .ref (G 3), .ref (G 4), .ref (G 6), .int (nI 3), .int (nI k), .int (nI oo), .int (nI v)] : List Value).toArray s 4 24 (fun q => h0 ≤ q) := ⟨_, rfl⟩
  rw [← hQ]
  have hV := hLI.1
  have hI := hV.1
  have hn8 := hLI.2.1
  have hBr := hLI.2.2.1
  have hGs := hLI.2.2.2.2.1
  have hB := IC_B hI
  have hn := IC_n hI
  have hW5 : c 30 0 ≤ 512 := Nat.le_trans hV.2.2.2 (by omega)
  obtain ⟨g13, g14, g16, g17⟩ := hGs.1 k (by omega)
  obtain ⟨g10, g11, g12, g15⟩ := hGs.2 k hk
  obtain ⟨tk, htk⟩ := Sel_ex (v % 4 = 0) 0 (oo + 1)
  have htk2 : tk < c 20 1 + 1 := Sel_lt htk (by omega) (by omega)
  have htk3 : tk ≠ k + 1 := fun z => by rcases Classical.em (v % 4 = 0) with y | y; (have := htk.1 y; omega); have := htk.2 y; omega
  refine lv_iload hx hb dL_isTold_0 (lv_at hl 4 rfl) ?_
  refine lv_iconst (v := nI 1) hx hb dL_isTold_2 (by decide) ?_
  refine n_icmp_ne (tgt := 169) hx hb dL_isTold_3 (by decide) (by decide) (by decide) (fun c_3 => ?_) (fun c_3 => absurd c_3 (by decide))
  refine lv_iload hx hb dL_isTold_169 (lv_at hl 4 rfl) ?_
  refine lv_iconst (v := nI 2) hx hb dL_isTold_171 (by decide) ?_
  refine n_icmp_ne (tgt := 280) hx hb dL_isTold_172 (by decide) (by decide) (by decide) (fun c_172 => ?_) (fun c_172 => absurd c_172 (by decide))
  refine lv_iload hx hb dL_isTold_280 (lv_at hl 4 rfl) ?_
  refine lv_iconst (v := nI 3) hx hb dL_isTold_282 (by decide) ?_
  refine n_icmp_ne (tgt := 347) hx hb dL_isTold_283 (by decide) (by decide) (by decide) (fun c_283 => absurd c_283 (by decide)) (fun c_283 => ?_)
  refine lv_aload_n hx hb dL_isTold_286 rfl (lv_at hl 1 rfl) ?_
  refine lv_bipush (v := nI 8) hx hb dL_isTold_287 (by decide) ?_
  refine lv_iload hx hb dL_isTold_289 (lv_at hl 5 rfl) ?_
  refine n_imul hx hb dL_isTold_291 ?_
  refine lv_iconst (v := nI 2) hx hb dL_isTold_292 (by decide) ?_
  refine n_iadd hx hb dL_isTold_293 ?_
  refine x_iald hx hb hK hP 3 (Q_g hRr) (by first | omega | decide | assumption) (by decide) dL_isTold_294 (v := siI (r 12 k)) (gV_2 _ k) ?_
  refine lv_istore (lv' := [(8, .int (siI (r 12 k))), (0, .ref (G 0)), (1, .ref (G 3)), (2, .ref (G 4)), (3, .ref (G 6)), (4, .int (nI 3)), (5, .int (nI k)), (6, .int (nI oo)), (7, .int (nI v))]) hx hb dL_isTold_295 hl (by decide) rfl (fun ls hl => ?_)
  refine lv_aload_n hx hb dL_isTold_297 rfl (lv_at hl 2 rfl) ?_
  refine lv_bipush (v := nI 8) hx hb dL_isTold_298 (by decide) ?_
  refine lv_iload hx hb dL_isTold_300 (lv_at hl 6 rfl) ?_
  refine n_imul hx hb dL_isTold_302 ?_
  refine lv_iconst (v := nI 2) hx hb dL_isTold_303 (by decide) ?_
  refine n_iadd hx hb dL_isTold_304 ?_
  have J305 : (∀ (H : Heap) (locs : List Loc) (wl : va_W), Rc G c wl → Rr G r wl → Ro G o wl → va_P D vwCl wl H → va_D (fun q => h0 ≤ q) wl → va_S (fun q => h0 ≤ q) s.heap H locs → W p l e (headSpec wsL_isTold ({ frames := 9, cells := 4, slots := 24, locals := 154 } : Room)).room s m ([.ref (G 0), .ref (G 3), .ref (G 4), .ref (G 6), .int (nI 3), .int (nI k), .int (nI oo), .int (nI v)] : List Value).toArray below meth cd H locs 0 0 Q (F0 m 318 ls [.int (siI tk), .int (nI ((8 * k) + 2)), .ref (G 3)])) → W p l e (headSpec wsL_isTold ({ frames := 9, cells := 4, slots := 24, locals := 154 } : Room)).room s m ([.ref (G 0), .ref (G 3), .ref (G 4), .ref (G 6), .int (nI 3), .int (nI k), .int (nI oo), .int (nI v)] : List Value).toArray below meth cd s.heap [] 0 0 Q (F0 m 305 ls [.int (nI ((8 * k) + 2)), .ref (G 3)]) := by
    intro hk305
    refine lv_iload hx hb dL_isTold_305 (lv_at hl 8 rfl) ?_
    refine lv_iconst (v := nI 4) hx hb dL_isTold_307 (by decide) ?_
    refine n_irem hx hb dL_isTold_308 hv31 (by first | omega | decide | assumption) (by decide) ?_
    refine n_if_ne (tgt := 316) hx hb dL_isTold_309 (by decide) (by omega) (fun c_309 => ?_) (fun c_309 => ?_)
    · refine lv_iload hx hb dL_isTold_316 (lv_at hl 7 rfl) ?_
      refine n_top (y := .int (siI tk)) (congrArg Value.int (show nI oo = siI tk from by rw [htk.2 (by omega)]; exact (siI_s _).symm)) ?_
      exact hk305 _ _ _ hRc hRr hRo hP hD hS
    · refine lv_iconst (v := (-1)) hx hb dL_isTold_312 (by decide) ?_
      refine lv_goto (tgt := 318) hx hb dL_isTold_313 (by decide) ?_
      refine n_top (y := .int (siI tk)) (congrArg Value.int (show (-1) = siI tk from by rw [htk.1 (by omega)]; exact siI_0.symm)) ?_
      exact hk305 _ _ _ hRc hRr hRo hP hD hS
  refine J305 (fun H locs wl hRc hRr hRo hP hD hS => ?_)
  refine x_iast (Z := fun wl => Rc G c wl ∧ Rr G (up2 r 12 k tk) wl ∧ Ro G o wl) hx hb hK hP hD hS 3 (Q_g hRr) (by first | omega | decide | assumption) (by decide) dL_isTold_318 ⟨Rc_fr hRc (by decide) (by decide), P_g2 (r := r) (k := k) tk (by first | omega | decide | assumption) hRr, ⟨rfl, rfl, rfl⟩⟩ (fun H locs wl hZ hP hD hS => ?_)
  obtain ⟨hRc, hRr, hRo⟩ := hZ
  refine lv_aload_n hx hb dL_isTold_319 rfl (lv_at hl 1 rfl) ?_
  refine lv_iconst (v := nI 3) hx hb dL_isTold_320 (by decide) ?_
  refine lv_iload hx hb dL_isTold_321 (lv_at hl 6 rfl) ?_
  refine lv_aload_n hx hb dL_isTold_323 rfl (lv_at hl 2 rfl) ?_
  refine lv_bipush (v := nI 8) hx hb dL_isTold_324 (by decide) ?_
  refine lv_iload hx hb dL_isTold_326 (lv_at hl 6 rfl) ?_
  refine n_imul hx hb dL_isTold_328 ?_
  refine lv_iconst (v := nI 2) hx hb dL_isTold_329 (by decide) ?_
  refine n_iadd hx hb dL_isTold_330 ?_
  refine x_iald hx hb hK hP 3 (Q_g hRr) (by first | omega | decide | assumption) (by decide) dL_isTold_331 (v := siI tk) ((gV_2 _ k).trans (congrArg siI (show (up2 r 12 k tk) 12 k = tk from by simp [up2]))) ?_
  refine lv_iconst (v := nI 0) hx hb dL_isTold_332 (by decide) ?_
  refine y_calli (va_SW (As := [.ref (G 0), .int (nI 3), .int (nI k), .int (siI tk), .int (nI 0)]) (rest := []) hx hb hml hown hts (k_L_act_standIn l hlt D G h0 c (up2 r 12 k tk) o (nI k) (siI tk) (nI 0) hI) (vx_cwSW 5 hts gL_isTold_L_act rfl rfl rfl (by decide +kernel) ⟨(Nat.le_of_ble_eq_true rfl), (Nat.le_of_ble_eq_true rfl)⟩) (fun a U g mk q => ⟨q.1, Pr_cg q.2⟩) (fun U hU hW => ⟨rfl, Pr_mk hE hRc hRr hRo hP hD hS hU hW⟩) rfl hl.1 rfl (lv_room (Nat.le_of_ble_eq_true rfl)) dL_isTold_333 (Nat.le_of_ble_eq_true rfl) (Nat.le_of_ble_eq_true rfl)) hS (fun v9 C H locs wl hv9 hRc hRr hRo hP hD hS => ?_)
  have hv9 := A_standIn hv9 hk (by omega) htk3 hn hg
  refine lv_iload hx hb dL_isTold_336 (lv_at hl 0 rfl) ?_
  refine lv_icmp_ne (tgt := 345) hx hb dL_isTold_338 (by decide) (fun c_338 => ?_) (fun c_338 => ?_)
  · exfalso; exact c_338 (by rw [g12]; exact hv9.1)
  · refine lv_iconst (v := nI 1) hx hb dL_isTold_341 (by decide) ?_
    refine lv_goto (tgt := 346) hx hb dL_isTold_342 (by decide) ?_
    refine W.widen (k := 4) (n := 24) (Nat.le_of_ble_eq_true rfl) (Nat.le_of_ble_eq_true rfl) ?_
    rw [hQ]
    have hrel : (fun (v9 : Int32) (z9 : (Nat → Nat → Nat) × (Nat → Nat → Nat)) => v9 = nI 1 ∧ (∃ ρ9, LI z9.1 z9.2 ρ9 (q + 1)) ∧ z9.1 20 1 = c 20 1 ∧ z9.1 20 3 = c 20 3) (nI 1) (C, (up2 r 12 k tk)) := by exact ⟨rfl, by rw [hv9.2]; exact ⟨LI_si hLI hk (by omega) hg, rfl, rfl⟩⟩
    exact W.zret (v := nI 1) (ty := .boolean) hx hb hr (nb_le (by first | exact bN_le _ | decide | omega | assumption)) (fun t ht hW => ⟨⟨_, (C, (up2 r 12 k tk)), rfl, hrel, Wr_mk hRc hRr hRo hP hD ht⟩, hS.F ht⟩) hS.2.2 dL_isTold_346
set_option maxHeartbeats 4000000 in
set_option maxRecDepth 100000 in
theorem k_L_isTold_4 (l : Launch) (D : va_G) (G : Nat → Nat) (h0 : Nat) (c r : Nat → Nat → Nat) (o : Nat) (hlt : l.stackTraces = false) (ρ : Nat → Nat → Nat) (q : Nat) (hq : q ≤ 500) (hLI : LI c r ρ q) (hg : c 20 3 = 0) (k oo v : Nat) (hk : k < c 20 1) (hoo : oo < c 20 1) (hko : k ≠ oo) (hv31 : v < 2 ^ 31) : Met l yL_isTold wsL_isTold ({ frames := 9, cells := 2, slots := 12, locals := 152 } : Room) (va_Pc [.ref (G 0), .ref (G 3), .ref (G 4), .ref (G 6), .int (nI 4), .int (nI k), .int (nI oo), .int (nI v)] (fun U => Pr D G h0 c r o U)) (va_Qi (fun (v9 : Int32) (z9 : (Nat → Nat → Nat) × (Nat → Nat → Nat)) => v9 = nI 1 ∧ (∃ ρ9, LI z9.1 z9.2 ρ9 (q + 1)) ∧ z9.1 20 1 = c 20 1 ∧ z9.1 20 3 = c 20 3) (fun (z9 : (Nat → Nat → Nat) × (Nat → Nat → Nat)) t => Wr D G h0 z9.1 z9.2 o t) (fun q => h0 ≤ q)) 2 12 (fun q => h0 ≤ q) := by
  refine Met.ofW (cc := cL_isTold) (maxL := 12) (ret := (some .boolean)) (by decide) rfl ?_
  intro p e s m args below meth cd s₁ B hml hv
  obtain ⟨rfl, hE, wl, hRc, hRr, hRo, hP, hD⟩ := hv
  have hx := B.exec
  have hb := B.bytes
  have hr := B.returns
  have hts := atoms_spec (ws := wsL_isTold) B.pre
  have hown : s.vm.findClass RL = some m.cls := findClass_of_methodNamed B.named
  have hlocks := B.notSynchronized
  have hK := hE.2.1
  have hS : va_S (fun q => h0 ≤ q) s.heap s.heap [] := va_S.rf
  have hl := lv_entry ([.ref (G 0), .ref (G 3), .ref (G 4), .ref (G 6), .int (nI 4), .int (nI k), .int (nI oo), .int (nI v)]) (n := 12) (Nat.le_of_ble_eq_true rfl)
  rw [lg_entry_eq]
  generalize (lg_sl ([.ref (G 0), .ref (G 3), .ref (G 4), .ref (G 6), .int (nI 4), .int (nI k), .int (nI oo), .int (nI v)]) ++ List.replicate (12 - (lg_sl ([.ref (G 0), .ref (G 3), .ref (G 4), .ref (G 6), .int (nI 4), .int (nI k), .int (nI oo), .int (nI v)])).length) Slot.unset).toArray = ls at hl ⊢
  have hl : lv_has ls 12 [(0, .ref (G 0)), (1, .ref (G 3)), (2, .ref (G 4)), (3, .ref (G 6)), (4, .int (nI 4)), (5, .int (nI k)), (6, .int (nI oo)), (7, .int (nI v))] := hl
  obtain ⟨Q, hQ⟩ : ∃ Q, Q = MQ below (va_Qi (fun (v9 : Int32) (z9 : (Nat → Nat → Nat) × (Nat → Nat → Nat)) => v9 = nI 1 ∧ (∃ ρ9, LI z9.1 z9.2 ρ9 (q + 1)) ∧ z9.1 20 1 = c 20 1 ∧ z9.1 20 3 = c 20 3) (fun (z9 : (Nat → Nat → Nat) × (Nat → Nat → Nat)) t => Wr D G h0 z9.1 z9.2 o t) (fun q => h0 ≤ q)) ([.ref (G 0), .ref (G 3), .ref (G 4), .ref (G 6), .int (nI 4), .int (nI k), .int (nI oo), .int (nI v)] : List Value).toArray s 2 12 (fun q => h0 ≤ q) := ⟨_, rfl⟩
  rw [← hQ]
  have hV := hLI.1
  have hI := hV.1
  have hn8 := hLI.2.1
  have hBr := hLI.2.2.1
  have hGs := hLI.2.2.2.2.1
  have hB := IC_B hI
  have hn := IC_n hI
  have hW5 : c 30 0 ≤ 512 := Nat.le_trans hV.2.2.2 (by omega)
  obtain ⟨g13, g14, g16, g17⟩ := hGs.1 k (by omega)
  obtain ⟨g10, g11, g12, g15⟩ := hGs.2 k hk
  obtain ⟨th, hth⟩ := Sel_ex (v % 3 = 0) 1 0
  have hth2 : th < 2 := Sel_lt hth (by decide) (by decide)
  refine lv_iload hx hb dL_isTold_0 (lv_at hl 4 rfl) ?_
  refine lv_iconst (v := nI 1) hx hb dL_isTold_2 (by decide) ?_
  refine n_icmp_ne (tgt := 169) hx hb dL_isTold_3 (by decide) (by decide) (by decide) (fun c_3 => ?_) (fun c_3 => absurd c_3 (by decide))
  refine lv_iload hx hb dL_isTold_169 (lv_at hl 4 rfl) ?_
  refine lv_iconst (v := nI 2) hx hb dL_isTold_171 (by decide) ?_
  refine n_icmp_ne (tgt := 280) hx hb dL_isTold_172 (by decide) (by decide) (by decide) (fun c_172 => ?_) (fun c_172 => absurd c_172 (by decide))
  refine lv_iload hx hb dL_isTold_280 (lv_at hl 4 rfl) ?_
  refine lv_iconst (v := nI 3) hx hb dL_isTold_282 (by decide) ?_
  refine n_icmp_ne (tgt := 347) hx hb dL_isTold_283 (by decide) (by decide) (by decide) (fun c_283 => ?_) (fun c_283 => absurd c_283 (by decide))
  refine lv_aload_n hx hb dL_isTold_347 rfl (lv_at hl 1 rfl) ?_
  refine lv_bipush (v := nI 8) hx hb dL_isTold_348 (by decide) ?_
  refine lv_iload hx hb dL_isTold_350 (lv_at hl 5 rfl) ?_
  refine n_imul hx hb dL_isTold_352 ?_
  refine lv_iconst (v := nI 3) hx hb dL_isTold_353 (by decide) ?_
  refine n_iadd hx hb dL_isTold_354 ?_
  refine x_iald hx hb hK hP 3 (Q_g hRr) (by first | omega | decide | assumption) (by decide) dL_isTold_355 (v := nI (r 13 k)) (gV_j _ (k := k) (j := 3) (by decide) (by decide)) ?_
  refine lv_istore (lv' := [(8, .int (nI (r 13 k))), (0, .ref (G 0)), (1, .ref (G 3)), (2, .ref (G 4)), (3, .ref (G 6)), (4, .int (nI 4)), (5, .int (nI k)), (6, .int (nI oo)), (7, .int (nI v))]) hx hb dL_isTold_356 hl (by decide) rfl (fun ls hl => ?_)
  refine lv_aload_n hx hb dL_isTold_358 rfl (lv_at hl 2 rfl) ?_
  refine lv_bipush (v := nI 8) hx hb dL_isTold_359 (by decide) ?_
  refine lv_iload hx hb dL_isTold_361 (lv_at hl 6 rfl) ?_
  refine n_imul hx hb dL_isTold_363 ?_
  refine lv_iconst (v := nI 3) hx hb dL_isTold_364 (by decide) ?_
  refine n_iadd hx hb dL_isTold_365 ?_
  have J366 : (∀ (H : Heap) (locs : List Loc) (wl : va_W), Rc G c wl → Rr G r wl → Ro G o wl → va_P D vwCl wl H → va_D (fun q => h0 ≤ q) wl → va_S (fun q => h0 ≤ q) s.heap H locs → W p l e (headSpec wsL_isTold ({ frames := 9, cells := 2, slots := 12, locals := 152 } : Room)).room s m ([.ref (G 0), .ref (G 3), .ref (G 4), .ref (G 6), .int (nI 4), .int (nI k), .int (nI oo), .int (nI v)] : List Value).toArray below meth cd H locs 0 0 Q (F0 m 378 ls [.int (nI th), .int (nI ((8 * k) + 3)), .ref (G 3)])) → W p l e (headSpec wsL_isTold ({ frames := 9, cells := 2, slots := 12, locals := 152 } : Room)).room s m ([.ref (G 0), .ref (G 3), .ref (G 4), .ref (G 6), .int (nI 4), .int (nI k), .int (nI oo), .int (nI v)] : List Value).toArray below meth cd s.heap [] 0 0 Q (F0 m 366 ls [.int (nI ((8 * k) + 3)), .ref (G 3)]) := by
    intro hk366
    refine lv_iload hx hb dL_isTold_366 (lv_at hl 8 rfl) ?_
    refine lv_iconst (v := nI 3) hx hb dL_isTold_368 (by decide) ?_
    refine n_irem hx hb dL_isTold_369 hv31 (by first | omega | decide | assumption) (by decide) ?_
    refine n_if_ne (tgt := 377) hx hb dL_isTold_370 (by decide) (by omega) (fun c_370 => ?_) (fun c_370 => ?_)
    · refine lv_iconst (v := nI 0) hx hb dL_isTold_377 (by decide) ?_
      refine n_top (y := .int (nI th)) (congrArg Value.int (show nI 0 = nI th from by exact congrArg nI (hth.2 (by omega)).symm)) ?_
      exact hk366 _ _ _ hRc hRr hRo hP hD hS
    · refine lv_iconst (v := nI 1) hx hb dL_isTold_373 (by decide) ?_
      refine lv_goto (tgt := 378) hx hb dL_isTold_374 (by decide) ?_
      refine n_top (y := .int (nI th)) (congrArg Value.int (show nI 1 = nI th from by exact congrArg nI (hth.1 (by omega)).symm)) ?_
      exact hk366 _ _ _ hRc hRr hRo hP hD hS
  refine J366 (fun H locs wl hRc hRr hRo hP hD hS => ?_)
  refine x_iast (Z := fun wl => Rc G c wl ∧ Rr G (up2 r 13 k th) wl ∧ Ro G o wl) hx hb hK hP hD hS 3 (Q_g hRr) (by first | omega | decide | assumption) (by decide) dL_isTold_378 ⟨Rc_fr hRc (by decide) (by decide), P_g (r := r) (k := k) (j := 3) th (by decide) (by decide) (by first | omega | decide | assumption) hRr, ⟨rfl, rfl, rfl⟩⟩ (fun H locs wl hZ hP hD hS => ?_)
  obtain ⟨hRc, hRr, hRo⟩ := hZ
  refine lv_aload_n hx hb dL_isTold_379 rfl (lv_at hl 1 rfl) ?_
  refine lv_iconst (v := nI 4) hx hb dL_isTold_380 (by decide) ?_
  refine lv_iload hx hb dL_isTold_381 (lv_at hl 6 rfl) ?_
  refine lv_aload_n hx hb dL_isTold_383 rfl (lv_at hl 2 rfl) ?_
  refine lv_bipush (v := nI 8) hx hb dL_isTold_384 (by decide) ?_
  refine lv_iload hx hb dL_isTold_386 (lv_at hl 6 rfl) ?_
  refine n_imul hx hb dL_isTold_388 ?_
  refine lv_iconst (v := nI 3) hx hb dL_isTold_389 (by decide) ?_
  refine n_iadd hx hb dL_isTold_390 ?_
  refine x_iald hx hb hK hP 3 (Q_g hRr) (by first | omega | decide | assumption) (by decide) dL_isTold_391 (v := nI th) ((gV_j _ (k := k) (j := 3) (by decide) (by decide)).trans (congrArg nI (show (up2 r 13 k th) 13 k = th from by simp [up2]))) ?_
  refine lv_iconst (v := nI 0) hx hb dL_isTold_392 (by decide) ?_
  refine y_calli (va_SW (As := [.ref (G 0), .int (nI 4), .int (nI k), .int (nI th), .int (nI 0)]) (rest := []) hx hb hml hown hts (k_L_act_hold l hlt D G h0 c (up2 r 13 k th) o (nI k) (nI 0) th (by omega) hI) (vx_cwSW 5 hts gL_isTold_L_act rfl rfl rfl (by decide +kernel) ⟨(Nat.le_of_ble_eq_true rfl), (Nat.le_of_ble_eq_true rfl)⟩) (fun a U g mk q => ⟨q.1, Pr_cg q.2⟩) (fun U hU hW => ⟨rfl, Pr_mk hE hRc hRr hRo hP hD hS hU hW⟩) rfl hl.1 rfl (lv_room (Nat.le_of_ble_eq_true rfl)) dL_isTold_393 (Nat.le_of_ble_eq_true rfl) (Nat.le_of_ble_eq_true rfl)) hS (fun v9 C H locs wl hv9 hRc hRr hRo hP hD hS => ?_)
  have hv9 := A_hold hv9 hk hn hg
  refine lv_iload hx hb dL_isTold_396 (lv_at hl 0 rfl) ?_
  refine lv_icmp_ne (tgt := 405) hx hb dL_isTold_398 (by decide) (fun c_398 => ?_) (fun c_398 => ?_)
  · exfalso; exact c_398 (by rw [g13]; exact hv9.1)
  · refine lv_iconst (v := nI 1) hx hb dL_isTold_401 (by decide) ?_
    refine lv_goto (tgt := 406) hx hb dL_isTold_402 (by decide) ?_
    refine W.widen (k := 2) (n := 12) (Nat.le_of_ble_eq_true rfl) (Nat.le_of_ble_eq_true rfl) ?_
    rw [hQ]
    have hrel : (fun (v9 : Int32) (z9 : (Nat → Nat → Nat) × (Nat → Nat → Nat)) => v9 = nI 1 ∧ (∃ ρ9, LI z9.1 z9.2 ρ9 (q + 1)) ∧ z9.1 20 1 = c 20 1 ∧ z9.1 20 3 = c 20 3) (nI 1) (C, (up2 r 13 k th)) := by exact ⟨rfl, by rw [hv9.2]; exact ⟨LI_hold hLI hk (by omega) hg, rfl, rfl⟩⟩
    exact W.zret (v := nI 1) (ty := .boolean) hx hb hr (nb_le (by first | exact bN_le _ | decide | omega | assumption)) (fun t ht hW => ⟨⟨_, (C, (up2 r 13 k th)), rfl, hrel, Wr_mk hRc hRr hRo hP hD ht⟩, hS.F ht⟩) hS.2.2 dL_isTold_406
