theorem up2_same (x : Nat → Nat → Nat) (a i : Nat) : up2 x a i (x a i) = x := by
  funext b j
  by_cases h : b = a ∧ j = i
  · obtain ⟨rfl, rfl⟩ := h
    exact up2_s ..
  · exact up_off h
set_option maxHeartbeats 4000000 in
set_option maxRecDepth 100000 in
theorem k_L_isTold_4 (l : Launch) (D : va_G) (G : Nat → Nat) (h0 : Nat) (c r : Nat → Nat → Nat) (o : Nat) (ρ : Nat → Nat → Nat) (q : Nat) (hq : q ≤ 500) (hLI : LI c r ρ q) (hg : c 20 3 = 0) (k oo v : Nat) (hk : k < c 20 1) (hoo : oo < c 20 1) (hko : k ≠ oo) (hv31 : v < 2 ^ 31) : Met l yL_isTold wsL_isTold ({ frames := 9, cells := 2, slots := 12, locals := 152 } : Room) (va_Pc [.ref (G 0), .ref (G 3), .ref (G 4), .ref (G 6), .int (nI 4), .int (nI k), .int (nI oo), .int (nI v)] (fun U => Pr D G h0 c r o U)) (va_Qi (fun (v9 : Int32) (z9 : (Nat → Nat → Nat) × (Nat → Nat → Nat)) => v9 = nI 1 ∧ ∃ ρ9, LI z9.1 z9.2 ρ9 (q + 1)) (fun (z9 : (Nat → Nat → Nat) × (Nat → Nat → Nat)) t => Wr D G h0 z9.1 z9.2 o t) (fun q => h0 ≤ q)) 2 12 (fun q => h0 ≤ q) := by
  refine Met.ofW (cc := cL_isTold) (maxL := 12) (ret := (some .boolean)) (by decide) rfl ?_
  intro p e s m args below meth cd s₁ B hml hv
  obtain ⟨rfl, hE, wl, hRc, hRr, hRo, hP, hD⟩ := hv
  have hx := B.exec
  have hb := B.bytes
  have hr := B.returns
  have hts := atoms_spec (ws := wsL_isTold) B.pre
  have hown : s.vm.findClass RL = some m.cls := findClass_of_methodNamed B.named
  have hlocks := B.notSynchronized
  have hK := hE.2.1
  have hS : va_S (fun q => h0 ≤ q) s.heap s.heap [] := va_S.rf
  have hl := lv_entry ([.ref (G 0), .ref (G 3), .ref (G 4), .ref (G 6), .int (nI 4), .int (nI k), .int (nI oo), .int (nI v)]) (n := 12) (Nat.le_of_ble_eq_true rfl)
  rw [lg_entry_eq]
  generalize (lg_sl ([.ref (G 0), .ref (G 3), .ref (G 4), .ref (G 6), .int (nI 4), .int (nI k), .int (nI oo), .int (nI v)]) ++ List.replicate (12 - (lg_sl ([.ref (G 0), .ref (G 3), .ref (G 4), .ref (G 6), .int (nI 4), .int (nI k), .int (nI oo), .int (nI v)])).length) Slot.unset).toArray = ls at hl ⊢
  have hl : lv_has ls 12 [(0, .ref (G 0)), (1, .ref (G 3)), (2, .ref (G 4)), (3, .ref (G 6)), (4, .int (nI 4)), (5, .int (nI k)), (6, .int (nI oo)), (7, .int (nI v))] := hl
  obtain ⟨Q, hQ⟩ : ∃ Q, Q = MQ below (va_Qi (fun (v9 : Int32) (z9 : (Nat → Nat → Nat) × (Nat → Nat → Nat)) => v9 = nI 1 ∧ ∃ ρ9, LI z9.1 z9.2 ρ9 (q + 1)) (fun (z9 : (Nat → Nat → Nat) × (Nat → Nat → Nat)) t => Wr D G h0 z9.1 z9.2 o t) (fun q => h0 ≤ q)) ([.ref (G 0), .ref (G 3), .ref (G 4), .ref (G 6), .int (nI 4), .int (nI k), .int (nI oo), .int (nI v)] : List Value).toArray s 2 12 (fun q => h0 ≤ q) := ⟨_, rfl⟩
  rw [← hQ]
  have hV := hLI.1
  have hI := hV.1
  have hn8 := hLI.2.1
  have hBr := hLI.2.2.1
  have hGs := hLI.2.2.2.2.1
  have hB := IC_B hI
  have hn := IC_n hI
  have hW5 : c 30 0 ≤ 512 := Nat.le_trans hV.2.2.2 (by omega)
  obtain ⟨g13, g14, g16, g17⟩ := hGs.1 k (by omega)
  obtain ⟨g10, g11, g12, g15⟩ := hGs.2 k hk
  obtain ⟨th, hth⟩ := Sel_ex (v % 3 = 0) 1 0
  have hth2 : th < 2 := Sel_lt hth (by decide) (by decide)
  refine lv_iload hx hb dL_isTold_0 (lv_at hl 4 rfl) ?_
  refine lv_iconst (v := nI 1) hx hb dL_isTold_2 (by decide) ?_
  refine n_icmp_ne (tgt := 169) hx hb dL_isTold_3 (by decide) (by decide) (by decide) (fun c_3 => ?_) (fun c_3 => absurd c_3 (by decide))
  refine lv_iload hx hb dL_isTold_169 (lv_at hl 4 rfl) ?_
  refine lv_iconst (v := nI 2) hx hb dL_isTold_171 (by decide) ?_
  refine n_icmp_ne (tgt := 280) hx hb dL_isTold_172 (by decide) (by decide) (by decide) (fun c_172 => ?_) (fun c_172 => absurd c_172 (by decide))
  refine lv_iload hx hb dL_isTold_280 (lv_at hl 4 rfl) ?_
  refine lv_iconst (v := nI 3) hx hb dL_isTold_282 (by decide) ?_
  refine n_icmp_ne (tgt := 347) hx hb dL_isTold_283 (by decide) (by decide) (by decide) (fun c_283 => ?_) (fun c_283 => absurd c_283 (by decide))
  refine lv_aload_n hx hb dL_isTold_347 rfl (lv_at hl 1 rfl) ?_
  refine lv_bipush (v := nI 8) hx hb dL_isTold_348 (by decide) ?_
  refine lv_iload hx hb dL_isTold_350 (lv_at hl 5 rfl) ?_
  refine n_imul hx hb dL_isTold_352 ?_
  refine lv_iconst (v := nI 3) hx hb dL_isTold_353 (by decide) ?_
  refine n_iadd hx hb dL_isTold_354 ?_
  refine x_iald hx hb hK hP 3 (Q_g hRr) (by first | omega | decide | assumption) (by decide) dL_isTold_355 (v := nI (r 13 k)) (gV_j _ (k := k) (j := 3) (by decide) (by decide)) ?_
  refine lv_istore (lv' := [(8, .int (nI (r 13 k))), (0, .ref (G 0)), (1, .ref (G 3)), (2, .ref (G 4)), (3, .ref (G 6)), (4, .int (nI 4)), (5, .int (nI k)), (6, .int (nI oo)), (7, .int (nI v))]) hx hb dL_isTold_356 hl (by decide) rfl (fun ls hl => ?_)
  refine lv_aload_n hx hb dL_isTold_358 rfl (lv_at hl 2 rfl) ?_
  refine lv_bipush (v := nI 8) hx hb dL_isTold_359 (by decide) ?_
  refine lv_iload hx hb dL_isTold_361 (lv_at hl 6 rfl) ?_
  refine n_imul hx hb dL_isTold_363 ?_
  refine lv_iconst (v := nI 3) hx hb dL_isTold_364 (by decide) ?_
  refine n_iadd hx hb dL_isTold_365 ?_
  have J366 : (∀ (H : Heap) (locs : List Loc) (wl : va_W), Rc G c wl → Rr G r wl → Ro G o wl → va_P D vwCl wl H → va_D (fun q => h0 ≤ q) wl → va_S (fun q => h0 ≤ q) s.heap H locs → W p l e (headSpec wsL_isTold ({ frames := 9, cells := 2, slots := 12, locals := 152 } : Room)).room s m ([.ref (G 0), .ref (G 3), .ref (G 4), .ref (G 6), .int (nI 4), .int (nI k), .int (nI oo), .int (nI v)] : List Value).toArray below meth cd H locs 0 0 Q (F0 m 378 ls [.int (nI th), .int (nI ((8 * k) + 3)), .ref (G 3)])) → W p l e (headSpec wsL_isTold ({ frames := 9, cells := 2, slots := 12, locals := 152 } : Room)).room s m ([.ref (G 0), .ref (G 3), .ref (G 4), .ref (G 6), .int (nI 4), .int (nI k), .int (nI oo), .int (nI v)] : List Value).toArray below meth cd H locs 0 0 Q (F0 m 366 ls [.int (nI ((8 * k) + 3)), .ref (G 3)]) := by
    intro hk366
    refine lv_iload hx hb dL_isTold_366 (lv_at hl 8 rfl) ?_
    refine lv_iconst (v := nI 3) hx hb dL_isTold_368 (by decide) ?_
    refine n_irem hx hb dL_isTold_369 hv31 (by first | omega | decide | assumption) (by decide) ?_
    refine n_if_ne (tgt := 377) hx hb dL_isTold_370 (by decide) (by omega) (fun c_370 => ?_) (fun c_370 => ?_)
    · refine lv_iconst (v := nI 0) hx hb dL_isTold_377 (by decide) ?_
      refine n_top (y := .int (nI th)) (congrArg Value.int (show nI 0 = nI th from by exact congrArg nI (hth.2 (by omega)).symm)) ?_
      exact hk366 _ _ _ hRc hRr hRo hP hD hS
    · refine lv_iconst (v := nI 1) hx hb dL_isTold_373 (by decide) ?_
      refine lv_goto (tgt := 378) hx hb dL_isTold_374 (by decide) ?_
      refine n_top (y := .int (nI th)) (congrArg Value.int (show nI 1 = nI th from by exact congrArg nI (hth.1 (by omega)).symm)) ?_
      exact hk366 _ _ _ hRc hRr hRo hP hD hS
  refine J366 (fun H locs wl hRc hRr hRo hP hD hS => ?_)
  refine x_iast (Z := fun wl => Rc G c wl ∧ Rr G (up2 r 13 k th) wl ∧ Ro G o wl) hx hb hK hP hD hS 3 (Q_g hRr) (by first | omega | decide | assumption) (by decide) dL_isTold_378 ⟨Rc_fr hRc (by decide) (by decide), P_g (r := r) (k := k) (j := 3) th (by decide) (by decide) (by first | omega | decide | assumption) hRr, ⟨rfl, rfl, rfl⟩⟩ (fun H locs wl hZ hP hD hS => ?_)
  obtain ⟨hRc, hRr, hRo⟩ := hZ
  refine lv_aload_n hx hb dL_isTold_379 rfl (lv_at hl 1 rfl) ?_
  refine lv_iconst (v := nI 4) hx hb dL_isTold_380 (by decide) ?_
  refine lv_iload hx hb dL_isTold_381 (lv_at hl 6 rfl) ?_
  refine lv_aload_n hx hb dL_isTold_383 rfl (lv_at hl 2 rfl) ?_
  refine lv_bipush (v := nI 8) hx hb dL_isTold_384 (by decide) ?_
  refine lv_iload hx hb dL_isTold_386 (lv_at hl 6 rfl) ?_
  refine n_imul hx hb dL_isTold_388 ?_
  refine lv_iconst (v := nI 3) hx hb dL_isTold_389 (by decide) ?_
  refine n_iadd hx hb dL_isTold_390 ?_
  refine x_iald hx hb hK hP 3 (Q_g hRr) (by first | omega | decide | assumption) (by decide) dL_isTold_391 (v := nI th) ((gV_j _ (k := k) (j := 3) (by decide) (by decide)).trans (congrArg nI (show (up2 r 13 k th) 13 k = th from by simp [up2]))) ?_
  refine lv_iconst (v := nI 0) hx hb dL_isTold_392 (by decide) ?_
  refine y_calli (va_SW (As := [.ref (G 0), .int (nI 4), .int (nI k), .int (nI th), .int (nI 0)]) (rest := []) hx hb hml hown hts (k_L_act_hold l hlt D G h0 c (up2 r 13 k th) o (nI k) (nI 0) th (by omega) hI) (vx_cwSW 5 hts gL_isTold_L_act rfl rfl rfl (by decide +kernel) ⟨(Nat.le_of_ble_eq_true rfl), (Nat.le_of_ble_eq_true rfl)⟩) (fun a U g mk q => ⟨q.1, Pr_cg q.2⟩) (fun U hU hW => ⟨rfl, Pr_mk hE hRc hRr hRo hP hD hS hU hW⟩) rfl hl.1 rfl (lv_room (Nat.le_of_ble_eq_true rfl)) dL_isTold_393 (Nat.le_of_ble_eq_true rfl) (Nat.le_of_ble_eq_true rfl)) hS (fun v9 C H locs wl hv9 hRc hRr hRo hP hD hS => ?_)
  have hv9 := A_hold hv9 hk hn hg
  refine n_top (y := .int v9) (congrArg Value.int hv9) ?_
  refine lv_iload hx hb dL_isTold_396 (lv_at hl 0 rfl) ?_
  refine lv_icmp_ne (tgt := 405) hx hb dL_isTold_398 (by decide) (fun c_398 => ?_) (fun c_398 => ?_)
  · exfalso; exact c_398 (by rw [g13]; exact hv9.1)
  · refine lv_iconst (v := nI 1) hx hb dL_isTold_401 (by decide) ?_
    refine lv_goto (tgt := 406) hx hb dL_isTold_402 (by decide) ?_
    refine W.widen (k := 2) (n := 12) (Nat.le_of_ble_eq_true rfl) (Nat.le_of_ble_eq_true rfl) ?_
    rw [hQ]
    have hrel : (fun (v9 : Int32) (z9 : (Nat → Nat → Nat) × (Nat → Nat → Nat)) => v9 = nI 1 ∧ ∃ ρ9, LI z9.1 z9.2 ρ9 (q + 1)) (nI 1) (C, (up2 r 13 k th)) := by exact ⟨rfl, by rw [hv9.2]; exact LI_hold hLI hk (by omega) hg⟩
    exact W.zret (v := nI 1) (ty := .boolean) hx hb hr (nb_le (by first | exact bN_le _ | decide | omega | assumption)) (fun t ht hW => ⟨⟨_, (C, (up2 r 13 k th)), rfl, hrel, Wr_mk hRc hRr hRo hP hD ht⟩, hS.F ht⟩) hS.2.2 dL_isTold_406
