/-! what all adds up -/
noncomputable def allS (c : Nat → Nat → Nat) (h : Int64) (k : Nat) : Int64 := (((((1000003 : Int64) * h) + (nI (c 9 k)).toInt64) + ((7 : Int64) * (nI (c 3 k)).toInt64)) + ((257 : Int64) * (nI (c 4 k)).toInt64)) + ((65537 : Int64) * (siI (if c 9 k = 0 then fP (awC c k) (c 20 1) else 0)).toInt64)
noncomputable def all0 (c : Nat → Nat → Nat) : Int64 := (((((nI (c 20 1)).toInt64 + ((31 : Int64) * (nI (c 20 6)).toInt64)) + ((1009 : Int64) * (nI (mk (fun w => c 9 w = 2) (c 20 1))).toInt64)) + ((65537 : Int64) * (nI (canC c)).toInt64))) + (if c 20 3 = 0 then 0 else 3)
noncomputable def allI (c : Nat → Nat → Nat) : Nat → Int64
  | 0 => all0 c
  | k + 1 => allS c (allI c k) k
set_option maxHeartbeats 4000000 in
set_option maxRecDepth 100000 in
theorem k_L_all (l : Launch) (D : va_G) (G : Nat → Nat) (h0 : Nat) (c r : Nat → Nat → Nat) (o : Nat) (hI : IC c) : Met l yL_all wsL_all ({ frames := 4, cells := 0, slots := 0, locals := 90 } : Room) (va_Pc [.ref (G 0)] (fun U => Pr D G h0 c r o U)) (va_Ql (fun (v9 : Int64) (_ : Unit) => v9 = allI c (c 20 1)) (fun _ t => Wr D G h0 c r o t) (fun q => h0 ≤ q)) 0 0 (fun q => h0 ≤ q) := by
  refine Met.ofW (cc := cL_all) (maxL := 4) (ret := (some .long)) (by decide) rfl ?_
  intro p e s m args below meth cd s₁ B hml hv
  obtain ⟨rfl, hE, wl, hRc, hRr, hRo, hP, hD⟩ := hv
  have hx := B.exec
  have hb := B.bytes
  have hr := B.returns
  have hts := atoms_spec (ws := wsL_all) B.pre
  have hown : s.vm.findClass RL = some m.cls := findClass_of_methodNamed B.named
  have hlocks := B.notSynchronized
  have hK := hE.2.1
  have hS : va_S (fun q => h0 ≤ q) s.heap s.heap [] := va_S.rf
  have hl := lv_entry ([.ref (G 0)]) (n := 4) (Nat.le_of_ble_eq_true rfl)
  rw [lg_entry_eq]
  generalize (lg_sl ([.ref (G 0)]) ++ List.replicate (4 - (lg_sl ([.ref (G 0)])).length) Slot.unset).toArray = ls at hl ⊢
  have hl : lv_has ls 4 [(0, .ref (G 0))] := hl
  obtain ⟨Q, hQ⟩ : ∃ Q, Q = MQ below (va_Ql (fun (v9 : Int64) (_ : Unit) => v9 = allI c (c 20 1)) (fun _ t => Wr D G h0 c r o t) (fun q => h0 ≤ q)) ([.ref (G 0)] : List Value).toArray s 0 0 (fun q => h0 ≤ q) := ⟨_, rfl⟩
  rw [← hQ]
  have hB := IC_B hI
  have hn := IC_n hI
  have ho := IC_o hI
  refine lv_aload_n hx hb dL_all_0 rfl (lv_at hl 0 rfl) ?_
  refine y_calli (va_runV (As := []) (rest := []) ⟨hx, hb, hml, hown, hts⟩ (k_X2_units l D G h0 c r o ) (cwV 0 hts gL_all_X2_units rfl rfl rfl (by decide +kernel) ⟨Nat.le_of_ble_eq_true rfl, Nat.le_of_ble_eq_true rfl⟩) ⟨fun a U g mk q => ⟨q.1, Pr_cg q.2⟩, va_recv (ci := 3) (q0 := 0) hK hP rfl (Q_o hRc), fun U hU hW => ⟨rfl, Pr_mk hE hRc hRr hRo hP hD hS hU hW⟩⟩ rfl rfl hl.1 rfl (lv_room (Nat.le_of_ble_eq_true rfl)) dL_all_1 ⟨Nat.le_of_ble_eq_true rfl, Nat.le_of_ble_eq_true rfl⟩) hS (fun v9 _ H locs wl hv9 hRc hRr hRo hP hD hS => ?_)
  refine n_top (y := .int (nI (c 20 1))) (congrArg Value.int hv9) ?_
  clear hv9 v9
  refine lv_i2l (v := (nI (c 20 1)).toInt64) hx hb dL_all_4 rfl ?_
  refine lv_ldc2 (v := 31) hx hb hown (hts (.constantLong RL 65 31) (by decide +kernel)) dL_all_5 ?_
  refine lv_aload_n hx hb dL_all_8 rfl (lv_at hl 0 rfl) ?_
  refine y_calli (va_runV (As := []) (rest := [.long 31, .long ((nI (c 20 1)).toInt64)]) ⟨hx, hb, hml, hown, hts⟩ (k_X2_bar l D G h0 c r o ) (cwV 0 hts gL_all_X2_bar rfl rfl rfl (by decide +kernel) ⟨Nat.le_of_ble_eq_true rfl, Nat.le_of_ble_eq_true rfl⟩) ⟨fun a U g mk q => ⟨q.1, Pr_cg q.2⟩, va_recv (ci := 3) (q0 := 0) hK hP rfl (Q_o hRc), fun U hU hW => ⟨rfl, Pr_mk hE hRc hRr hRo hP hD hS hU hW⟩⟩ rfl rfl hl.1 rfl (lv_room (Nat.le_of_ble_eq_true rfl)) dL_all_9 ⟨Nat.le_of_ble_eq_true rfl, Nat.le_of_ble_eq_true rfl⟩) hS (fun v9 _ H locs wl hv9 hRc hRr hRo hP hD hS => ?_)
  refine n_top (y := .int (nI (c 20 6))) (congrArg Value.int hv9) ?_
  clear hv9 v9
  refine lv_i2l (v := (nI (c 20 6)).toInt64) hx hb dL_all_12 rfl ?_
  refine lv_lmul hx hb dL_all_13 ?_
  refine lv_ladd hx hb dL_all_14 ?_
  refine lv_ldc2 (v := 1009) hx hb hown (hts (.constantLong RL 70 1009) (by decide +kernel)) dL_all_15 ?_
  refine lv_aload_n hx hb dL_all_18 rfl (lv_at hl 0 rfl) ?_
  refine y_calli (va_runV (As := []) (rest := [.long 1009, .long (((nI (c 20 1)).toInt64) + (31 * ((nI (c 20 6)).toInt64)))]) ⟨hx, hb, hml, hown, hts⟩ (k_X2_ready l D G h0 c r o hI) (cwV 0 hts gL_all_X2_ready rfl rfl rfl (by decide +kernel) ⟨Nat.le_of_ble_eq_true rfl, Nat.le_of_ble_eq_true rfl⟩) ⟨fun a U g mk q => ⟨q.1, Pr_cg q.2⟩, va_recv (ci := 3) (q0 := 0) hK hP rfl (Q_o hRc), fun U hU hW => ⟨rfl, Pr_mk hE hRc hRr hRo hP hD hS hU hW⟩⟩ rfl rfl hl.1 rfl (lv_room (Nat.le_of_ble_eq_true rfl)) dL_all_19 ⟨Nat.le_of_ble_eq_true rfl, Nat.le_of_ble_eq_true rfl⟩) hS (fun v9 _ H locs wl hv9 hRc hRr hRo hP hD hS => ?_)
  refine n_top (y := .int (nI (mk (fun w => c 9 w = 2) (c 20 1)))) (congrArg Value.int hv9) ?_
  clear hv9 v9
  refine lv_i2l (v := (nI (mk (fun w => c 9 w = 2) (c 20 1))).toInt64) hx hb dL_all_22 rfl ?_
  refine lv_lmul hx hb dL_all_23 ?_
  refine lv_ladd hx hb dL_all_24 ?_
  refine lv_ldc2 (v := 65537) hx hb hown (hts (.constantLong RL 75 65537) (by decide +kernel)) dL_all_25 ?_
  refine lv_aload_n hx hb dL_all_28 rfl (lv_at hl 0 rfl) ?_
  refine y_calli (va_runV (As := []) (rest := [.long 65537, .long ((((nI (c 20 1)).toInt64) + (31 * ((nI (c 20 6)).toInt64))) + (1009 * ((nI (mk (fun w => c 9 w = 2) (c 20 1))).toInt64)))]) ⟨hx, hb, hml, hown, hts⟩ (k_X2_canRun l D G h0 c r o hI) (cwV 0 hts gL_all_X2_canRun rfl rfl rfl (by decide +kernel) ⟨Nat.le_of_ble_eq_true rfl, Nat.le_of_ble_eq_true rfl⟩) ⟨fun a U g mk q => ⟨q.1, Pr_cg q.2⟩, va_recv (ci := 3) (q0 := 0) hK hP rfl (Q_o hRc), fun U hU hW => ⟨rfl, Pr_mk hE hRc hRr hRo hP hD hS hU hW⟩⟩ rfl rfl hl.1 rfl (lv_room (Nat.le_of_ble_eq_true rfl)) dL_all_29 ⟨Nat.le_of_ble_eq_true rfl, Nat.le_of_ble_eq_true rfl⟩) hS (fun v9 _ H locs wl hv9 hRc hRr hRo hP hD hS => ?_)
  refine n_top (y := .int (nI (canC c))) (congrArg Value.int hv9) ?_
  clear hv9 v9
  refine lv_i2l (v := (nI (canC c)).toInt64) hx hb dL_all_32 rfl ?_
  refine lv_lmul hx hb dL_all_33 ?_
  refine lv_ladd hx hb dL_all_34 ?_
  have J35 : (∀ (H : Heap) (locs : List Loc) (wl : va_W), Rc G c wl → Rr G r wl → Ro G o wl → va_P D vwCl wl H → va_D (fun q => h0 ≤ q) wl → va_S (fun q => h0 ≤ q) s.heap H locs → W p l e (headSpec wsL_all ({ frames := 4, cells := 0, slots := 0, locals := 90 } : Room)).room s m ([.ref (G 0)] : List Value).toArray below meth cd H locs 0 0 Q (F0 m 49 ls [.long (if c 20 3 = 0 then 0 else 3), .long (((((nI (c 20 1)).toInt64) + (31 * ((nI (c 20 6)).toInt64))) + (1009 * ((nI (mk (fun w => c 9 w = 2) (c 20 1))).toInt64))) + (65537 * ((nI (canC c)).toInt64)))])) → W p l e (headSpec wsL_all ({ frames := 4, cells := 0, slots := 0, locals := 90 } : Room)).room s m ([.ref (G 0)] : List Value).toArray below meth cd H locs 0 0 Q (F0 m 35 ls [.long (((((nI (c 20 1)).toInt64) + (31 * ((nI (c 20 6)).toInt64))) + (1009 * ((nI (mk (fun w => c 9 w = 2) (c 20 1))).toInt64))) + (65537 * ((nI (canC c)).toInt64)))]) := by
    intro hk35
    refine lv_aload_n hx hb dL_all_35 rfl (lv_at hl 0 rfl) ?_
    refine y_calli (va_runV (As := []) (rest := [.long (((((nI (c 20 1)).toInt64) + (31 * ((nI (c 20 6)).toInt64))) + (1009 * ((nI (mk (fun w => c 9 w = 2) (c 20 1))).toInt64))) + (65537 * ((nI (canC c)).toInt64)))]) ⟨hx, hb, hml, hown, hts⟩ (k_X2_goesOn l D G h0 c r o ho.1) (cwV 0 hts gL_all_X2_goesOn rfl rfl rfl (by decide +kernel) ⟨Nat.le_of_ble_eq_true rfl, Nat.le_of_ble_eq_true rfl⟩) ⟨fun a U g mk q => ⟨q.1, Pr_cg q.2⟩, va_recv (ci := 3) (q0 := 0) hK hP rfl (Q_o hRc), fun U hU hW => ⟨rfl, Pr_mk hE hRc hRr hRo hP hD hS hU hW⟩⟩ rfl rfl hl.1 rfl (lv_room (Nat.le_of_ble_eq_true rfl)) dL_all_36 ⟨Nat.le_of_ble_eq_true rfl, Nat.le_of_ble_eq_true rfl⟩) hS (fun v9 _ H locs wl hv9 hRc hRr hRo hP hD hS => ?_)
    refine n_top (y := .int (nI (c 20 3))) (congrArg Value.int hv9) ?_
    clear hv9 v9
    refine n_if_eq (tgt := 48) hx hb dL_all_39 (by decide) (hB _ _ (by decide)) (fun c_39 => ?_) (fun c_39 => ?_)
    · refine lv_lconst (n := 0) (v := 0) hx hb dL_all_48 rfl ?_
      refine n_top (y := .long (if c 20 3 = 0 then 0 else 3)) (congrArg Value.long (show 0 = (if c 20 3 = 0 then 0 else 3) from by exact (if_pos c_39).symm)) ?_
      exact hk35 _ _ _ hRc hRr hRo hP hD hS
    · refine lv_ldc2 (v := 3) hx hb hown (hts (.constantLong RL 84 3) (by decide +kernel)) dL_all_42 ?_
      refine lv_goto (tgt := 49) hx hb dL_all_45 (by decide) ?_
      refine n_top (y := .long (if c 20 3 = 0 then 0 else 3)) (congrArg Value.long (show 3 = (if c 20 3 = 0 then 0 else 3) from by exact (if_neg (Nat.ne_of_gt c_39)).symm)) ?_
      exact hk35 _ _ _ hRc hRr hRo hP hD hS
  refine J35 (fun H locs wl hRc hRr hRo hP hD hS => ?_)
  refine lv_ladd hx hb dL_all_49 ?_
  refine lv_lstore_n (lv' := [(1, .long ((((((nI (c 20 1)).toInt64) + (31 * ((nI (c 20 6)).toInt64))) + (1009 * ((nI (mk (fun w => c 9 w = 2) (c 20 1))).toInt64))) + (65537 * ((nI (canC c)).toInt64))) + (if c 20 3 = 0 then 0 else 3))), (0, .ref (G 0))]) hx hb dL_all_50 rfl hl (by decide) rfl (fun ls hl => ?_)
  refine lv_iconst (v := nI 0) hx hb dL_all_51 (by decide) ?_
  refine lv_istore_n (lv' := [(3, .int (nI 0)), (1, .long ((((((nI (c 20 1)).toInt64) + (31 * ((nI (c 20 6)).toInt64))) + (1009 * ((nI (mk (fun w => c 9 w = 2) (c 20 1))).toInt64))) + (65537 * ((nI (canC c)).toInt64))) + (if c 20 3 = 0 then 0 else 3))), (0, .ref (G 0))]) hx hb dL_all_52 rfl hl (by decide) rfl (fun ls hl => ?_)
  have L53 : ∀ (d i : Nat), c 20 1 - i < d → i ≤ c 20 1 → ∀ (H : Heap) (locs : List Loc) (wl : va_W) (ls : Array Slot), Rc G c wl → Rr G r wl → Ro G o wl → va_P D vwCl wl H → va_D (fun q => h0 ≤ q) wl → va_S (fun q => h0 ≤ q) s.heap H locs → lv_has ls 4 [(3, .int (nI i)), (1, .long (allI c i)), (0, .ref (G 0))] → W p l e (headSpec wsL_all ({ frames := 4, cells := 0, slots := 0, locals := 90 } : Room)).room s m ([.ref (G 0)] : List Value).toArray below meth cd H locs 0 0 Q (F0 m 53 ls []) := by
    intro d53
    induction d53 with
    | zero => intro i hd; exact absurd hd (Nat.not_lt_zero _)
    | succ d53 ih53 =>
      intro i hd hi  H locs wl ls hRc hRr hRo hP hD hS hl
      refine lv_iload_n hx hb dL_all_53 rfl (lv_at hl 0 rfl) ?_
      refine lv_aload_n hx hb dL_all_54 rfl (lv_at hl 2 rfl) ?_
      refine y_calli (va_runV (As := []) (rest := [.int (nI i)]) ⟨hx, hb, hml, hown, hts⟩ (k_X2_units l D G h0 c r o ) (cwV 0 hts gL_all_X2_units rfl rfl rfl (by decide +kernel) ⟨Nat.le_of_ble_eq_true rfl, Nat.le_of_ble_eq_true rfl⟩) ⟨fun a U g mk q => ⟨q.1, Pr_cg q.2⟩, va_recv (ci := 3) (q0 := 0) hK hP rfl (Q_o hRc), fun U hU hW => ⟨rfl, Pr_mk hE hRc hRr hRo hP hD hS hU hW⟩⟩ rfl rfl hl.1 rfl (lv_room (Nat.le_of_ble_eq_true rfl)) dL_all_55 ⟨Nat.le_of_ble_eq_true rfl, Nat.le_of_ble_eq_true rfl⟩) hS (fun v9 _ H locs wl hv9 hRc hRr hRo hP hD hS => ?_)
      refine n_top (y := .int (nI (c 20 1))) (congrArg Value.int hv9) ?_
      clear hv9 v9
      refine n_icmp_ge (tgt := 113) hx hb dL_all_58 (by decide) (by omega) (hB _ _ (by decide)) (fun c_58 => ?_) (fun c_58 => ?_)
      · refine lv_lload_n hx hb dL_all_113 rfl (lv_at hl 1 rfl) ?_
        rw [hQ]
        exact W.lret (v := allI c i) hx hb hr (fun t ht hW => ⟨⟨_, (), rfl, (show allI c i = allI c (c 20 1) from by rw [show i = c 20 1 by omega]), Wr_mk hRc hRr hRo hP hD ht⟩, hS.F ht⟩) hS.2.2 dL_all_114
      · refine lv_ldc2 (v := 1000003) hx hb hown (hts (.constantLong RL 86 1000003) (by decide +kernel)) dL_all_61 ?_
        refine lv_lload_n hx hb dL_all_64 rfl (lv_at hl 1 rfl) ?_
        refine lv_lmul hx hb dL_all_65 ?_
        refine lv_aload_n hx hb dL_all_66 rfl (lv_at hl 2 rfl) ?_
        refine lv_iload_n hx hb dL_all_67 rfl (lv_at hl 0 rfl) ?_
        refine y_calli (va_runV (As := [.int (nI i)]) (rest := [.long (1000003 * (allI c i))]) ⟨hx, hb, hml, hown, hts⟩ (k_X2_state_ok l D G h0 c r o hI i (by first | omega | assumption)) (cwV 1 hts gL_all_X2_state rfl rfl rfl (by decide +kernel) ⟨Nat.le_of_ble_eq_true rfl, Nat.le_of_ble_eq_true rfl⟩) ⟨fun a U g mk q => ⟨q.1, Pr_cg q.2⟩, va_recv (ci := 3) (q0 := 0) hK hP rfl (Q_o hRc), fun U hU hW => ⟨rfl, Pr_mk hE hRc hRr hRo hP hD hS hU hW⟩⟩ rfl rfl hl.1 rfl (lv_room (Nat.le_of_ble_eq_true rfl)) dL_all_68 ⟨Nat.le_of_ble_eq_true rfl, Nat.le_of_ble_eq_true rfl⟩) hS (fun v9 _ H locs wl hv9 hRc hRr hRo hP hD hS => ?_)
        refine n_top (y := .int (nI (c 9 i))) (congrArg Value.int hv9) ?_
        clear hv9 v9
        refine lv_i2l (v := (nI (c 9 i)).toInt64) hx hb dL_all_71 rfl ?_
        refine lv_ladd hx hb dL_all_72 ?_
        refine lv_ldc2 (v := 7) hx hb hown (hts (.constantLong RL 88 7) (by decide +kernel)) dL_all_73 ?_
        refine lv_aload_n hx hb dL_all_76 rfl (lv_at hl 2 rfl) ?_
        refine lv_iload_n hx hb dL_all_77 rfl (lv_at hl 0 rfl) ?_
        refine y_calli (va_runV (As := [.int (nI i)]) (rest := [.long 7, .long ((1000003 * (allI c i)) + ((nI (c 9 i)).toInt64))]) ⟨hx, hb, hml, hown, hts⟩ (k_X2_learned_ok l D G h0 c r o hI i (by first | omega | assumption)) (cwV 1 hts gL_all_X2_learned rfl rfl rfl (by decide +kernel) ⟨Nat.le_of_ble_eq_true rfl, Nat.le_of_ble_eq_true rfl⟩) ⟨fun a U g mk q => ⟨q.1, Pr_cg q.2⟩, va_recv (ci := 3) (q0 := 0) hK hP rfl (Q_o hRc), fun U hU hW => ⟨rfl, Pr_mk hE hRc hRr hRo hP hD hS hU hW⟩⟩ rfl rfl hl.1 rfl (lv_room (Nat.le_of_ble_eq_true rfl)) dL_all_78 ⟨Nat.le_of_ble_eq_true rfl, Nat.le_of_ble_eq_true rfl⟩) hS (fun v9 _ H locs wl hv9 hRc hRr hRo hP hD hS => ?_)
        refine n_top (y := .int (nI (c 3 i))) (congrArg Value.int hv9) ?_
        clear hv9 v9
        refine lv_i2l (v := (nI (c 3 i)).toInt64) hx hb dL_all_81 rfl ?_
        refine lv_lmul hx hb dL_all_82 ?_
        refine lv_ladd hx hb dL_all_83 ?_
        refine lv_ldc2 (v := 257) hx hb hown (hts (.constantLong RL 90 257) (by decide +kernel)) dL_all_84 ?_
        refine lv_aload_n hx hb dL_all_87 rfl (lv_at hl 2 rfl) ?_
        refine lv_iload_n hx hb dL_all_88 rfl (lv_at hl 0 rfl) ?_
        refine y_calli (va_runV (As := [.int (nI i)]) (rest := [.long 257, .long (((1000003 * (allI c i)) + ((nI (c 9 i)).toInt64)) + (7 * ((nI (c 3 i)).toInt64)))]) ⟨hx, hb, hml, hown, hts⟩ (k_X2_faults_ok l D G h0 c r o hI i (by first | omega | assumption)) (cwV 1 hts gL_all_X2_faults rfl rfl rfl (by decide +kernel) ⟨Nat.le_of_ble_eq_true rfl, Nat.le_of_ble_eq_true rfl⟩) ⟨fun a U g mk q => ⟨q.1, Pr_cg q.2⟩, va_recv (ci := 3) (q0 := 0) hK hP rfl (Q_o hRc), fun U hU hW => ⟨rfl, Pr_mk hE hRc hRr hRo hP hD hS hU hW⟩⟩ rfl rfl hl.1 rfl (lv_room (Nat.le_of_ble_eq_true rfl)) dL_all_89 ⟨Nat.le_of_ble_eq_true rfl, Nat.le_of_ble_eq_true rfl⟩) hS (fun v9 _ H locs wl hv9 hRc hRr hRo hP hD hS => ?_)
        refine n_top (y := .int (nI (c 4 i))) (congrArg Value.int hv9) ?_
        clear hv9 v9
        refine lv_i2l (v := (nI (c 4 i)).toInt64) hx hb dL_all_92 rfl ?_
        refine lv_lmul hx hb dL_all_93 ?_
        refine lv_ladd hx hb dL_all_94 ?_
        refine lv_ldc2 (v := 65537) hx hb hown (hts (.constantLong RL 75 65537) (by decide +kernel)) dL_all_95 ?_
        refine lv_aload_n hx hb dL_all_98 rfl (lv_at hl 2 rfl) ?_
        refine lv_iload_n hx hb dL_all_99 rfl (lv_at hl 0 rfl) ?_
        refine y_calli (va_runV (As := [.int (nI i)]) (rest := [.long 65537, .long ((((1000003 * (allI c i)) + ((nI (c 9 i)).toInt64)) + (7 * ((nI (c 3 i)).toInt64))) + (257 * ((nI (c 4 i)).toInt64)))]) ⟨hx, hb, hml, hown, hts⟩ (k_X2_waitsFor_ok l D G h0 c r o hI i (by first | omega | assumption)) (cwV 1 hts gL_all_X2_waitsFor rfl rfl rfl (by decide +kernel) ⟨Nat.le_of_ble_eq_true rfl, Nat.le_of_ble_eq_true rfl⟩) ⟨fun a U g mk q => ⟨q.1, Pr_cg q.2⟩, va_recv (ci := 3) (q0 := 0) hK hP rfl (Q_o hRc), fun U hU hW => ⟨rfl, Pr_mk hE hRc hRr hRo hP hD hS hU hW⟩⟩ rfl rfl hl.1 rfl (lv_room (Nat.le_of_ble_eq_true rfl)) dL_all_100 ⟨Nat.le_of_ble_eq_true rfl, Nat.le_of_ble_eq_true rfl⟩) hS (fun v9 _ H locs wl hv9 hRc hRr hRo hP hD hS => ?_)
        refine n_top (y := .int (siI (if c 9 i = 0 then fP (awC c i) (c 20 1) else 0))) (congrArg Value.int hv9) ?_
        clear hv9 v9
        refine lv_i2l (v := (siI (if c 9 i = 0 then fP (awC c i) (c 20 1) else 0)).toInt64) hx hb dL_all_103 rfl ?_
        refine lv_lmul hx hb dL_all_104 ?_
        refine lv_ladd hx hb dL_all_105 ?_
        refine lv_lstore_n (lv' := [(1, .long (((((1000003 * (allI c i)) + ((nI (c 9 i)).toInt64)) + (7 * ((nI (c 3 i)).toInt64))) + (257 * ((nI (c 4 i)).toInt64))) + (65537 * ((siI (if c 9 i = 0 then fP (awC c i) (c 20 1) else 0)).toInt64)))), (3, .int (nI i)), (0, .ref (G 0))]) hx hb dL_all_106 rfl hl (by decide) rfl (fun ls hl => ?_)
        refine lv_iinc (v := nI (i + 1)) (lv' := [(3, .int (nI (i + 1))), (1, .long (((((1000003 * (allI c i)) + ((nI (c 9 i)).toInt64)) + (7 * ((nI (c 3 i)).toInt64))) + (257 * ((nI (c 4 i)).toInt64))) + (65537 * ((siI (if c 9 i = 0 then fP (awC c i) (c 20 1) else 0)).toInt64)))), (0, .ref (G 0))]) hx hb dL_all_107 hl (k := 1) rfl (nI_add i 1) (by decide) rfl (fun ls hl => ?_)
        refine lv_goto (tgt := 53) hx hb dL_all_110 (by decide) ?_
        exact ih53 (i + 1) (by omega) (by omega)   _ _ _ _ hRc hRr hRo hP hD hS (show lv_has ls 4 [(3, .int (nI (i + 1))), (1, .long (allI c (i + 1))), (0, .ref (G 0))] from by rw [show ((.long (allI c (i + 1)) : Value)) = .long (((((1000003 * (allI c i)) + ((nI (c 9 i)).toInt64)) + (7 * ((nI (c 3 i)).toInt64))) + (257 * ((nI (c 4 i)).toInt64))) + (65537 * ((siI (if c 9 i = 0 then fP (awC c i) (c 20 1) else 0)).toInt64))) from by rfl]; exact lv_sub hl [0, 1, 2] rfl)
  exact L53 _ 0 (Nat.lt_succ_self _) (by omega)   _ _ _ _ hRc hRr hRo hP hD hS (show lv_has ls 4 [(3, .int (nI 0)), (1, .long (allI c 0)), (0, .ref (G 0))] from by rw [show ((.long (allI c 0) : Value)) = .long ((((((nI (c 20 1)).toInt64) + (31 * ((nI (c 20 6)).toInt64))) + (1009 * ((nI (mk (fun w => c 9 w = 2) (c 20 1))).toInt64))) + (65537 * ((nI (canC c)).toInt64))) + (if c 20 3 = 0 then 0 else 3)) from by rfl]; exact lv_sub hl [0, 1, 2] rfl)
set_option maxHeartbeats 4000000 in
set_option maxRecDepth 100000 in
theorem k_L_dice (l : Launch) (D : va_G) (G : Nat → Nat) (h0 : Nat) (c r : Nat → Nat → Nat) (o : Nat) (b L k : Nat) (xs : Nat → Int32) (hk : k < 2 ^ 31) (hL : L ≤ 260) (hbA : ¬ h0 ≤ b) : Met l yL_dice wsL_dice ({ frames := 0, cells := 0, slots := 0, locals := 0 } : Room) (va_Pc [.ref b, .int (nI k)] (fun U => Pr D G h0 c r o U ∧ va_X b L xs U U.heap ∧ b < U.heap.size)) (va_Qi (fun (v9 : Int32) (_ : Unit) => ∃ x, x < 2 ^ 31 ∧ v9 = nI x) (fun _ t => Wr D G h0 c r o t) (fun q => h0 ≤ q)) 0 0 (fun q => h0 ≤ q) := by
  refine Met.ofW (cc := cL_dice) (maxL := 2) (ret := (some .int)) (by decide) rfl ?_
  intro p e s m args below meth cd s₁ B hml hv
  obtain ⟨rfl, ⟨hE, wl, hRc, hRr, hRo, hP, hD⟩, hX, hbl⟩ := hv
  have hx := B.exec
  have hb := B.bytes
  have hr := B.returns
  have hts := atoms_spec (ws := wsL_dice) B.pre
  have hown : s.vm.findClass RL = some m.cls := findClass_of_methodNamed B.named
  have hlocks := B.notSynchronized
  have hK := hE.2.1
  have hS : va_S (fun q => h0 ≤ q) s.heap s.heap [] := va_S.rf
  have hl := lv_entry ([.ref b, .int (nI k)]) (n := 2) (Nat.le_of_ble_eq_true rfl)
  rw [lg_entry_eq]
  generalize (lg_sl ([.ref b, .int (nI k)]) ++ List.replicate (2 - (lg_sl ([.ref b, .int (nI k)])).length) Slot.unset).toArray = ls at hl ⊢
  have hl : lv_has ls 2 [(0, .ref b), (1, .int (nI k))] := hl
  have fin : ∀ y : Int32, W p l e (headSpec wsL_dice ({ frames := 0, cells := 0, slots := 0, locals := 0 } : Room)).room s m ([.ref b, .int (nI k)] : List Value).toArray below meth cd s.heap [] 0 0 (MQ below (va_Qi (fun (v9 : Int32) (_ : Unit) => ∃ x, x < 2 ^ 31 ∧ v9 = nI x) (fun _ t => Wr D G h0 c r o t) (fun q => h0 ≤ q)) ([.ref b, .int (nI k)] : List Value).toArray s 0 0 (fun q => h0 ≤ q)) (F0 m 31 ls [.int y]) := by
    intro y
    refine lv_ldc (v := nI 2147483647) hx hb hown (hts (.constant RL 8 (nI 2147483647)) (by decide +kernel)) dL_dice_31 ?_
    refine lv_iand hx hb dL_dice_33 ?_
    obtain ⟨j, hj, e9⟩ := pk_andE y (m := nI 2147483647) 31 (by decide)
    rw [e9]
    exact W.iret (v := nI j) hx hb hr (fun t ht hW => ⟨⟨_, (), rfl, ⟨j, hj, rfl⟩, Wr_mk hRc hRr hRo hP hD ht⟩, hS.F ht⟩) hS.2.2 dL_dice_34
  refine lv_iload_n hx hb dL_dice_0 rfl (lv_at hl 1 rfl) ?_
  refine lv_aload_n hx hb dL_dice_1 rfl (lv_at hl 0 rfl) ?_
  refine va_slen hx hb hX hbl hbA hS dL_dice_2 ?_
  refine n_icmp_ge (tgt := 12) hx hb dL_dice_3 (by decide) hk (by omega) (fun c_3 => ?_) (fun c_3 => ?_)
  · refine lv_ldc (v := nI 1909046575) hx hb hown (hts (.constant RL 7 (nI 1909046575)) (by decide +kernel)) dL_dice_12 ?_
    refine lv_iload_n hx hb dL_dice_14 rfl (lv_at hl 1 rfl) ?_
    refine lv_sipush (v := nI 191) hx hb dL_dice_15 (by decide) ?_
    refine lv_iadd hx hb dL_dice_18 ?_
    refine lv_imul hx hb dL_dice_19 ?_
    refine lv_sipush (v := nI 605) hx hb dL_dice_20 (by decide) ?_
    refine lv_iload_n hx hb dL_dice_23 rfl (lv_at hl 1 rfl) ?_
    refine lv_imul hx hb dL_dice_24 ?_
    refine lv_iload_n hx hb dL_dice_25 rfl (lv_at hl 1 rfl) ?_
    refine lv_imul hx hb dL_dice_26 ?_
    refine lv_iadd hx hb dL_dice_27 ?_
    refine lv_bipush (v := nI 97) hx hb dL_dice_28 (by decide) ?_
    refine lv_iadd hx hb dL_dice_30 ?_
    exact fin _
  · refine lv_aload_n hx hb dL_dice_6 rfl (lv_at hl 0 rfl) ?_
    refine lv_iload_n hx hb dL_dice_7 rfl (lv_at hl 1 rfl) ?_
    refine va_sld hx hb hX hbl hbA hS (vp_in_nI c_3 (by omega)) dL_dice_8 ?_
    refine lv_goto (tgt := 31) hx hb dL_dice_9 (by decide) ?_
    exact fin _
