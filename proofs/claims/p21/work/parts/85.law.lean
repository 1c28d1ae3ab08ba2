set_option maxHeartbeats 16000000 in
set_option maxRecDepth 100000 in
theorem law_main {p : Program} {l : Launch} (hlt : l.stackTraces = false) {e : Env} {s : State} {m : MethodId} {below : List Frame} {meth : Method} {cd : Code} {D : va_G} {G : Nat → Nat} {h0 b L : Nat} {xs : Nat → Int32} (hL : L ≤ 260) (hh0 : h0 = s.heap.size) (hx : p.tables.exec = Jvm.exec) (hb : cd.code = cL_law) (hr : meth.sig.returnType = ret) (hml : cd.maxLocals = 17) (hown : s.vm.findClass RL = some m.cls) (hts : ∀ w ∈ wsL_law, w.before #[Value.ref b] s = true) (hX : va_X b L xs s s.heap) (hbl : b < s.heap.size) (hlocks : meth.locks = false) (hE : Ev D G h0 s)
    (c r ρ : Nat → Nat → Nat) (o : Nat) (hLI0 : LI c r ρ 0) (hu0 : c 20 1 = 0) (hg00 : c 20 3 = 0) (hb00 : c 20 6 = 0) (H : Heap) (locs : List Loc) (wl : va_W) (ls : Array Slot) (hRc : Rc G c wl) (hRr : Rr G r wl) (hRo : Ro G o wl) (hP : va_P D vwCl wl H) (hD : va_D (fun q => h0 ≤ q) wl) (hS : va_S (fun q => h0 ≤ q) s.heap H locs) (hl : lv_has ls 17 [(5, .ref (G 6)), (4, .ref (G 5)), (3, .ref (G 4)), (2, .ref (G 3)), (1, .ref (G 0)), (0, .ref b)]) : W p l e room_1 s m #[Value.ref b] below meth cd H locs 100 1000 (lw_Z below #[Value.ref b] s) (F0 m 29 ls []) := by
  have hbA : ¬ h0 ≤ b := by omega
  have hK := hE.2.1
  have hI0 : IC c := hLI0.1.1
  have hB0 := IC_B hI0
  have ho0 := IC_o hI0
  have hn80 := hLI0.2.1
  have hW50 : c 30 0 ≤ 512 := by have h9 := hLI0.1.2.2.2; omega
  obtain ⟨Q, hQ⟩ : ∃ Q, Q = lw_Z below #[Value.ref b] s := ⟨_, rfl⟩
  rw [← hQ]
  refine lv_aload_n hx hb dL_law_29 rfl (lv_at hl 4 rfl) ?_
  refine lv_iconst (v := nI 0) hx hb dL_law_30 (by decide) ?_
  refine y_calli (va_runS (As := [.ref (G 0), .int (nI 0)]) (rest := []) ⟨hx, hb, hml, hown, hts⟩ (k_L_isRefused l D G h0 c r o hlt hI0 hW50 hn80 0 (by omega)) (va_cwS 2 hts gL_law_L_isRefused rfl rfl rfl (by decide +kernel) ⟨Nat.le_of_ble_eq_true rfl, Nat.le_of_ble_eq_true rfl⟩) ⟨fun a U g mk q => ⟨q.1, Pr_cg q.2⟩, fun U hU hW => ⟨rfl, Pr_mk hE hRc hRr hRo hP hD hS hU hW⟩⟩ rfl rfl hl.1 rfl (lv_room (Nat.le_of_ble_eq_true rfl)) dL_law_31 ⟨Nat.le_of_ble_eq_true rfl, Nat.le_of_ble_eq_true rfl⟩) hS (fun v9 _ H locs wl hv9 hRc hRr hRo hP hD hS => ?_)
  refine n_top (y := .int (nI 1)) (congrArg Value.int hv9) ?_
  clear hv9 v9
  refine n_if_eq (tgt := 56) hx hb dL_law_34 (by decide) (by decide) (fun c_34 => absurd c_34 (by decide)) (fun c_34 => ?_)
  refine lv_aload_n hx hb dL_law_37 rfl (lv_at hl 4 rfl) ?_
  refine lv_iconst (v := nI 1) hx hb dL_law_38 (by decide) ?_
  refine y_calli (va_runS (As := [.ref (G 0), .int (nI 1)]) (rest := []) ⟨hx, hb, hml, hown, hts⟩ (k_L_isRefused l D G h0 c r o hlt hI0 hW50 hn80 1 (by omega)) (va_cwS 2 hts gL_law_L_isRefused rfl rfl rfl (by decide +kernel) ⟨Nat.le_of_ble_eq_true rfl, Nat.le_of_ble_eq_true rfl⟩) ⟨fun a U g mk q => ⟨q.1, Pr_cg q.2⟩, fun U hU hW => ⟨rfl, Pr_mk hE hRc hRr hRo hP hD hS hU hW⟩⟩ rfl rfl hl.1 rfl (lv_room (Nat.le_of_ble_eq_true rfl)) dL_law_39 ⟨Nat.le_of_ble_eq_true rfl, Nat.le_of_ble_eq_true rfl⟩) hS (fun v9 _ H locs wl hv9 hRc hRr hRo hP hD hS => ?_)
  refine n_top (y := .int (nI 1)) (congrArg Value.int hv9) ?_
  clear hv9 v9
  refine n_if_eq (tgt := 56) hx hb dL_law_42 (by decide) (by decide) (fun c_42 => absurd c_42 (by decide)) (fun c_42 => ?_)
  refine lv_aload_n hx hb dL_law_45 rfl (lv_at hl 4 rfl) ?_
  refine y_calli (va_runV (As := []) (rest := []) ⟨hx, hb, hml, hown, hts⟩ (k_X2_bar l D G h0 c r o ) (cwV 0 hts gL_law_X2_bar rfl rfl rfl (by decide +kernel) ⟨Nat.le_of_ble_eq_true rfl, Nat.le_of_ble_eq_true rfl⟩) ⟨fun a U g mk q => ⟨q.1, Pr_cg q.2⟩, va_recv (ci := 3) (q0 := 0) hK hP rfl (Q_o hRc), fun U hU hW => ⟨rfl, Pr_mk hE hRc hRr hRo hP hD hS hU hW⟩⟩ rfl rfl hl.1 rfl (lv_room (Nat.le_of_ble_eq_true rfl)) dL_law_46 ⟨Nat.le_of_ble_eq_true rfl, Nat.le_of_ble_eq_true rfl⟩) hS (fun v9 _ H locs wl hv9 hRc hRr hRo hP hD hS => ?_)
  refine n_top (y := .int (nI (c 20 6))) (congrArg Value.int hv9) ?_
  clear hv9 v9
  refine n_if_ne (tgt := 56) hx hb dL_law_49 (by decide) (hB0 _ _ (by decide)) (fun c_49 => ?_) (fun c_49 => ?_)
  · exfalso; omega
  · refine lv_iconst (v := nI 1) hx hb dL_law_52 (by decide) ?_
    refine lv_goto (tgt := 57) hx hb dL_law_53 (by decide) ?_
    refine lv_istore (lv' := [(6, .int (nI 1)), (5, .ref (G 6)), (4, .ref (G 5)), (3, .ref (G 4)), (2, .ref (G 3)), (1, .ref (G 0)), (0, .ref b)]) hx hb dL_law_57 hl (by decide) rfl (fun ls hl => ?_)
    refine lv_iconst (v := nI 0) hx hb dL_law_59 (by decide) ?_
    refine lv_istore (lv' := [(7, .int (nI 0)), (6, .int (nI 1)), (5, .ref (G 6)), (4, .ref (G 5)), (3, .ref (G 4)), (2, .ref (G 3)), (1, .ref (G 0)), (0, .ref b)]) hx hb dL_law_60 hl (by decide) rfl (fun ls hl => ?_)
    have L62 : ∀ (d n : Nat), 130 - n < d → n ≤ 130 → ∀ (c1 r1 ρ1 : Nat → Nat → Nat), (LI c1 r1 ρ1 n) → (c1 20 3 ≠ 0 → 3 ≤ c1 20 1) → ∀ (H : Heap) (locs : List Loc) (wl : va_W) (ls : Array Slot), Rc G c1 wl → Rr G r1 wl → Ro G o wl → va_P D vwCl wl H → va_D (fun q => h0 ≤ q) wl → va_S (fun q => h0 ≤ q) s.heap H locs → lv_has ls 17 [(7, .int (nI n)), (6, .int (nI 1)), (0, .ref b), (1, .ref (G 0)), (2, .ref (G 3)), (3, .ref (G 4)), (4, .ref (G 5)), (5, .ref (G 6))] → W p l e room_1 s m #[Value.ref b] below meth cd H locs (3000 + 600 * n) (200000 + 2100 * n + 70000 * ((n + 19) / 20)) Q (F0 m 62 ls []) := by
      intro d62
      induction d62 with
      | zero => intro n hd; exact absurd hd (Nat.not_lt_zero _)
      | succ d62 ih62 =>
        intro n hd hi c1 r1 ρ1  hLI hgo H locs wl ls hRc hRr hRo hP hD hS hl
        have hI1 : IC c1 := hLI.1.1
        have hB1 := IC_B hI1
        have hn1 := IC_n hI1
        have hn8 := hLI.2.1
        have hBr1 := hLI.2.2.1
        have ho1 := IC_o hI1
        have hcq := hLI.1.2.2.2
        have hGs := hLI.2.2.2.2.1
        refine lv_iload hx hb dL_law_62 (lv_at hl 0 rfl) ?_
        refine lv_sipush (v := nI 130) hx hb dL_law_64 (by decide) ?_
        refine n_icmp_ge (tgt := 638) hx hb dL_law_67 (by decide) (by omega) (by decide) (fun c_67 => ?_) (fun c_67 => ?_)
        · refine lv_iload hx hb dL_law_638 (lv_at hl 1 rfl) ?_
          rw [hQ]
          refine va_forget (fun q hq => by rw [← hh0]; exact hS.2.2 q hq) ?_
          refine W.widen (k := 1013921) (n := 6059706) (by omega) (by omega) ?_
          have e1 : (nI 1 : Int32) = 1 := (by decide)
          rw [e1]
          exact lw_ret hx hb hr hlocks dL_law_640
        · refine lv_iload hx hb dL_law_70 (lv_at hl 1 rfl) ?_
          refine n_if_eq (tgt := 638) hx hb dL_law_72 (by decide) (by decide) (fun c_72 => absurd c_72 (by decide)) (fun c_72 => ?_)
          refine lv_aload_n hx hb dL_law_75 rfl (lv_at hl 2 rfl) ?_
          refine lv_iload hx hb dL_law_76 (lv_at hl 0 rfl) ?_
          refine y_calli (va_runS (As := [.ref b, .int (nI n)]) (rest := []) ⟨hx, hb, hml, hown, hts⟩ (k_L_dice l D G h0 c1 r1 o b L n xs (by omega) hL hbA) (va_cwS 2 hts gL_law_L_dice rfl rfl rfl (by decide +kernel) ⟨Nat.le_of_ble_eq_true rfl, Nat.le_of_ble_eq_true rfl⟩) ⟨fun a U g mk q => ⟨q.1, Pr_cg q.2.1, va_X.moved (State.WarmedH.refl U).alike q.2.2.1, q.2.2.2⟩, fun U hU hW => ⟨rfl, Pr_mk hE hRc hRr hRo hP hD hS hU hW, by rw [hU]; exact va_X.moved hW.alike (hX.kept (hS.2.1 b hbl hbA)), by rw [hU]; exact Nat.lt_of_lt_of_le hbl hS.1⟩⟩ rfl rfl hl.1 rfl (lv_room (Nat.le_of_ble_eq_true rfl)) dL_law_78 ⟨(show _ ≤ 1013921 from by omega), (show _ ≤ 6059706 from by omega)⟩) hS (fun v9 _ H locs wl hv9 hRc hRr hRo hP hD hS => ?_)
          obtain ⟨x, hx31, hv9⟩ := hv9
          refine n_top (y := .int (nI x)) (congrArg Value.int hv9) ?_
          refine lv_istore (lv' := [(8, .int (nI x)), (7, .int (nI n)), (6, .int (nI 1)), (0, .ref b), (1, .ref (G 0)), (2, .ref (G 3)), (3, .ref (G 4)), (4, .ref (G 5)), (5, .ref (G 6))]) hx hb dL_law_81 hl (by decide) rfl (fun ls hl => ?_)
          refine lv_iload hx hb dL_law_83 (lv_at hl 0 rfl) ?_
          refine lv_bipush (v := nI 32) hx hb dL_law_85 (by decide) ?_
          refine n_idiv hx hb dL_law_87 (by omega) (by first | omega | decide | assumption) (by decide) ?_
          obtain ⟨v, h_v⟩ : ∃ z : Nat, z = x / 32 := ⟨_, rfl⟩
          rw [← h_v]
          have hv31 : v < 2 ^ 31 := by omega
          refine lv_istore (lv' := [(9, .int (nI v)), (8, .int (nI x)), (7, .int (nI n)), (6, .int (nI 1)), (0, .ref b), (1, .ref (G 0)), (2, .ref (G 3)), (3, .ref (G 4)), (4, .ref (G 5)), (5, .ref (G 6))]) hx hb dL_law_88 hl (by decide) rfl (fun ls hl => ?_)
          refine lv_iload hx hb dL_law_90 (lv_at hl 1 rfl) ?_
          refine lv_bipush (v := nI 32) hx hb dL_law_92 (by decide) ?_
          refine n_irem hx hb dL_law_94 (by omega) (by first | omega | decide | assumption) (by decide) ?_
          obtain ⟨how, h_how⟩ : ∃ z : Nat, z = x % 32 := ⟨_, rfl⟩
          rw [← h_how]
          have hhow : how < 32 := by omega
          refine lv_istore (lv' := [(10, .int (nI how)), (9, .int (nI v)), (8, .int (nI x)), (7, .int (nI n)), (6, .int (nI 1)), (0, .ref b), (1, .ref (G 0)), (2, .ref (G 3)), (3, .ref (G 4)), (4, .ref (G 5)), (5, .ref (G 6))]) hx hb dL_law_95 hl (by decide) rfl (fun ls hl => ?_)
          refine lv_aload_n hx hb dL_law_97 rfl (lv_at hl 6 rfl) ?_
          refine y_calli (va_runV (As := []) (rest := []) ⟨hx, hb, hml, hown, hts⟩ (k_X2_units l D G h0 c1 r1 o ) (cwV 0 hts gL_law_X2_units rfl rfl rfl (by decide +kernel) ⟨Nat.le_of_ble_eq_true rfl, Nat.le_of_ble_eq_true rfl⟩) ⟨fun a U g mk q => ⟨q.1, Pr_cg q.2⟩, va_recv (ci := 3) (q0 := 0) hK hP rfl (Q_o hRc), fun U hU hW => ⟨rfl, Pr_mk hE hRc hRr hRo hP hD hS hU hW⟩⟩ rfl rfl hl.1 rfl (lv_room (Nat.le_of_ble_eq_true rfl)) dL_law_98 ⟨(show _ ≤ 1013921 from by omega), (show _ ≤ 6059706 from by omega)⟩) hS (fun v9 _ H locs wl hv9 hRc hRr hRo hP hD hS => ?_)
          refine n_top (y := .int (nI (c1 20 1))) (congrArg Value.int hv9) ?_
          clear hv9 v9
          refine lv_istore (lv' := [(11, .int (nI (c1 20 1))), (10, .int (nI how)), (9, .int (nI v)), (8, .int (nI x)), (7, .int (nI n)), (6, .int (nI 1)), (0, .ref b), (1, .ref (G 0)), (2, .ref (G 3)), (3, .ref (G 4)), (4, .ref (G 5)), (5, .ref (G 6))]) hx hb dL_law_101 hl (by decide) rfl (fun ls hl => ?_)
          refine lv_aload_n hx hb dL_law_103 rfl (lv_at hl 7 rfl) ?_
          refine y_calli (va_runV (As := []) (rest := []) ⟨hx, hb, hml, hown, hts⟩ (k_X2_goesOn l D G h0 c1 r1 o ho1.1) (cwV 0 hts gL_law_X2_goesOn rfl rfl rfl (by decide +kernel) ⟨Nat.le_of_ble_eq_true rfl, Nat.le_of_ble_eq_true rfl⟩) ⟨fun a U g mk q => ⟨q.1, Pr_cg q.2⟩, va_recv (ci := 3) (q0 := 0) hK hP rfl (Q_o hRc), fun U hU hW => ⟨rfl, Pr_mk hE hRc hRr hRo hP hD hS hU hW⟩⟩ rfl rfl hl.1 rfl (lv_room (Nat.le_of_ble_eq_true rfl)) dL_law_104 ⟨(show _ ≤ 1013921 from by omega), (show _ ≤ 6059706 from by omega)⟩) hS (fun v9 _ H locs wl hv9 hRc hRr hRo hP hD hS => ?_)
          refine n_top (y := .int (nI (c1 20 3))) (congrArg Value.int hv9) ?_
          clear hv9 v9
          refine lv_istore (lv' := [(12, .int (nI (c1 20 3))), (11, .int (nI (c1 20 1))), (10, .int (nI how)), (9, .int (nI v)), (8, .int (nI x)), (7, .int (nI n)), (6, .int (nI 1)), (0, .ref b), (1, .ref (G 0)), (2, .ref (G 3)), (3, .ref (G 4)), (4, .ref (G 5)), (5, .ref (G 6))]) hx hb dL_law_107 hl (by decide) rfl (fun ls hl => ?_)
          obtain ⟨kk, h_kk⟩ : ∃ z, z = if c1 20 1 = 0 then 0 else v % c1 20 1 := ⟨_, rfl⟩
          have hkk : 0 < c1 20 1 → kk < c1 20 1 := fun z => by rw [h_kk, if_neg (by omega)]; exact Nat.mod_lt _ z
          have h_kk : ∀ _ : Unit, kk = if c1 20 1 = 0 then 0 else v % c1 20 1 := fun _ => h_kk
          obtain ⟨oo, h_oo⟩ : ∃ z, z = if c1 20 1 < 2 then 0 else (kk + 1 + v / 8 % (c1 20 1 - 1)) % c1 20 1 := ⟨_, rfl⟩
          have hoo : 2 ≤ c1 20 1 → oo < c1 20 1 ∧ oo ≠ kk := fun z => by rw [h_oo, if_neg (by omega)]; exact oth_ne (hkk (by omega)) (Nat.mod_lt _ (by omega))
          have h_oo : ∀ _ : Unit, oo = if c1 20 1 < 2 then 0 else (kk + 1 + v / 8 % (c1 20 1 - 1)) % c1 20 1 := fun _ => h_oo
          obtain ⟨md, hmd⟩ := Sel_ex (v % 5 = 0) 100 8
          have hmd1 : md < 101 := Sel_lt hmd (by decide) (by decide)
          have hmd0 : 0 < md := by rcases Classical.em (v % 5 = 0) with z | z; (rw [hmd.1 z]; decide); rw [hmd.2 z]; decide
          obtain ⟨mf, hmf⟩ := Sel_ex (v % 4 = 0) 11 3
          have hmf1 : mf < 12 := Sel_lt hmf (by decide) (by decide)
          have hmf0 : 0 < mf := by rcases Classical.em (v % 4 = 0) with z | z; (rw [hmf.1 z]; decide); rw [hmf.2 z]; decide
          obtain ⟨mb, hmb⟩ := Sel_ex (v % 3 = 0) 20 3
          have hmb1 : mb < 21 := Sel_lt hmb (by decide) (by decide)
          have hmb0 : 0 < mb := by rcases Classical.em (v % 3 = 0) with z | z; (rw [hmb.1 z]; decide); rw [hmb.2 z]; decide
          have hvd : v % md < md := Nat.mod_lt _ hmd0
          have hv8d : v / 8 % md < md := Nat.mod_lt _ hmd0
          have hv8f : v / 8 % mf < mf := Nat.mod_lt _ hmf0
          have hvb : v % mb < mb := Nat.mod_lt _ hmb0
          have J109 : (∀ (H : Heap) (locs : List Loc) (wl : va_W), Rc G c1 wl → Rr G r1 wl → Ro G o wl → va_P D vwCl wl H → va_D (fun q => h0 ≤ q) wl → va_S (fun q => h0 ≤ q) s.heap H locs → W p l e room_1 s m #[Value.ref b] below meth cd H locs (3000 + 600 * n) (200000 + 2100 * n + 70000 * ((n + 19) / 20)) Q (F0 m 123 ls [.int (nI kk)])) → W p l e room_1 s m #[Value.ref b] below meth cd H locs (3000 + 600 * n) (200000 + 2100 * n + 70000 * ((n + 19) / 20)) Q (F0 m 109 ls []) := by
            intro hk109
            refine lv_iload hx hb dL_law_109 (lv_at hl 1 rfl) ?_
            refine n_if_ne (tgt := 118) hx hb dL_law_111 (by decide) (hB1 _ _ (by decide)) (fun c_111 => ?_) (fun c_111 => ?_)
            · refine lv_iload hx hb dL_law_118 (lv_at hl 3 rfl) ?_
              refine lv_iload hx hb dL_law_120 (lv_at hl 1 rfl) ?_
              refine n_irem hx hb dL_law_122 (by omega) (by first | omega | decide | assumption) (hB1 _ _ (by decide)) ?_
              refine n_top (y := .int (nI kk)) (congrArg Value.int (show nI (v % (c1 20 1)) = nI kk from by exact congrArg nI (by rw [h_kk (), if_neg (by omega)]))) ?_
              exact hk109 _ _ _ hRc hRr hRo hP hD hS
            · refine lv_iconst (v := nI 0) hx hb dL_law_114 (by decide) ?_
              refine lv_goto (tgt := 123) hx hb dL_law_115 (by decide) ?_
              refine n_top (y := .int (nI kk)) (congrArg Value.int (show nI 0 = nI kk from by exact congrArg nI (by rw [h_kk (), if_pos c_111]))) ?_
              exact hk109 _ _ _ hRc hRr hRo hP hD hS
          refine J109 (fun H locs wl hRc hRr hRo hP hD hS => ?_)
          refine lv_istore (lv' := [(13, .int (nI kk)), (12, .int (nI (c1 20 3))), (11, .int (nI (c1 20 1))), (10, .int (nI how)), (9, .int (nI v)), (8, .int (nI x)), (7, .int (nI n)), (6, .int (nI 1)), (0, .ref b), (1, .ref (G 0)), (2, .ref (G 3)), (3, .ref (G 4)), (4, .ref (G 5)), (5, .ref (G 6))]) hx hb dL_law_123 hl (by decide) rfl (fun ls hl => ?_)
          have J125 : (∀ (H : Heap) (locs : List Loc) (wl : va_W), Rc G c1 wl → Rr G r1 wl → Ro G o wl → va_P D vwCl wl H → va_D (fun q => h0 ≤ q) wl → va_S (fun q => h0 ≤ q) s.heap H locs → W p l e room_1 s m #[Value.ref b] below meth cd H locs (3000 + 600 * n) (200000 + 2100 * n + 70000 * ((n + 19) / 20)) Q (F0 m 153 ls [.int (nI oo)])) → W p l e room_1 s m #[Value.ref b] below meth cd H locs (3000 + 600 * n) (200000 + 2100 * n + 70000 * ((n + 19) / 20)) Q (F0 m 125 ls []) := by
            intro hk125
            refine lv_iload hx hb dL_law_125 (lv_at hl 2 rfl) ?_
            refine lv_iconst (v := nI 2) hx hb dL_law_127 (by decide) ?_
            refine n_icmp_ge (tgt := 135) hx hb dL_law_128 (by decide) (hB1 _ _ (by decide)) (by decide) (fun c_128 => ?_) (fun c_128 => ?_)
            · have hv8n : v / 8 % (c1 20 1 - 1) < c1 20 1 - 1 := Nat.mod_lt _ (by omega)
              refine lv_iload hx hb dL_law_135 (lv_at hl 0 rfl) ?_
              refine lv_iconst (v := nI 1) hx hb dL_law_137 (by decide) ?_
              refine n_iadd hx hb dL_law_138 ?_
              refine lv_iload hx hb dL_law_139 (lv_at hl 4 rfl) ?_
              refine lv_bipush (v := nI 8) hx hb dL_law_141 (by decide) ?_
              refine n_idiv hx hb dL_law_143 (by omega) (by first | omega | decide | assumption) (by decide) ?_
              refine lv_iload hx hb dL_law_144 (lv_at hl 2 rfl) ?_
              refine lv_iconst (v := nI 1) hx hb dL_law_146 (by decide) ?_
              refine n_isub hx hb dL_law_147 (by first | omega | decide | assumption) ?_
              refine n_irem hx hb dL_law_148 (by omega) (by first | omega | decide | assumption) (by omega) ?_
              refine n_iadd hx hb dL_law_149 ?_
              refine lv_iload hx hb dL_law_150 (lv_at hl 2 rfl) ?_
              refine n_irem hx hb dL_law_152 (by omega) (by first | omega | decide | assumption) (hB1 _ _ (by decide)) ?_
              refine n_top (y := .int (nI oo)) (congrArg Value.int (show nI (((kk + 1) + ((v / 8) % ((c1 20 1) - 1))) % (c1 20 1)) = nI oo from by exact congrArg nI (by rw [h_oo (), if_neg (by omega)]))) ?_
              exact hk125 _ _ _ hRc hRr hRo hP hD hS
            · refine lv_iconst (v := nI 0) hx hb dL_law_131 (by decide) ?_
              refine lv_goto (tgt := 153) hx hb dL_law_132 (by decide) ?_
              refine n_top (y := .int (nI oo)) (congrArg Value.int (show nI 0 = nI oo from by exact congrArg nI (by rw [h_oo (), if_pos (by omega)]))) ?_
              exact hk125 _ _ _ hRc hRr hRo hP hD hS
          refine J125 (fun H locs wl hRc hRr hRo hP hD hS => ?_)
          refine lv_istore (lv' := [(14, .int (nI oo)), (13, .int (nI kk)), (12, .int (nI (c1 20 3))), (11, .int (nI (c1 20 1))), (10, .int (nI how)), (9, .int (nI v)), (8, .int (nI x)), (7, .int (nI n)), (6, .int (nI 1)), (0, .ref b), (1, .ref (G 0)), (2, .ref (G 3)), (3, .ref (G 4)), (4, .ref (G 5)), (5, .ref (G 6))]) hx hb dL_law_153 hl (by decide) rfl (fun ls hl => ?_)
          refine lv_iload hx hb dL_law_155 (lv_at hl 2 rfl) ?_
          refine n_if_ne (tgt := 296) hx hb dL_law_157 (by decide) (ho3 ho1.1) (fun c_157 => ?_) (fun c_157 => ?_)
          · have hn3 : 3 ≤ c1 20 1 := hgo (by omega)
            refine lv_iload hx hb dL_law_296 (lv_at hl 4 rfl) ?_
            refine lv_iconst (v := nI 3) hx hb dL_law_298 (by decide) ?_
            refine n_icmp_ge (tgt := 371) hx hb dL_law_299 (by decide) (by omega) (by decide) (fun c_299 => ?_) (fun c_299 => ?_)
            · refine lv_iload hx hb dL_law_371 (lv_at hl 4 rfl) ?_
              refine lv_bipush (v := nI 7) hx hb dL_law_373 (by decide) ?_
              refine n_icmp_ge (tgt := 443) hx hb dL_law_375 (by decide) (by omega) (by decide) (fun c_375 => ?_) (fun c_375 => ?_)
              · refine lv_iload hx hb dL_law_443 (lv_at hl 2 rfl) ?_
                refine n_if_eq (tgt := 493) hx hb dL_law_445 (by decide) (ho3 ho1.1) (fun c_445 => ?_) (fun c_445 => ?_)
                · exfalso; omega
                · refine lv_iconst (v := nI 0) hx hb dL_law_448 (by decide) ?_
                  refine lv_istore (lv' := [(15, .int (nI 0)), (14, .int (nI oo)), (13, .int (nI kk)), (12, .int (nI (c1 20 3))), (11, .int (nI (c1 20 1))), (10, .int (nI how)), (9, .int (nI v)), (8, .int (nI x)), (7, .int (nI n)), (6, .int (nI 1)), (0, .ref b), (1, .ref (G 0)), (2, .ref (G 3)), (3, .ref (G 4)), (4, .ref (G 5)), (5, .ref (G 6))]) hx hb dL_law_449 hl (by decide) rfl (fun ls hl => ?_)
                  have L451 : ∀ (d tt : Nat), v % 4 + 1 - tt < d → tt ≤ v % 4 + 1 → ∀ (c2 r2 ρ2 : Nat → Nat → Nat), (LI c2 r2 ρ2 n) → (c2 20 1 = c1 20 1) → ∀ (H : Heap) (locs : List Loc) (wl : va_W) (ls : Array Slot), Rc G c2 wl → Rr G r2 wl → Ro G o wl → va_P D vwCl wl H → va_D (fun q => h0 ≤ q) wl → va_S (fun q => h0 ≤ q) s.heap H locs → lv_has ls 17 [(15, .int (nI tt)), (6, .int (nI 1)), (0, .ref b), (1, .ref (G 0)), (2, .ref (G 3)), (3, .ref (G 4)), (4, .ref (G 5)), (5, .ref (G 6)), (7, .int (nI n)), (8, .int (nI x)), (9, .int (nI v)), (10, .int (nI how)), (11, .int (nI (c1 20 1))), (12, .int (nI (c1 20 3))), (13, .int (nI kk)), (14, .int (nI oo))] → W p l e room_1 s m #[Value.ref b] below meth cd H locs (3000 + 600 * n) (200000 + 2100 * n + 70000 * ((n + 19) / 20)) Q (F0 m 451 ls []) := by
                    intro d451
                    induction d451 with
                    | zero => intro tt hd; exact absurd hd (Nat.not_lt_zero _)
                    | succ d451 ih451 =>
                      intro tt hd hi c2 r2 ρ2  hLI2 hun H locs wl ls hRc hRr hRo hP hD hS hl
                      obtain ⟨t1, t2, t3, t4, t5, t6, t7, -, -, -⟩ := LI_ar hLI2 (by omega)
                      have ho2 := IC_o t1
                      have hB2 := IC_B t1
                      refine lv_iload hx hb dL_law_451 (lv_at hl 0 rfl) ?_
                      refine lv_iload hx hb dL_law_453 (lv_at hl 10 rfl) ?_
                      refine lv_iconst (v := nI 4) hx hb dL_law_455 (by decide) ?_
                      refine n_irem hx hb dL_law_456 (by omega) (by first | omega | decide | assumption) (by decide) ?_
                      refine n_icmp_gt (tgt := 490) hx hb dL_law_457 (by decide) (by omega) (by omega) (fun c_457 => ?_) (fun c_457 => ?_)
                      · obtain ⟨ρ9, hLI9⟩ : ∃ ρ9, LI c2 r2 ρ9 (n + 1) := ⟨_, LI_le hLI2 (Nat.le_succ n)⟩
                        refine lv_goto (tgt := 584) hx hb dL_law_490 (by decide) ?_
                        obtain ⟨a1, a2, a3, a4, a5, a6, a7, a8, a9, a10⟩ := LI_ar hLI9 (by omega)
                        refine lv_iload hx hb dL_law_584 (lv_at hl 1 rfl) ?_
                        refine n_if_eq (tgt := 629) hx hb dL_law_586 (by decide) (by decide) (fun c_586 => absurd c_586 (by decide)) (fun c_586 => ?_)
                        refine lv_aload_n hx hb dL_law_589 rfl (lv_at hl 3 rfl) ?_
                        refine lv_aload_n hx hb dL_law_590 rfl (lv_at hl 4 rfl) ?_
                        refine lv_aload_n hx hb dL_law_591 rfl (lv_at hl 5 rfl) ?_
                        refine y_calli (va_runS (As := [.ref (G 0), .ref (G 3), .ref (G 4)]) (rest := []) ⟨hx, hb, hml, hown, hts⟩ (k_L_areUnits l D G h0 c2 r2 o a1 a2 a3 a4 a5 a6 a7) (va_cwS 3 hts gL_law_L_areUnits rfl rfl rfl (by decide +kernel) ⟨Nat.le_of_ble_eq_true rfl, Nat.le_of_ble_eq_true rfl⟩) ⟨fun a U g mk q => ⟨q.1, Pr_cg q.2⟩, fun U hU hW => ⟨rfl, Pr_mk hE hRc hRr hRo hP hD hS hU hW⟩⟩ rfl rfl hl.1 rfl (lv_room (Nat.le_of_ble_eq_true rfl)) dL_law_592 ⟨(show _ ≤ 1013921 from by omega), (show _ ≤ 6059706 from by omega)⟩) hS (fun v9 _ H locs wl hv9 hRc hRr hRo hP hD hS => ?_)
                        refine n_top (y := .int (nI 1)) (congrArg Value.int hv9) ?_
                        clear hv9 v9
                        refine n_if_eq (tgt := 629) hx hb dL_law_595 (by decide) (by decide) (fun c_595 => absurd c_595 (by decide)) (fun c_595 => ?_)
                        refine lv_aload_n hx hb dL_law_598 rfl (lv_at hl 3 rfl) ?_
                        refine lv_aload_n hx hb dL_law_599 rfl (lv_at hl 4 rfl) ?_
                        refine y_calli (va_runS (As := [.ref (G 0), .ref (G 3)]) (rest := []) ⟨hx, hb, hml, hown, hts⟩ (k_L_areRunning l D G h0 c2 r2 o a1 a2 a3 a4 a8 a9 a5) (va_cwS 2 hts gL_law_L_areRunning rfl rfl rfl (by decide +kernel) ⟨Nat.le_of_ble_eq_true rfl, Nat.le_of_ble_eq_true rfl⟩) ⟨fun a U g mk q => ⟨q.1, Pr_cg q.2⟩, fun U hU hW => ⟨rfl, Pr_mk hE hRc hRr hRo hP hD hS hU hW⟩⟩ rfl rfl hl.1 rfl (lv_room (Nat.le_of_ble_eq_true rfl)) dL_law_600 ⟨(show _ ≤ 1013921 from by omega), (show _ ≤ 6059706 from by omega)⟩) hS (fun v9 _ H locs wl hv9 hRc hRr hRo hP hD hS => ?_)
                        refine n_top (y := .int (nI 1)) (congrArg Value.int hv9) ?_
                        clear hv9 v9
                        refine n_if_eq (tgt := 629) hx hb dL_law_603 (by decide) (by decide) (fun c_603 => absurd c_603 (by decide)) (fun c_603 => ?_)
                        refine lv_iload hx hb dL_law_606 (lv_at hl 8 rfl) ?_
                        refine lv_bipush (v := nI 20) hx hb dL_law_608 (by decide) ?_
                        refine n_irem hx hb dL_law_610 (by omega) (by first | omega | decide | assumption) (by decide) ?_
                        refine n_if_gt (tgt := 625) hx hb dL_law_611 (by decide) (by omega) (fun c_611 => ?_) (fun c_611 => ?_)
                        · refine lv_iconst (v := nI 1) hx hb dL_law_625 (by decide) ?_
                          refine lv_goto (tgt := 630) hx hb dL_law_626 (by decide) ?_
                          refine lv_istore (lv' := [(6, .int (nI 1)), (15, .int (nI tt)), (0, .ref b), (1, .ref (G 0)), (2, .ref (G 3)), (3, .ref (G 4)), (4, .ref (G 5)), (5, .ref (G 6)), (7, .int (nI n)), (8, .int (nI x)), (9, .int (nI v)), (10, .int (nI how)), (11, .int (nI (c1 20 1))), (12, .int (nI (c1 20 3))), (13, .int (nI kk)), (14, .int (nI oo))]) hx hb dL_law_630 hl (by decide) rfl (fun ls hl => ?_)
                          refine lv_iinc (v := nI (n + 1)) (lv' := [(7, .int (nI (n + 1))), (6, .int (nI 1)), (15, .int (nI tt)), (0, .ref b), (1, .ref (G 0)), (2, .ref (G 3)), (3, .ref (G 4)), (4, .ref (G 5)), (5, .ref (G 6)), (8, .int (nI x)), (9, .int (nI v)), (10, .int (nI how)), (11, .int (nI (c1 20 1))), (12, .int (nI (c1 20 3))), (13, .int (nI kk)), (14, .int (nI oo))]) hx hb dL_law_632 hl (k := 8) rfl (nI_add n 1) (by decide) rfl (fun ls hl => ?_)
                          refine lv_goto (tgt := 62) hx hb dL_law_635 (by decide) ?_
                          refine W.widen (k := 3000 + 600 * (n + 1)) (n := 200000 + 2100 * (n + 1) + 70000 * (((n + 1) + 19) / 20)) (by omega) (by omega) ?_
                          exact ih62 (n + 1) (by omega) (by omega) (c2) (r2) (ρ9) (by exact hLI9) (by intro z; omega) _ _ _ _ hRc hRr hRo hP hD hS (lv_sub hl [0, 1, 3, 4, 5, 6, 7, 8] rfl)
                        · refine lv_aload_n hx hb dL_law_614 rfl (lv_at hl 3 rfl) ?_
                          refine lv_iload hx hb dL_law_615 (lv_at hl 9 rfl) ?_
                          refine lv_iconst (v := nI 3) hx hb dL_law_617 (by decide) ?_
                          refine n_idiv hx hb dL_law_618 (by omega) (by first | omega | decide | assumption) (by decide) ?_
                          refine y_calli (va_runS (As := [.ref (G 0), .int (nI (x / 3))]) (rest := []) ⟨hx, hb, hml, hown, hts⟩ (k_L_isRefused l D G h0 c2 r2 o hlt a1 (by omega) a2 (x / 3) (by omega)) (va_cwS 2 hts gL_law_L_isRefused rfl rfl rfl (by decide +kernel) ⟨Nat.le_of_ble_eq_true rfl, Nat.le_of_ble_eq_true rfl⟩) ⟨fun a U g mk q => ⟨q.1, Pr_cg q.2⟩, fun U hU hW => ⟨rfl, Pr_mk hE hRc hRr hRo hP hD hS hU hW⟩⟩ rfl rfl hl.1 rfl (lv_room (Nat.le_of_ble_eq_true rfl)) dL_law_619 ⟨(show _ ≤ 1013921 from by omega), (show _ ≤ 6059706 from by omega)⟩) hS (fun v9 _ H locs wl hv9 hRc hRr hRo hP hD hS => ?_)
                          refine n_top (y := .int (nI 1)) (congrArg Value.int hv9) ?_
                          clear hv9 v9
                          refine n_if_eq (tgt := 629) hx hb dL_law_622 (by decide) (by decide) (fun c_622 => absurd c_622 (by decide)) (fun c_622 => ?_)
                          refine lv_iconst (v := nI 1) hx hb dL_law_625 (by decide) ?_
                          refine lv_goto (tgt := 630) hx hb dL_law_626 (by decide) ?_
                          refine lv_istore (lv' := [(6, .int (nI 1)), (15, .int (nI tt)), (0, .ref b), (1, .ref (G 0)), (2, .ref (G 3)), (3, .ref (G 4)), (4, .ref (G 5)), (5, .ref (G 6)), (7, .int (nI n)), (8, .int (nI x)), (9, .int (nI v)), (10, .int (nI how)), (11, .int (nI (c1 20 1))), (12, .int (nI (c1 20 3))), (13, .int (nI kk)), (14, .int (nI oo))]) hx hb dL_law_630 hl (by decide) rfl (fun ls hl => ?_)
                          refine lv_iinc (v := nI (n + 1)) (lv' := [(7, .int (nI (n + 1))), (6, .int (nI 1)), (15, .int (nI tt)), (0, .ref b), (1, .ref (G 0)), (2, .ref (G 3)), (3, .ref (G 4)), (4, .ref (G 5)), (5, .ref (G 6)), (8, .int (nI x)), (9, .int (nI v)), (10, .int (nI how)), (11, .int (nI (c1 20 1))), (12, .int (nI (c1 20 3))), (13, .int (nI kk)), (14, .int (nI oo))]) hx hb dL_law_632 hl (k := 8) rfl (nI_add n 1) (by decide) rfl (fun ls hl => ?_)
                          refine lv_goto (tgt := 62) hx hb dL_law_635 (by decide) ?_
                          refine W.widen (k := 3000 + 600 * (n + 1)) (n := 200000 + 2100 * (n + 1) + 70000 * (((n + 1) + 19) / 20)) (by omega) (by omega) ?_
                          exact ih62 (n + 1) (by omega) (by omega) (c2) (r2) (ρ9) (by exact hLI9) (by intro z; omega) _ _ _ _ hRc hRr hRo hP hD hS (lv_sub hl [0, 1, 3, 4, 5, 6, 7, 8] rfl)
                      · refine lv_iload hx hb dL_law_460 (lv_at hl 1 rfl) ?_
                        refine n_if_eq (tgt := 490) hx hb dL_law_462 (by decide) (by decide) (fun c_462 => absurd c_462 (by decide)) (fun c_462 => ?_)
                        refine lv_aload_n hx hb dL_law_465 rfl (lv_at hl 3 rfl) ?_
                        refine y_calli (va_runV (As := []) (rest := []) ⟨hx, hb, hml, hown, hts⟩ (k_X2_goesOn l D G h0 c2 r2 o ho2.1) (cwV 0 hts gL_law_X2_goesOn rfl rfl rfl (by decide +kernel) ⟨Nat.le_of_ble_eq_true rfl, Nat.le_of_ble_eq_true rfl⟩) ⟨fun a U g mk q => ⟨q.1, Pr_cg q.2⟩, va_recv (ci := 3) (q0 := 0) hK hP rfl (Q_o hRc), fun U hU hW => ⟨rfl, Pr_mk hE hRc hRr hRo hP hD hS hU hW⟩⟩ rfl rfl hl.1 rfl (lv_room (Nat.le_of_ble_eq_true rfl)) dL_law_466 ⟨(show _ ≤ 1013921 from by omega), (show _ ≤ 6059706 from by omega)⟩) hS (fun v9 _ H locs wl hv9 hRc hRr hRo hP hD hS => ?_)
                        refine n_top (y := .int (nI (c2 20 3))) (congrArg Value.int hv9) ?_
                        clear hv9 v9
                        refine n_if_eq (tgt := 490) hx hb dL_law_469 (by decide) (ho3 ho2.1) (fun c_469 => ?_) (fun c_469 => ?_)
                        · obtain ⟨ρ9, hLI9⟩ : ∃ ρ9, LI c2 r2 ρ9 (n + 1) := ⟨_, LI_le hLI2 (Nat.le_succ n)⟩
                          refine lv_goto (tgt := 584) hx hb dL_law_490 (by decide) ?_
                          obtain ⟨a1, a2, a3, a4, a5, a6, a7, a8, a9, a10⟩ := LI_ar hLI9 (by omega)
                          refine lv_iload hx hb dL_law_584 (lv_at hl 1 rfl) ?_
                          refine n_if_eq (tgt := 629) hx hb dL_law_586 (by decide) (by decide) (fun c_586 => absurd c_586 (by decide)) (fun c_586 => ?_)
                          refine lv_aload_n hx hb dL_law_589 rfl (lv_at hl 3 rfl) ?_
                          refine lv_aload_n hx hb dL_law_590 rfl (lv_at hl 4 rfl) ?_
                          refine lv_aload_n hx hb dL_law_591 rfl (lv_at hl 5 rfl) ?_
                          refine y_calli (va_runS (As := [.ref (G 0), .ref (G 3), .ref (G 4)]) (rest := []) ⟨hx, hb, hml, hown, hts⟩ (k_L_areUnits l D G h0 c2 r2 o a1 a2 a3 a4 a5 a6 a7) (va_cwS 3 hts gL_law_L_areUnits rfl rfl rfl (by decide +kernel) ⟨Nat.le_of_ble_eq_true rfl, Nat.le_of_ble_eq_true rfl⟩) ⟨fun a U g mk q => ⟨q.1, Pr_cg q.2⟩, fun U hU hW => ⟨rfl, Pr_mk hE hRc hRr hRo hP hD hS hU hW⟩⟩ rfl rfl hl.1 rfl (lv_room (Nat.le_of_ble_eq_true rfl)) dL_law_592 ⟨(show _ ≤ 1013921 from by omega), (show _ ≤ 6059706 from by omega)⟩) hS (fun v9 _ H locs wl hv9 hRc hRr hRo hP hD hS => ?_)
                          refine n_top (y := .int (nI 1)) (congrArg Value.int hv9) ?_
                          clear hv9 v9
                          refine n_if_eq (tgt := 629) hx hb dL_law_595 (by decide) (by decide) (fun c_595 => absurd c_595 (by decide)) (fun c_595 => ?_)
                          refine lv_aload_n hx hb dL_law_598 rfl (lv_at hl 3 rfl) ?_
                          refine lv_aload_n hx hb dL_law_599 rfl (lv_at hl 4 rfl) ?_
                          refine y_calli (va_runS (As := [.ref (G 0), .ref (G 3)]) (rest := []) ⟨hx, hb, hml, hown, hts⟩ (k_L_areRunning l D G h0 c2 r2 o a1 a2 a3 a4 a8 a9 a5) (va_cwS 2 hts gL_law_L_areRunning rfl rfl rfl (by decide +kernel) ⟨Nat.le_of_ble_eq_true rfl, Nat.le_of_ble_eq_true rfl⟩) ⟨fun a U g mk q => ⟨q.1, Pr_cg q.2⟩, fun U hU hW => ⟨rfl, Pr_mk hE hRc hRr hRo hP hD hS hU hW⟩⟩ rfl rfl hl.1 rfl (lv_room (Nat.le_of_ble_eq_true rfl)) dL_law_600 ⟨(show _ ≤ 1013921 from by omega), (show _ ≤ 6059706 from by omega)⟩) hS (fun v9 _ H locs wl hv9 hRc hRr hRo hP hD hS => ?_)
                          refine n_top (y := .int (nI 1)) (congrArg Value.int hv9) ?_
                          clear hv9 v9
                          refine n_if_eq (tgt := 629) hx hb dL_law_603 (by decide) (by decide) (fun c_603 => absurd c_603 (by decide)) (fun c_603 => ?_)
                          refine lv_iload hx hb dL_law_606 (lv_at hl 8 rfl) ?_
                          refine lv_bipush (v := nI 20) hx hb dL_law_608 (by decide) ?_
                          refine n_irem hx hb dL_law_610 (by omega) (by first | omega | decide | assumption) (by decide) ?_
                          refine n_if_gt (tgt := 625) hx hb dL_law_611 (by decide) (by omega) (fun c_611 => ?_) (fun c_611 => ?_)
                          · refine lv_iconst (v := nI 1) hx hb dL_law_625 (by decide) ?_
                            refine lv_goto (tgt := 630) hx hb dL_law_626 (by decide) ?_
                            refine lv_istore (lv' := [(6, .int (nI 1)), (15, .int (nI tt)), (0, .ref b), (1, .ref (G 0)), (2, .ref (G 3)), (3, .ref (G 4)), (4, .ref (G 5)), (5, .ref (G 6)), (7, .int (nI n)), (8, .int (nI x)), (9, .int (nI v)), (10, .int (nI how)), (11, .int (nI (c1 20 1))), (12, .int (nI (c1 20 3))), (13, .int (nI kk)), (14, .int (nI oo))]) hx hb dL_law_630 hl (by decide) rfl (fun ls hl => ?_)
                            refine lv_iinc (v := nI (n + 1)) (lv' := [(7, .int (nI (n + 1))), (6, .int (nI 1)), (15, .int (nI tt)), (0, .ref b), (1, .ref (G 0)), (2, .ref (G 3)), (3, .ref (G 4)), (4, .ref (G 5)), (5, .ref (G 6)), (8, .int (nI x)), (9, .int (nI v)), (10, .int (nI how)), (11, .int (nI (c1 20 1))), (12, .int (nI (c1 20 3))), (13, .int (nI kk)), (14, .int (nI oo))]) hx hb dL_law_632 hl (k := 8) rfl (nI_add n 1) (by decide) rfl (fun ls hl => ?_)
                            refine lv_goto (tgt := 62) hx hb dL_law_635 (by decide) ?_
                            refine W.widen (k := 3000 + 600 * (n + 1)) (n := 200000 + 2100 * (n + 1) + 70000 * (((n + 1) + 19) / 20)) (by omega) (by omega) ?_
                            exact ih62 (n + 1) (by omega) (by omega) (c2) (r2) (ρ9) (by exact hLI9) (by intro z; omega) _ _ _ _ hRc hRr hRo hP hD hS (lv_sub hl [0, 1, 3, 4, 5, 6, 7, 8] rfl)
                          · refine lv_aload_n hx hb dL_law_614 rfl (lv_at hl 3 rfl) ?_
                            refine lv_iload hx hb dL_law_615 (lv_at hl 9 rfl) ?_
                            refine lv_iconst (v := nI 3) hx hb dL_law_617 (by decide) ?_
                            refine n_idiv hx hb dL_law_618 (by omega) (by first | omega | decide | assumption) (by decide) ?_
                            refine y_calli (va_runS (As := [.ref (G 0), .int (nI (x / 3))]) (rest := []) ⟨hx, hb, hml, hown, hts⟩ (k_L_isRefused l D G h0 c2 r2 o hlt a1 (by omega) a2 (x / 3) (by omega)) (va_cwS 2 hts gL_law_L_isRefused rfl rfl rfl (by decide +kernel) ⟨Nat.le_of_ble_eq_true rfl, Nat.le_of_ble_eq_true rfl⟩) ⟨fun a U g mk q => ⟨q.1, Pr_cg q.2⟩, fun U hU hW => ⟨rfl, Pr_mk hE hRc hRr hRo hP hD hS hU hW⟩⟩ rfl rfl hl.1 rfl (lv_room (Nat.le_of_ble_eq_true rfl)) dL_law_619 ⟨(show _ ≤ 1013921 from by omega), (show _ ≤ 6059706 from by omega)⟩) hS (fun v9 _ H locs wl hv9 hRc hRr hRo hP hD hS => ?_)
                            refine n_top (y := .int (nI 1)) (congrArg Value.int hv9) ?_
                            clear hv9 v9
                            refine n_if_eq (tgt := 629) hx hb dL_law_622 (by decide) (by decide) (fun c_622 => absurd c_622 (by decide)) (fun c_622 => ?_)
                            refine lv_iconst (v := nI 1) hx hb dL_law_625 (by decide) ?_
                            refine lv_goto (tgt := 630) hx hb dL_law_626 (by decide) ?_
                            refine lv_istore (lv' := [(6, .int (nI 1)), (15, .int (nI tt)), (0, .ref b), (1, .ref (G 0)), (2, .ref (G 3)), (3, .ref (G 4)), (4, .ref (G 5)), (5, .ref (G 6)), (7, .int (nI n)), (8, .int (nI x)), (9, .int (nI v)), (10, .int (nI how)), (11, .int (nI (c1 20 1))), (12, .int (nI (c1 20 3))), (13, .int (nI kk)), (14, .int (nI oo))]) hx hb dL_law_630 hl (by decide) rfl (fun ls hl => ?_)
                            refine lv_iinc (v := nI (n + 1)) (lv' := [(7, .int (nI (n + 1))), (6, .int (nI 1)), (15, .int (nI tt)), (0, .ref b), (1, .ref (G 0)), (2, .ref (G 3)), (3, .ref (G 4)), (4, .ref (G 5)), (5, .ref (G 6)), (8, .int (nI x)), (9, .int (nI v)), (10, .int (nI how)), (11, .int (nI (c1 20 1))), (12, .int (nI (c1 20 3))), (13, .int (nI kk)), (14, .int (nI oo))]) hx hb dL_law_632 hl (k := 8) rfl (nI_add n 1) (by decide) rfl (fun ls hl => ?_)
                            refine lv_goto (tgt := 62) hx hb dL_law_635 (by decide) ?_
                            refine W.widen (k := 3000 + 600 * (n + 1)) (n := 200000 + 2100 * (n + 1) + 70000 * (((n + 1) + 19) / 20)) (by omega) (by omega) ?_
                            exact ih62 (n + 1) (by omega) (by omega) (c2) (r2) (ρ9) (by exact hLI9) (by intro z; omega) _ _ _ _ hRc hRr hRo hP hD hS (lv_sub hl [0, 1, 3, 4, 5, 6, 7, 8] rfl)
                        · have hgt : c2 20 3 ≠ 0 := by omega
                          obtain ⟨k1, k2, k3⟩ := LI_tk hLI2 hgt
                          refine lv_aload_n hx hb dL_law_472 rfl (lv_at hl 3 rfl) ?_
                          refine lv_aload_n hx hb dL_law_473 rfl (lv_at hl 4 rfl) ?_
                          refine lv_aload_n hx hb dL_law_474 rfl (lv_at hl 5 rfl) ?_
                          refine lv_aload hx hb dL_law_475 (lv_at hl 6 rfl) ?_
                          refine lv_aload hx hb dL_law_477 (lv_at hl 7 rfl) ?_
                          refine y_calli (va_runS (As := [.ref (G 0), .ref (G 3), .ref (G 4), .ref (G 5), .ref (G 6)]) (rest := []) ⟨hx, hb, hml, hown, hts⟩ (k_L_isTicked l D G h0 c2 r2 o t1 t2 t3 t4 t5 t6 hgt t7 k1 k2 k3) (va_cwS 5 hts gL_law_L_isTicked rfl rfl rfl (by decide +kernel) ⟨Nat.le_of_ble_eq_true rfl, Nat.le_of_ble_eq_true rfl⟩) ⟨fun a U g mk q => ⟨q.1, Pr_cg q.2⟩, fun U hU hW => ⟨rfl, Pr_mk hE hRc hRr hRo hP hD hS hU hW⟩⟩ rfl rfl hl.1 rfl (lv_room (Nat.le_of_ble_eq_true rfl)) dL_law_479 ⟨(show _ ≤ 1013921 from by omega), (show _ ≤ 6059706 from by omega)⟩) hS (fun v9 u_479 H locs wl hv9 hRc hRr hRo hP hD hS => ?_)
                          obtain ⟨hv9, i1, i2, i3, i4⟩ := hv9
                          have hLI3 := LI_tick hLI2 hgt i1 i2 i3 i4
                          have e21 : c_tick1 c2 20 1 = c2 20 1 := tk1_20 c2 (by decide) (by decide)
                          refine n_top (y := .int (nI 1)) (congrArg Value.int hv9) ?_
                          clear hv9
                          refine lv_istore (lv' := [(6, .int (nI 1)), (15, .int (nI tt)), (0, .ref b), (1, .ref (G 0)), (2, .ref (G 3)), (3, .ref (G 4)), (4, .ref (G 5)), (5, .ref (G 6)), (7, .int (nI n)), (8, .int (nI x)), (9, .int (nI v)), (10, .int (nI how)), (11, .int (nI (c1 20 1))), (12, .int (nI (c1 20 3))), (13, .int (nI kk)), (14, .int (nI oo))]) hx hb dL_law_482 hl (by decide) rfl (fun ls hl => ?_)
                          refine lv_iinc (v := nI (tt + 1)) (lv' := [(15, .int (nI (tt + 1))), (6, .int (nI 1)), (0, .ref b), (1, .ref (G 0)), (2, .ref (G 3)), (3, .ref (G 4)), (4, .ref (G 5)), (5, .ref (G 6)), (7, .int (nI n)), (8, .int (nI x)), (9, .int (nI v)), (10, .int (nI how)), (11, .int (nI (c1 20 1))), (12, .int (nI (c1 20 3))), (13, .int (nI kk)), (14, .int (nI oo))]) hx hb dL_law_484 hl (k := 1) rfl (nI_add tt 1) (by decide) rfl (fun ls hl => ?_)
                          refine lv_goto (tgt := 451) hx hb dL_law_487 (by decide) ?_
                          exact ih451 (tt + 1) (by omega) (by omega) (c_tick1 c2) (u_479) ((r_tick1 ρ2)) (by exact hLI3) (by omega) _ _ _ _ hRc hRr hRo hP hD hS (lv_sub hl [0, 1, 2, 3, 4, 5, 6, 7, 8, 9, 10, 11, 12, 13, 14, 15] rfl)
                  exact L451 _ 0 (Nat.lt_succ_self _) (by omega) (c1) (r1) (ρ1) (by exact hLI) (by rfl) _ _ _ _ hRc hRr hRo hP hD hS (lv_sub hl [0, 9, 10, 11, 12, 13, 14, 15, 8, 7, 6, 5, 4, 3, 2, 1] rfl)
              · refine lv_aload_n hx hb dL_law_378 rfl (lv_at hl 10 rfl) ?_
                refine lv_iload hx hb dL_law_379 (lv_at hl 1 rfl) ?_
                refine y_calli (va_runV (As := [.int (nI kk)]) (rest := []) ⟨hx, hb, hml, hown, hts⟩ (k_X2_faults_ok l D G h0 c1 r1 o hI1 kk (by first | omega | assumption)) (cwV 1 hts gL_law_X2_faults rfl rfl rfl (by decide +kernel) ⟨Nat.le_of_ble_eq_true rfl, Nat.le_of_ble_eq_true rfl⟩) ⟨fun a U g mk q => ⟨q.1, Pr_cg q.2⟩, va_recv (ci := 3) (q0 := 0) hK hP rfl (Q_o hRc), fun U hU hW => ⟨rfl, Pr_mk hE hRc hRr hRo hP hD hS hU hW⟩⟩ rfl rfl hl.1 rfl (lv_room (Nat.le_of_ble_eq_true rfl)) dL_law_381 ⟨(show _ ≤ 1013921 from by omega), (show _ ≤ 6059706 from by omega)⟩) hS (fun v9 _ H locs wl hv9 hRc hRr hRo hP hD hS => ?_)
                refine n_top (y := .int (nI (c1 4 kk))) (congrArg Value.int hv9) ?_
                clear hv9 v9
                refine lv_istore (lv' := [(15, .int (nI (c1 4 kk))), (14, .int (nI oo)), (13, .int (nI kk)), (12, .int (nI (c1 20 3))), (11, .int (nI (c1 20 1))), (10, .int (nI how)), (9, .int (nI v)), (8, .int (nI x)), (7, .int (nI n)), (6, .int (nI 1)), (0, .ref b), (1, .ref (G 0)), (2, .ref (G 3)), (3, .ref (G 4)), (4, .ref (G 5)), (5, .ref (G 6))]) hx hb dL_law_384 hl (by decide) rfl (fun ls hl => ?_)
                refine lv_iload hx hb dL_law_386 (lv_at hl 6 rfl) ?_
                refine lv_bipush (v := nI 8) hx hb dL_law_388 (by decide) ?_
                refine n_idiv hx hb dL_law_390 (by omega) (by first | omega | decide | assumption) (by decide) ?_
                have J391 : (∀ (H : Heap) (locs : List Loc) (wl : va_W), Rc G c1 wl → Rr G r1 wl → Ro G o wl → va_P D vwCl wl H → va_D (fun q => h0 ≤ q) wl → va_S (fun q => h0 ≤ q) s.heap H locs → W p l e room_1 s m #[Value.ref b] below meth cd H locs (3000 + 600 * n) (200000 + 2100 * n + 70000 * ((n + 19) / 20)) Q (F0 m 404 ls [.int (nI mf), .int (nI (v / 8))])) → W p l e room_1 s m #[Value.ref b] below meth cd H locs (3000 + 600 * n) (200000 + 2100 * n + 70000 * ((n + 19) / 20)) Q (F0 m 391 ls [.int (nI (v / 8))]) := by
                  intro hk391
                  refine lv_iload hx hb dL_law_391 (lv_at hl 6 rfl) ?_
                  refine lv_iconst (v := nI 4) hx hb dL_law_393 (by decide) ?_
                  refine n_irem hx hb dL_law_394 (by omega) (by first | omega | decide | assumption) (by decide) ?_
                  refine n_if_ne (tgt := 403) hx hb dL_law_395 (by decide) (by omega) (fun c_395 => ?_) (fun c_395 => ?_)
                  · refine lv_iconst (v := nI 3) hx hb dL_law_403 (by decide) ?_
                    refine n_top (y := .int (nI mf)) (congrArg Value.int (show nI 3 = nI mf from by exact congrArg nI (hmf.2 (by omega)).symm)) ?_
                    exact hk391 _ _ _ hRc hRr hRo hP hD hS
                  · refine lv_bipush (v := nI 11) hx hb dL_law_398 (by decide) ?_
                    refine lv_goto (tgt := 404) hx hb dL_law_400 (by decide) ?_
                    refine n_top (y := .int (nI mf)) (congrArg Value.int (show nI 11 = nI mf from by exact congrArg nI (hmf.1 (by omega)).symm)) ?_
                    exact hk391 _ _ _ hRc hRr hRo hP hD hS
                refine J391 (fun H locs wl hRc hRr hRo hP hD hS => ?_)
                refine n_irem hx hb dL_law_404 (by omega) (by first | omega | decide | assumption) (by omega) ?_
                refine lv_istore (lv' := [(16, .int (nI ((v / 8) % mf))), (15, .int (nI (c1 4 kk))), (14, .int (nI oo)), (13, .int (nI kk)), (12, .int (nI (c1 20 3))), (11, .int (nI (c1 20 1))), (10, .int (nI how)), (9, .int (nI v)), (8, .int (nI x)), (7, .int (nI n)), (6, .int (nI 1)), (0, .ref b), (1, .ref (G 0)), (2, .ref (G 3)), (3, .ref (G 4)), (4, .ref (G 5)), (5, .ref (G 6))]) hx hb dL_law_405 hl (by decide) rfl (fun ls hl => ?_)
                refine lv_aload_n hx hb dL_law_407 rfl (lv_at hl 12 rfl) ?_
                refine lv_iconst (v := nI 5) hx hb dL_law_408 (by decide) ?_
                refine lv_iload hx hb dL_law_409 (lv_at hl 3 rfl) ?_
                refine lv_iload hx hb dL_law_411 (lv_at hl 0 rfl) ?_
                refine lv_iconst (v := nI 0) hx hb dL_law_413 (by decide) ?_
                refine y_calli (va_SW (As := [.ref (G 0), .int (nI 5), .int (nI kk), .int (nI ((v / 8) % mf)), .int (nI 0)]) (rest := []) hx hb hml hown hts (k_L_act_setFaults l hlt D G h0 c1 r1 o (nI kk) (nI ((v / 8) % mf)) (nI 0) hI1) (vx_cwSW 5 hts gL_law_L_act rfl rfl rfl (by decide +kernel) ⟨(Nat.le_of_ble_eq_true rfl), (Nat.le_of_ble_eq_true rfl)⟩) (fun a U g mk q => ⟨q.1, Pr_cg q.2⟩) (fun U hU hW => ⟨rfl, Pr_mk hE hRc hRr hRo hP hD hS hU hW⟩) rfl hl.1 rfl (lv_room (Nat.le_of_ble_eq_true rfl)) dL_law_414 (show _ ≤ 1013921 from by omega) (show _ ≤ 6059706 from by omega)) hS (fun v9 C2 H locs wl hv9 hRc hRr hRo hP hD hS => ?_)
                have hv9 := A_setFaults hv9 (hkk (by omega)) (by omega) (by omega)
                refine n_top (y := .int (nI (c1 4 kk))) (congrArg Value.int hv9.1) ?_
                obtain ⟨ρ9, hLI9⟩ := LI_faults hLI (a := kk) (t := v / 8 % mf) (hkk (by omega)) (by omega)
                rw [← hv9.2] at hLI9
                have hC2 : C2 20 1 = c1 20 1 ∧ C2 20 3 = c1 20 3 ∧ C2 4 kk = v / 8 % mf := by rw [hv9.2]; exact ⟨rfl, rfl, up2_s ..⟩
                have hIC2 := hLI9.1.1
                have hB2 := IC_B hIC2
                clear hv9
                refine lv_iload hx hb dL_law_417 (lv_at hl 1 rfl) ?_
                refine n_icmp_ne (tgt := 437) hx hb dL_law_419 (by decide) (hB1 _ _ (by decide)) (hB1 _ _ (by decide)) (fun c_419 => ?_) (fun c_419 => ?_)
                · exfalso; exact c_419 rfl
                · refine lv_aload_n hx hb dL_law_422 rfl (lv_at hl 12 rfl) ?_
                  refine lv_iload hx hb dL_law_423 (lv_at hl 3 rfl) ?_
                  refine y_calli (va_runV (As := [.int (nI kk)]) (rest := []) ⟨hx, hb, hml, hown, hts⟩ (k_X2_faults_ok l D G h0 C2 r1 o hIC2 kk (by first | omega | assumption)) (cwV 1 hts gL_law_X2_faults rfl rfl rfl (by decide +kernel) ⟨Nat.le_of_ble_eq_true rfl, Nat.le_of_ble_eq_true rfl⟩) ⟨fun a U g mk q => ⟨q.1, Pr_cg q.2⟩, va_recv (ci := 3) (q0 := 0) hK hP rfl (Q_o hRc), fun U hU hW => ⟨rfl, Pr_mk hE hRc hRr hRo hP hD hS hU hW⟩⟩ rfl rfl hl.1 rfl (lv_room (Nat.le_of_ble_eq_true rfl)) dL_law_425 ⟨(show _ ≤ 1013921 from by omega), (show _ ≤ 6059706 from by omega)⟩) hS (fun v9 _ H locs wl hv9 hRc hRr hRo hP hD hS => ?_)
                  refine n_top (y := .int (nI (C2 4 kk))) (congrArg Value.int hv9) ?_
                  clear hv9 v9
                  refine lv_iload hx hb dL_law_428 (lv_at hl 0 rfl) ?_
                  refine n_icmp_ne (tgt := 437) hx hb dL_law_430 (by decide) (hB2 _ _ (by decide)) (by omega) (fun c_430 => ?_) (fun c_430 => ?_)
                  · exfalso; omega
                  · refine lv_iconst (v := nI 1) hx hb dL_law_433 (by decide) ?_
                    refine lv_goto (tgt := 438) hx hb dL_law_434 (by decide) ?_
                    refine lv_istore (lv' := [(6, .int (nI 1)), (16, .int (nI ((v / 8) % mf))), (15, .int (nI (c1 4 kk))), (14, .int (nI oo)), (13, .int (nI kk)), (12, .int (nI (c1 20 3))), (11, .int (nI (c1 20 1))), (10, .int (nI how)), (9, .int (nI v)), (8, .int (nI x)), (7, .int (nI n)), (0, .ref b), (1, .ref (G 0)), (2, .ref (G 3)), (3, .ref (G 4)), (4, .ref (G 5)), (5, .ref (G 6))]) hx hb dL_law_438 hl (by decide) rfl (fun ls hl => ?_)
                    refine lv_goto (tgt := 584) hx hb dL_law_440 (by decide) ?_
                    obtain ⟨a1, a2, a3, a4, a5, a6, a7, a8, a9, a10⟩ := LI_ar hLI9 (by omega)
                    refine lv_iload hx hb dL_law_584 (lv_at hl 0 rfl) ?_
                    refine n_if_eq (tgt := 629) hx hb dL_law_586 (by decide) (by decide) (fun c_586 => absurd c_586 (by decide)) (fun c_586 => ?_)
                    refine lv_aload_n hx hb dL_law_589 rfl (lv_at hl 12 rfl) ?_
                    refine lv_aload_n hx hb dL_law_590 rfl (lv_at hl 13 rfl) ?_
                    refine lv_aload_n hx hb dL_law_591 rfl (lv_at hl 14 rfl) ?_
                    refine y_calli (va_runS (As := [.ref (G 0), .ref (G 3), .ref (G 4)]) (rest := []) ⟨hx, hb, hml, hown, hts⟩ (k_L_areUnits l D G h0 C2 r1 o a1 a2 a3 a4 a5 a6 a7) (va_cwS 3 hts gL_law_L_areUnits rfl rfl rfl (by decide +kernel) ⟨Nat.le_of_ble_eq_true rfl, Nat.le_of_ble_eq_true rfl⟩) ⟨fun a U g mk q => ⟨q.1, Pr_cg q.2⟩, fun U hU hW => ⟨rfl, Pr_mk hE hRc hRr hRo hP hD hS hU hW⟩⟩ rfl rfl hl.1 rfl (lv_room (Nat.le_of_ble_eq_true rfl)) dL_law_592 ⟨(show _ ≤ 1013921 from by omega), (show _ ≤ 6059706 from by omega)⟩) hS (fun v9 _ H locs wl hv9 hRc hRr hRo hP hD hS => ?_)
                    refine n_top (y := .int (nI 1)) (congrArg Value.int hv9) ?_
                    clear hv9 v9
                    refine n_if_eq (tgt := 629) hx hb dL_law_595 (by decide) (by decide) (fun c_595 => absurd c_595 (by decide)) (fun c_595 => ?_)
                    refine lv_aload_n hx hb dL_law_598 rfl (lv_at hl 12 rfl) ?_
                    refine lv_aload_n hx hb dL_law_599 rfl (lv_at hl 13 rfl) ?_
                    refine y_calli (va_runS (As := [.ref (G 0), .ref (G 3)]) (rest := []) ⟨hx, hb, hml, hown, hts⟩ (k_L_areRunning l D G h0 C2 r1 o a1 a2 a3 a4 a8 a9 a5) (va_cwS 2 hts gL_law_L_areRunning rfl rfl rfl (by decide +kernel) ⟨Nat.le_of_ble_eq_true rfl, Nat.le_of_ble_eq_true rfl⟩) ⟨fun a U g mk q => ⟨q.1, Pr_cg q.2⟩, fun U hU hW => ⟨rfl, Pr_mk hE hRc hRr hRo hP hD hS hU hW⟩⟩ rfl rfl hl.1 rfl (lv_room (Nat.le_of_ble_eq_true rfl)) dL_law_600 ⟨(show _ ≤ 1013921 from by omega), (show _ ≤ 6059706 from by omega)⟩) hS (fun v9 _ H locs wl hv9 hRc hRr hRo hP hD hS => ?_)
                    refine n_top (y := .int (nI 1)) (congrArg Value.int hv9) ?_
                    clear hv9 v9
                    refine n_if_eq (tgt := 629) hx hb dL_law_603 (by decide) (by decide) (fun c_603 => absurd c_603 (by decide)) (fun c_603 => ?_)
                    refine lv_iload hx hb dL_law_606 (lv_at hl 10 rfl) ?_
                    refine lv_bipush (v := nI 20) hx hb dL_law_608 (by decide) ?_
                    refine n_irem hx hb dL_law_610 (by omega) (by first | omega | decide | assumption) (by decide) ?_
                    refine n_if_gt (tgt := 625) hx hb dL_law_611 (by decide) (by omega) (fun c_611 => ?_) (fun c_611 => ?_)
                    · refine lv_iconst (v := nI 1) hx hb dL_law_625 (by decide) ?_
                      refine lv_goto (tgt := 630) hx hb dL_law_626 (by decide) ?_
                      refine lv_istore (lv' := [(6, .int (nI 1)), (16, .int (nI ((v / 8) % mf))), (15, .int (nI (c1 4 kk))), (14, .int (nI oo)), (13, .int (nI kk)), (12, .int (nI (c1 20 3))), (11, .int (nI (c1 20 1))), (10, .int (nI how)), (9, .int (nI v)), (8, .int (nI x)), (7, .int (nI n)), (0, .ref b), (1, .ref (G 0)), (2, .ref (G 3)), (3, .ref (G 4)), (4, .ref (G 5)), (5, .ref (G 6))]) hx hb dL_law_630 hl (by decide) rfl (fun ls hl => ?_)
                      refine lv_iinc (v := nI (n + 1)) (lv' := [(7, .int (nI (n + 1))), (6, .int (nI 1)), (16, .int (nI ((v / 8) % mf))), (15, .int (nI (c1 4 kk))), (14, .int (nI oo)), (13, .int (nI kk)), (12, .int (nI (c1 20 3))), (11, .int (nI (c1 20 1))), (10, .int (nI how)), (9, .int (nI v)), (8, .int (nI x)), (0, .ref b), (1, .ref (G 0)), (2, .ref (G 3)), (3, .ref (G 4)), (4, .ref (G 5)), (5, .ref (G 6))]) hx hb dL_law_632 hl (k := 10) rfl (nI_add n 1) (by decide) rfl (fun ls hl => ?_)
                      refine lv_goto (tgt := 62) hx hb dL_law_635 (by decide) ?_
                      refine W.widen (k := 3000 + 600 * (n + 1)) (n := 200000 + 2100 * (n + 1) + 70000 * (((n + 1) + 19) / 20)) (by omega) (by omega) ?_
                      exact ih62 (n + 1) (by omega) (by omega) (C2) (r1) (ρ9) (by exact hLI9) (by intro z; omega) _ _ _ _ hRc hRr hRo hP hD hS (lv_sub hl [0, 1, 11, 12, 13, 14, 15, 16] rfl)
                    · refine lv_aload_n hx hb dL_law_614 rfl (lv_at hl 12 rfl) ?_
                      refine lv_iload hx hb dL_law_615 (lv_at hl 9 rfl) ?_
                      refine lv_iconst (v := nI 3) hx hb dL_law_617 (by decide) ?_
                      refine n_idiv hx hb dL_law_618 (by omega) (by first | omega | decide | assumption) (by decide) ?_
                      refine y_calli (va_runS (As := [.ref (G 0), .int (nI (x / 3))]) (rest := []) ⟨hx, hb, hml, hown, hts⟩ (k_L_isRefused l D G h0 C2 r1 o hlt a1 (by omega) a2 (x / 3) (by omega)) (va_cwS 2 hts gL_law_L_isRefused rfl rfl rfl (by decide +kernel) ⟨Nat.le_of_ble_eq_true rfl, Nat.le_of_ble_eq_true rfl⟩) ⟨fun a U g mk q => ⟨q.1, Pr_cg q.2⟩, fun U hU hW => ⟨rfl, Pr_mk hE hRc hRr hRo hP hD hS hU hW⟩⟩ rfl rfl hl.1 rfl (lv_room (Nat.le_of_ble_eq_true rfl)) dL_law_619 ⟨(show _ ≤ 1013921 from by omega), (show _ ≤ 6059706 from by omega)⟩) hS (fun v9 _ H locs wl hv9 hRc hRr hRo hP hD hS => ?_)
                      refine n_top (y := .int (nI 1)) (congrArg Value.int hv9) ?_
                      clear hv9 v9
                      refine n_if_eq (tgt := 629) hx hb dL_law_622 (by decide) (by decide) (fun c_622 => absurd c_622 (by decide)) (fun c_622 => ?_)
                      refine lv_iconst (v := nI 1) hx hb dL_law_625 (by decide) ?_
                      refine lv_goto (tgt := 630) hx hb dL_law_626 (by decide) ?_
                      refine lv_istore (lv' := [(6, .int (nI 1)), (16, .int (nI ((v / 8) % mf))), (15, .int (nI (c1 4 kk))), (14, .int (nI oo)), (13, .int (nI kk)), (12, .int (nI (c1 20 3))), (11, .int (nI (c1 20 1))), (10, .int (nI how)), (9, .int (nI v)), (8, .int (nI x)), (7, .int (nI n)), (0, .ref b), (1, .ref (G 0)), (2, .ref (G 3)), (3, .ref (G 4)), (4, .ref (G 5)), (5, .ref (G 6))]) hx hb dL_law_630 hl (by decide) rfl (fun ls hl => ?_)
                      refine lv_iinc (v := nI (n + 1)) (lv' := [(7, .int (nI (n + 1))), (6, .int (nI 1)), (16, .int (nI ((v / 8) % mf))), (15, .int (nI (c1 4 kk))), (14, .int (nI oo)), (13, .int (nI kk)), (12, .int (nI (c1 20 3))), (11, .int (nI (c1 20 1))), (10, .int (nI how)), (9, .int (nI v)), (8, .int (nI x)), (0, .ref b), (1, .ref (G 0)), (2, .ref (G 3)), (3, .ref (G 4)), (4, .ref (G 5)), (5, .ref (G 6))]) hx hb dL_law_632 hl (k := 10) rfl (nI_add n 1) (by decide) rfl (fun ls hl => ?_)
                      refine lv_goto (tgt := 62) hx hb dL_law_635 (by decide) ?_
                      refine W.widen (k := 3000 + 600 * (n + 1)) (n := 200000 + 2100 * (n + 1) + 70000 * (((n + 1) + 19) / 20)) (by omega) (by omega) ?_
                      exact ih62 (n + 1) (by omega) (by omega) (C2) (r1) (ρ9) (by exact hLI9) (by intro z; omega) _ _ _ _ hRc hRr hRo hP hD hS (lv_sub hl [0, 1, 11, 12, 13, 14, 15, 16] rfl)
            · refine lv_aload_n hx hb dL_law_302 rfl (lv_at hl 11 rfl) ?_
              refine lv_bipush (v := nI 8) hx hb dL_law_303 (by decide) ?_
              refine lv_iload hx hb dL_law_305 (lv_at hl 1 rfl) ?_
              refine n_imul hx hb dL_law_307 ?_
              refine x_iald hx hb hK hP 3 (Q_g hRr) (by first | omega | decide | assumption) (by decide) dL_law_308 (v := nI (r1 10 kk)) (gV_0 _ kk) ?_
              refine lv_istore (lv' := [(15, .int (nI (r1 10 kk))), (14, .int (nI oo)), (13, .int (nI kk)), (12, .int (nI (c1 20 3))), (11, .int (nI (c1 20 1))), (10, .int (nI how)), (9, .int (nI v)), (8, .int (nI x)), (7, .int (nI n)), (6, .int (nI 1)), (0, .ref b), (1, .ref (G 0)), (2, .ref (G 3)), (3, .ref (G 4)), (4, .ref (G 5)), (5, .ref (G 6))]) hx hb dL_law_309 hl (by decide) rfl (fun ls hl => ?_)
              refine lv_aload_n hx hb dL_law_311 rfl (lv_at hl 12 rfl) ?_
              refine lv_bipush (v := nI 8) hx hb dL_law_312 (by decide) ?_
              refine lv_iload hx hb dL_law_314 (lv_at hl 2 rfl) ?_
              refine n_imul hx hb dL_law_316 ?_
              refine lv_iconst (v := nI 1) hx hb dL_law_317 (by decide) ?_
              refine lv_iload hx hb dL_law_318 (lv_at hl 6 rfl) ?_
              refine lv_bipush (v := nI 8) hx hb dL_law_320 (by decide) ?_
              refine n_idiv hx hb dL_law_322 (by omega) (by first | omega | decide | assumption) (by decide) ?_
              have J323 : (∀ (H : Heap) (locs : List Loc) (wl : va_W), Rc G c1 wl → Rr G r1 wl → Ro G o wl → va_P D vwCl wl H → va_D (fun q => h0 ≤ q) wl → va_S (fun q => h0 ≤ q) s.heap H locs → W p l e room_1 s m #[Value.ref b] below meth cd H locs (3000 + 600 * n) (200000 + 2100 * n + 70000 * ((n + 19) / 20)) Q (F0 m 337 ls [.int (nI md), .int (nI (v / 8)), .int (nI 1), .int (nI (8 * kk)), .ref (G 3)])) → W p l e room_1 s m #[Value.ref b] below meth cd H locs (3000 + 600 * n) (200000 + 2100 * n + 70000 * ((n + 19) / 20)) Q (F0 m 323 ls [.int (nI (v / 8)), .int (nI 1), .int (nI (8 * kk)), .ref (G 3)]) := by
                intro hk323
                refine lv_iload hx hb dL_law_323 (lv_at hl 6 rfl) ?_
                refine lv_iconst (v := nI 5) hx hb dL_law_325 (by decide) ?_
                refine n_irem hx hb dL_law_326 (by omega) (by first | omega | decide | assumption) (by decide) ?_
                refine n_if_ne (tgt := 335) hx hb dL_law_327 (by decide) (by omega) (fun c_327 => ?_) (fun c_327 => ?_)
                · refine lv_bipush (v := nI 8) hx hb dL_law_335 (by decide) ?_
                  refine n_top (y := .int (nI md)) (congrArg Value.int (show nI 8 = nI md from by exact congrArg nI (hmd.2 (by omega)).symm)) ?_
                  exact hk323 _ _ _ hRc hRr hRo hP hD hS
                · refine lv_bipush (v := nI 100) hx hb dL_law_330 (by decide) ?_
                  refine lv_goto (tgt := 337) hx hb dL_law_332 (by decide) ?_
                  refine n_top (y := .int (nI md)) (congrArg Value.int (show nI 100 = nI md from by exact congrArg nI (hmd.1 (by omega)).symm)) ?_
                  exact hk323 _ _ _ hRc hRr hRo hP hD hS
              refine J323 (fun H locs wl hRc hRr hRo hP hD hS => ?_)
              refine n_irem hx hb dL_law_337 (by omega) (by first | omega | decide | assumption) (by omega) ?_
              refine n_iadd hx hb dL_law_338 ?_
              refine x_iast (Z := fun wl => Rc G c1 wl ∧ Rr G (up2 r1 10 kk (1 + ((v / 8) % md))) wl ∧ Ro G o wl) hx hb hK hP hD hS 3 (Q_g hRr) (by first | omega | decide | assumption) (by decide) dL_law_339 ⟨Rc_fr hRc (by decide) (by decide), P_g0 (r := r1) (k := kk) (1 + ((v / 8) % md)) (by first | omega | decide | assumption) hRr, ⟨rfl, rfl, rfl⟩⟩ (fun H locs wl hZ hP hD hS => ?_)
              obtain ⟨hRc, hRr, hRo⟩ := hZ
              refine lv_aload_n hx hb dL_law_340 rfl (lv_at hl 11 rfl) ?_
              refine lv_bipush (v := nI 6) hx hb dL_law_341 (by decide) ?_
              refine lv_iload hx hb dL_law_343 (lv_at hl 2 rfl) ?_
              refine lv_aload_n hx hb dL_law_345 rfl (lv_at hl 12 rfl) ?_
              refine lv_bipush (v := nI 8) hx hb dL_law_346 (by decide) ?_
              refine lv_iload hx hb dL_law_348 (lv_at hl 2 rfl) ?_
              refine n_imul hx hb dL_law_350 ?_
              refine x_iald hx hb hK hP 3 (Q_g hRr) (by first | omega | decide | assumption) (by decide) dL_law_351 (v := nI (1 + ((v / 8) % md))) ((gV_0 _ kk).trans (congrArg nI (show (up2 r1 10 kk (1 + ((v / 8) % md))) 10 kk = 1 + ((v / 8) % md) from by simp [up2]))) ?_
              refine lv_iconst (v := nI 0) hx hb dL_law_352 (by decide) ?_
              refine y_calli (va_SW (As := [.ref (G 0), .int (nI 6), .int (nI kk), .int (nI (1 + ((v / 8) % md))), .int (nI 0)]) (rest := []) hx hb hml hown hts (k_L_act_setTime l hlt D G h0 c1 (up2 r1 10 kk (1 + ((v / 8) % md))) o (nI kk) (nI (1 + ((v / 8) % md))) (nI 0) hI1) (vx_cwSW 5 hts gL_law_L_act rfl rfl rfl (by decide +kernel) ⟨(Nat.le_of_ble_eq_true rfl), (Nat.le_of_ble_eq_true rfl)⟩) (fun a U g mk q => ⟨q.1, Pr_cg q.2⟩) (fun U hU hW => ⟨rfl, Pr_mk hE hRc hRr hRo hP hD hS hU hW⟩) rfl hl.1 rfl (lv_room (Nat.le_of_ble_eq_true rfl)) dL_law_353 (show _ ≤ 1013921 from by omega) (show _ ≤ 6059706 from by omega)) hS (fun v9 C2 H locs wl hv9 hRc hRr hRo hP hD hS => ?_)
              have hv9 := A_setTime hv9 (hkk (by omega)) ⟨by omega, by omega⟩ (by omega)
              refine n_top (y := .int (nI (c1 1 kk))) (congrArg Value.int hv9.1) ?_
              obtain ⟨ρ9, hLI9⟩ := LI_time hLI (a := kk) (t := 1 + v / 8 % md) (hkk (by omega)) (by omega)
              rw [← hv9.2] at hLI9
              have hC2 : C2 20 1 = c1 20 1 ∧ C2 20 3 = c1 20 3 := by rw [hv9.2]; exact ⟨rfl, rfl⟩
              clear hv9
              refine lv_iload hx hb dL_law_356 (lv_at hl 0 rfl) ?_
              refine n_icmp_ne (tgt := 365) hx hb dL_law_358 (by decide) (hB1 _ _ (by decide)) (hBr1 _ _ (by decide)) (fun c_358 => ?_) (fun c_358 => ?_)
              · exfalso; exact c_358 (hGs.2 kk (hkk (by omega))).1.symm
              · refine lv_iconst (v := nI 1) hx hb dL_law_361 (by decide) ?_
                refine lv_goto (tgt := 366) hx hb dL_law_362 (by decide) ?_
                refine lv_istore (lv' := [(6, .int (nI 1)), (15, .int (nI (r1 10 kk))), (14, .int (nI oo)), (13, .int (nI kk)), (12, .int (nI (c1 20 3))), (11, .int (nI (c1 20 1))), (10, .int (nI how)), (9, .int (nI v)), (8, .int (nI x)), (7, .int (nI n)), (0, .ref b), (1, .ref (G 0)), (2, .ref (G 3)), (3, .ref (G 4)), (4, .ref (G 5)), (5, .ref (G 6))]) hx hb dL_law_366 hl (by decide) rfl (fun ls hl => ?_)
                refine lv_goto (tgt := 584) hx hb dL_law_368 (by decide) ?_
                obtain ⟨a1, a2, a3, a4, a5, a6, a7, a8, a9, a10⟩ := LI_ar hLI9 (by omega)
                refine lv_iload hx hb dL_law_584 (lv_at hl 0 rfl) ?_
                refine n_if_eq (tgt := 629) hx hb dL_law_586 (by decide) (by decide) (fun c_586 => absurd c_586 (by decide)) (fun c_586 => ?_)
                refine lv_aload_n hx hb dL_law_589 rfl (lv_at hl 11 rfl) ?_
                refine lv_aload_n hx hb dL_law_590 rfl (lv_at hl 12 rfl) ?_
                refine lv_aload_n hx hb dL_law_591 rfl (lv_at hl 13 rfl) ?_
                refine y_calli (va_runS (As := [.ref (G 0), .ref (G 3), .ref (G 4)]) (rest := []) ⟨hx, hb, hml, hown, hts⟩ (k_L_areUnits l D G h0 C2 (up2 r1 10 kk (1 + ((v / 8) % md))) o a1 a2 a3 a4 a5 a6 a7) (va_cwS 3 hts gL_law_L_areUnits rfl rfl rfl (by decide +kernel) ⟨Nat.le_of_ble_eq_true rfl, Nat.le_of_ble_eq_true rfl⟩) ⟨fun a U g mk q => ⟨q.1, Pr_cg q.2⟩, fun U hU hW => ⟨rfl, Pr_mk hE hRc hRr hRo hP hD hS hU hW⟩⟩ rfl rfl hl.1 rfl (lv_room (Nat.le_of_ble_eq_true rfl)) dL_law_592 ⟨(show _ ≤ 1013921 from by omega), (show _ ≤ 6059706 from by omega)⟩) hS (fun v9 _ H locs wl hv9 hRc hRr hRo hP hD hS => ?_)
                refine n_top (y := .int (nI 1)) (congrArg Value.int hv9) ?_
                clear hv9 v9
                refine n_if_eq (tgt := 629) hx hb dL_law_595 (by decide) (by decide) (fun c_595 => absurd c_595 (by decide)) (fun c_595 => ?_)
                refine lv_aload_n hx hb dL_law_598 rfl (lv_at hl 11 rfl) ?_
                refine lv_aload_n hx hb dL_law_599 rfl (lv_at hl 12 rfl) ?_
                refine y_calli (va_runS (As := [.ref (G 0), .ref (G 3)]) (rest := []) ⟨hx, hb, hml, hown, hts⟩ (k_L_areRunning l D G h0 C2 (up2 r1 10 kk (1 + ((v / 8) % md))) o a1 a2 a3 a4 a8 a9 a5) (va_cwS 2 hts gL_law_L_areRunning rfl rfl rfl (by decide +kernel) ⟨Nat.le_of_ble_eq_true rfl, Nat.le_of_ble_eq_true rfl⟩) ⟨fun a U g mk q => ⟨q.1, Pr_cg q.2⟩, fun U hU hW => ⟨rfl, Pr_mk hE hRc hRr hRo hP hD hS hU hW⟩⟩ rfl rfl hl.1 rfl (lv_room (Nat.le_of_ble_eq_true rfl)) dL_law_600 ⟨(show _ ≤ 1013921 from by omega), (show _ ≤ 6059706 from by omega)⟩) hS (fun v9 _ H locs wl hv9 hRc hRr hRo hP hD hS => ?_)
                refine n_top (y := .int (nI 1)) (congrArg Value.int hv9) ?_
                clear hv9 v9
                refine n_if_eq (tgt := 629) hx hb dL_law_603 (by decide) (by decide) (fun c_603 => absurd c_603 (by decide)) (fun c_603 => ?_)
                refine lv_iload hx hb dL_law_606 (lv_at hl 9 rfl) ?_
                refine lv_bipush (v := nI 20) hx hb dL_law_608 (by decide) ?_
                refine n_irem hx hb dL_law_610 (by omega) (by first | omega | decide | assumption) (by decide) ?_
                refine n_if_gt (tgt := 625) hx hb dL_law_611 (by decide) (by omega) (fun c_611 => ?_) (fun c_611 => ?_)
                · refine lv_iconst (v := nI 1) hx hb dL_law_625 (by decide) ?_
                  refine lv_goto (tgt := 630) hx hb dL_law_626 (by decide) ?_
                  refine lv_istore (lv' := [(6, .int (nI 1)), (15, .int (nI (r1 10 kk))), (14, .int (nI oo)), (13, .int (nI kk)), (12, .int (nI (c1 20 3))), (11, .int (nI (c1 20 1))), (10, .int (nI how)), (9, .int (nI v)), (8, .int (nI x)), (7, .int (nI n)), (0, .ref b), (1, .ref (G 0)), (2, .ref (G 3)), (3, .ref (G 4)), (4, .ref (G 5)), (5, .ref (G 6))]) hx hb dL_law_630 hl (by decide) rfl (fun ls hl => ?_)
                  refine lv_iinc (v := nI (n + 1)) (lv' := [(7, .int (nI (n + 1))), (6, .int (nI 1)), (15, .int (nI (r1 10 kk))), (14, .int (nI oo)), (13, .int (nI kk)), (12, .int (nI (c1 20 3))), (11, .int (nI (c1 20 1))), (10, .int (nI how)), (9, .int (nI v)), (8, .int (nI x)), (0, .ref b), (1, .ref (G 0)), (2, .ref (G 3)), (3, .ref (G 4)), (4, .ref (G 5)), (5, .ref (G 6))]) hx hb dL_law_632 hl (k := 9) rfl (nI_add n 1) (by decide) rfl (fun ls hl => ?_)
                  refine lv_goto (tgt := 62) hx hb dL_law_635 (by decide) ?_
                  refine W.widen (k := 3000 + 600 * (n + 1)) (n := 200000 + 2100 * (n + 1) + 70000 * (((n + 1) + 19) / 20)) (by omega) (by omega) ?_
                  exact ih62 (n + 1) (by omega) (by omega) (C2) (up2 r1 10 kk (1 + ((v / 8) % md))) (ρ9) (by exact hLI9) (by intro z; omega) _ _ _ _ hRc hRr hRo hP hD hS (lv_sub hl [0, 1, 10, 11, 12, 13, 14, 15] rfl)
                · refine lv_aload_n hx hb dL_law_614 rfl (lv_at hl 11 rfl) ?_
                  refine lv_iload hx hb dL_law_615 (lv_at hl 8 rfl) ?_
                  refine lv_iconst (v := nI 3) hx hb dL_law_617 (by decide) ?_
                  refine n_idiv hx hb dL_law_618 (by omega) (by first | omega | decide | assumption) (by decide) ?_
                  refine y_calli (va_runS (As := [.ref (G 0), .int (nI (x / 3))]) (rest := []) ⟨hx, hb, hml, hown, hts⟩ (k_L_isRefused l D G h0 C2 (up2 r1 10 kk (1 + ((v / 8) % md))) o hlt a1 (by omega) a2 (x / 3) (by omega)) (va_cwS 2 hts gL_law_L_isRefused rfl rfl rfl (by decide +kernel) ⟨Nat.le_of_ble_eq_true rfl, Nat.le_of_ble_eq_true rfl⟩) ⟨fun a U g mk q => ⟨q.1, Pr_cg q.2⟩, fun U hU hW => ⟨rfl, Pr_mk hE hRc hRr hRo hP hD hS hU hW⟩⟩ rfl rfl hl.1 rfl (lv_room (Nat.le_of_ble_eq_true rfl)) dL_law_619 ⟨(show _ ≤ 1013921 from by omega), (show _ ≤ 6059706 from by omega)⟩) hS (fun v9 _ H locs wl hv9 hRc hRr hRo hP hD hS => ?_)
                  refine n_top (y := .int (nI 1)) (congrArg Value.int hv9) ?_
                  clear hv9 v9
                  refine n_if_eq (tgt := 629) hx hb dL_law_622 (by decide) (by decide) (fun c_622 => absurd c_622 (by decide)) (fun c_622 => ?_)
                  refine lv_iconst (v := nI 1) hx hb dL_law_625 (by decide) ?_
                  refine lv_goto (tgt := 630) hx hb dL_law_626 (by decide) ?_
                  refine lv_istore (lv' := [(6, .int (nI 1)), (15, .int (nI (r1 10 kk))), (14, .int (nI oo)), (13, .int (nI kk)), (12, .int (nI (c1 20 3))), (11, .int (nI (c1 20 1))), (10, .int (nI how)), (9, .int (nI v)), (8, .int (nI x)), (7, .int (nI n)), (0, .ref b), (1, .ref (G 0)), (2, .ref (G 3)), (3, .ref (G 4)), (4, .ref (G 5)), (5, .ref (G 6))]) hx hb dL_law_630 hl (by decide) rfl (fun ls hl => ?_)
                  refine lv_iinc (v := nI (n + 1)) (lv' := [(7, .int (nI (n + 1))), (6, .int (nI 1)), (15, .int (nI (r1 10 kk))), (14, .int (nI oo)), (13, .int (nI kk)), (12, .int (nI (c1 20 3))), (11, .int (nI (c1 20 1))), (10, .int (nI how)), (9, .int (nI v)), (8, .int (nI x)), (0, .ref b), (1, .ref (G 0)), (2, .ref (G 3)), (3, .ref (G 4)), (4, .ref (G 5)), (5, .ref (G 6))]) hx hb dL_law_632 hl (k := 9) rfl (nI_add n 1) (by decide) rfl (fun ls hl => ?_)
                  refine lv_goto (tgt := 62) hx hb dL_law_635 (by decide) ?_
                  refine W.widen (k := 3000 + 600 * (n + 1)) (n := 200000 + 2100 * (n + 1) + 70000 * (((n + 1) + 19) / 20)) (by omega) (by omega) ?_
                  exact ih62 (n + 1) (by omega) (by omega) (C2) (up2 r1 10 kk (1 + ((v / 8) % md))) (ρ9) (by exact hLI9) (by intro z; omega) _ _ _ _ hRc hRr hRo hP hD hS (lv_sub hl [0, 1, 10, 11, 12, 13, 14, 15] rfl)
          · have hg0 : c1 20 3 = 0 := by omega
            have J160 : ((3 ≤ c1 20 1) → ∀ (H : Heap) (locs : List Loc) (wl : va_W), Rc G c1 wl → Rr G r1 wl → Ro G o wl → va_P D vwCl wl H → va_D (fun q => h0 ≤ q) wl → va_S (fun q => h0 ≤ q) s.heap H locs → W p l e room_1 s m #[Value.ref b] below meth cd H locs (3000 + 600 * n) (200000 + 2100 * n + 70000 * ((n + 19) / 20)) Q (F0 m 296 ls [])) → W p l e room_1 s m #[Value.ref b] below meth cd H locs (3000 + 600 * n) (200000 + 2100 * n + 70000 * ((n + 19) / 20)) Q (F0 m 160 ls []) := by
              intro hk160
              refine lv_iload hx hb dL_law_160 (lv_at hl 3 rfl) ?_
              refine lv_iconst (v := nI 3) hx hb dL_law_162 (by decide) ?_
              refine n_icmp_lt (tgt := 178) hx hb dL_law_163 (by decide) (hB1 _ _ (by decide)) (by decide) (fun c_163 => ?_) (fun c_163 => ?_)
              · refine lv_aload_n hx hb dL_law_178 rfl (lv_at hl 11 rfl) ?_
                refine lv_bipush (v := nI 8) hx hb dL_law_179 (by decide) ?_
                refine lv_iload hx hb dL_law_181 (lv_at hl 3 rfl) ?_
                refine n_imul hx hb dL_law_183 ?_
                refine lv_iconst (v := nI 1) hx hb dL_law_184 (by decide) ?_
                refine lv_iload hx hb dL_law_185 (lv_at hl 5 rfl) ?_
                have J187 : (∀ (H : Heap) (locs : List Loc) (wl : va_W), Rc G c1 wl → Rr G r1 wl → Ro G o wl → va_P D vwCl wl H → va_D (fun q => h0 ≤ q) wl → va_S (fun q => h0 ≤ q) s.heap H locs → W p l e room_1 s m #[Value.ref b] below meth cd H locs (3000 + 600 * n) (200000 + 2100 * n + 70000 * ((n + 19) / 20)) Q (F0 m 201 ls [.int (nI md), .int (nI v), .int (nI 1), .int (nI (8 * (c1 20 1))), .ref (G 3)])) → W p l e room_1 s m #[Value.ref b] below meth cd H locs (3000 + 600 * n) (200000 + 2100 * n + 70000 * ((n + 19) / 20)) Q (F0 m 187 ls [.int (nI v), .int (nI 1), .int (nI (8 * (c1 20 1))), .ref (G 3)]) := by
                  intro hk187
                  refine lv_iload hx hb dL_law_187 (lv_at hl 5 rfl) ?_
                  refine lv_iconst (v := nI 5) hx hb dL_law_189 (by decide) ?_
                  refine n_irem hx hb dL_law_190 (by omega) (by first | omega | decide | assumption) (by decide) ?_
                  refine n_if_ne (tgt := 199) hx hb dL_law_191 (by decide) (by omega) (fun c_191 => ?_) (fun c_191 => ?_)
                  · refine lv_bipush (v := nI 8) hx hb dL_law_199 (by decide) ?_
                    refine n_top (y := .int (nI md)) (congrArg Value.int (show nI 8 = nI md from by exact congrArg nI (hmd.2 (by omega)).symm)) ?_
                    exact hk187 _ _ _ hRc hRr hRo hP hD hS
                  · refine lv_bipush (v := nI 100) hx hb dL_law_194 (by decide) ?_
                    refine lv_goto (tgt := 201) hx hb dL_law_196 (by decide) ?_
                    refine n_top (y := .int (nI md)) (congrArg Value.int (show nI 100 = nI md from by exact congrArg nI (hmd.1 (by omega)).symm)) ?_
                    exact hk187 _ _ _ hRc hRr hRo hP hD hS
                refine J187 (fun H locs wl hRc hRr hRo hP hD hS => ?_)
                refine n_irem hx hb dL_law_201 (by omega) (by first | omega | decide | assumption) (by omega) ?_
                refine n_iadd hx hb dL_law_202 ?_
                refine x_iast (Z := fun wl => Rc G c1 wl ∧ Rr G (up2 r1 10 (c1 20 1) (1 + (v % md))) wl ∧ Ro G o wl) hx hb hK hP hD hS 3 (Q_g hRr) (by first | omega | decide | assumption) (by decide) dL_law_203 ⟨Rc_fr hRc (by decide) (by decide), P_g0 (r := r1) (k := (c1 20 1)) (1 + (v % md)) (by first | omega | decide | assumption) hRr, ⟨rfl, rfl, rfl⟩⟩ (fun H locs wl hZ hP hD hS => ?_)
                obtain ⟨hRc, hRr, hRo⟩ := hZ
                refine lv_aload_n hx hb dL_law_204 rfl (lv_at hl 11 rfl) ?_
                refine lv_bipush (v := nI 8) hx hb dL_law_205 (by decide) ?_
                refine lv_iload hx hb dL_law_207 (lv_at hl 3 rfl) ?_
                refine n_imul hx hb dL_law_209 ?_
                refine lv_iconst (v := nI 1) hx hb dL_law_210 (by decide) ?_
                refine n_iadd hx hb dL_law_211 ?_
                refine lv_iload hx hb dL_law_212 (lv_at hl 5 rfl) ?_
                refine lv_bipush (v := nI 100) hx hb dL_law_214 (by decide) ?_
                refine n_idiv hx hb dL_law_216 (by omega) (by first | omega | decide | assumption) (by decide) ?_
                refine lv_iconst (v := nI 4) hx hb dL_law_217 (by decide) ?_
                refine n_irem hx hb dL_law_218 (by omega) (by first | omega | decide | assumption) (by decide) ?_
                refine x_iast (Z := fun wl => Rc G c1 wl ∧ Rr G (up2 (up2 r1 10 (c1 20 1) (1 + (v % md))) 11 (c1 20 1) ((v / 100) % 4)) wl ∧ Ro G o wl) hx hb hK hP hD hS 3 (Q_g hRr) (by first | omega | decide | assumption) (by decide) dL_law_219 ⟨Rc_fr hRc (by decide) (by decide), P_g (r := (up2 r1 10 (c1 20 1) (1 + (v % md)))) (k := (c1 20 1)) (j := 1) ((v / 100) % 4) (by decide) (by decide) (by first | omega | decide | assumption) hRr, ⟨rfl, rfl, rfl⟩⟩ (fun H locs wl hZ hP hD hS => ?_)
                obtain ⟨hRc, hRr, hRo⟩ := hZ
                refine lv_aload_n hx hb dL_law_220 rfl (lv_at hl 11 rfl) ?_
                refine lv_bipush (v := nI 8) hx hb dL_law_221 (by decide) ?_
                refine lv_iload hx hb dL_law_223 (lv_at hl 3 rfl) ?_
                refine n_imul hx hb dL_law_225 ?_
                refine lv_iconst (v := nI 2) hx hb dL_law_226 (by decide) ?_
                refine n_iadd hx hb dL_law_227 ?_
                refine lv_iconst (v := (-1)) hx hb dL_law_228 (by decide) ?_
                refine n_top (y := .int (siI 0)) (congrArg Value.int siI_0.symm) ?_
                refine x_iast (Z := fun wl => Rc G c1 wl ∧ Rr G (up2 (up2 (up2 r1 10 (c1 20 1) (1 + (v % md))) 11 (c1 20 1) ((v / 100) % 4)) 12 (c1 20 1) 0) wl ∧ Ro G o wl) hx hb hK hP hD hS 3 (Q_g hRr) (by first | omega | decide | assumption) (by decide) dL_law_229 ⟨Rc_fr hRc (by decide) (by decide), P_g2 (r := (up2 (up2 r1 10 (c1 20 1) (1 + (v % md))) 11 (c1 20 1) ((v / 100) % 4))) (k := (c1 20 1)) 0 (by first | omega | decide | assumption) hRr, ⟨rfl, rfl, rfl⟩⟩ (fun H locs wl hZ hP hD hS => ?_)
                obtain ⟨hRc, hRr, hRo⟩ := hZ
                refine lv_aload_n hx hb dL_law_230 rfl (lv_at hl 10 rfl) ?_
                refine lv_iconst (v := nI 0) hx hb dL_law_231 (by decide) ?_
                refine lv_aload_n hx hb dL_law_232 rfl (lv_at hl 11 rfl) ?_
                refine lv_bipush (v := nI 8) hx hb dL_law_233 (by decide) ?_
                refine lv_iload hx hb dL_law_235 (lv_at hl 3 rfl) ?_
                refine n_imul hx hb dL_law_237 ?_
                refine x_iald hx hb hK hP 3 (Q_g hRr) (by first | omega | decide | assumption) (by decide) dL_law_238 (v := nI (1 + (v % md))) ((gV_0 _ (c1 20 1)).trans (congrArg nI (show (up2 (up2 (up2 r1 10 (c1 20 1) (1 + (v % md))) 11 (c1 20 1) ((v / 100) % 4)) 12 (c1 20 1) 0) 10 (c1 20 1) = 1 + (v % md) from by simp [up2]))) ?_
                refine lv_aload_n hx hb dL_law_239 rfl (lv_at hl 11 rfl) ?_
                refine lv_bipush (v := nI 8) hx hb dL_law_240 (by decide) ?_
                refine lv_iload hx hb dL_law_242 (lv_at hl 3 rfl) ?_
                refine n_imul hx hb dL_law_244 ?_
                refine lv_iconst (v := nI 1) hx hb dL_law_245 (by decide) ?_
                refine n_iadd hx hb dL_law_246 ?_
                refine x_iald hx hb hK hP 3 (Q_g hRr) (by first | omega | decide | assumption) (by decide) dL_law_247 (v := nI ((v / 100) % 4)) ((gV_j _ (k := (c1 20 1)) (j := 1) (by decide) (by decide)).trans (congrArg nI (show (up2 (up2 (up2 r1 10 (c1 20 1) (1 + (v % md))) 11 (c1 20 1) ((v / 100) % 4)) 12 (c1 20 1) 0) 11 (c1 20 1) = (v / 100) % 4 from by simp [up2]))) ?_
                refine lv_iconst (v := nI 0) hx hb dL_law_248 (by decide) ?_
                refine y_calli (va_SW (As := [.ref (G 0), .int (nI 0), .int (nI (1 + (v % md))), .int (nI ((v / 100) % 4)), .int (nI 0)]) (rest := []) hx hb hml hown hts (k_L_act_add l hlt D G h0 c1 (up2 (up2 (up2 r1 10 (c1 20 1) (1 + (v % md))) 11 (c1 20 1) ((v / 100) % 4)) 12 (c1 20 1) 0) o (nI (1 + (v % md))) (nI ((v / 100) % 4)) (nI 0) hI1) (vx_cwSW 5 hts gL_law_L_act rfl rfl rfl (by decide +kernel) ⟨(Nat.le_of_ble_eq_true rfl), (Nat.le_of_ble_eq_true rfl)⟩) (fun a U g mk q => ⟨q.1, Pr_cg q.2⟩) (fun U hU hW => ⟨rfl, Pr_mk hE hRc hRr hRo hP hD hS hU hW⟩) rfl hl.1 rfl (lv_room (Nat.le_of_ble_eq_true rfl)) dL_law_249 (show _ ≤ 1013921 from by omega) (show _ ≤ 6059706 from by omega)) hS (fun v9 C2 H locs wl hv9 hRc hRr hRo hP hD hS => ?_)
                have hv9 := A_add hv9 ⟨by omega, by omega⟩ (by omega) (by omega) hg0
                refine n_top (y := .int (nI (c1 20 1))) (congrArg Value.int hv9.1) ?_
                obtain ⟨ρ9, hLI9⟩ := LI_add hLI (t := 1 + v % md) (k := v / 100 % 4) ⟨by omega, by omega⟩ (by omega) (by omega) hg0
                rw [← hv9.2] at hLI9
                have hFs := hLI.1.2.2.1.1 (c1 20 1) (Nat.le_refl _)
                have hIC2 := hLI9.1.1
                have hC2 : C2 20 1 = c1 20 1 + 1 ∧ C2 9 (c1 20 1) = 0 ∧ C2 3 (c1 20 1) = 10 ∧ C2 4 (c1 20 1) = 0 ∧ C2 20 3 = 0 := by rw [hv9.2]; simp only [up2]; simp; exact ⟨hFs.2.2.2.2.2.2, hFs.1, hFs.2.1, hg0⟩
                have hB2 := IC_B hIC2
                clear hv9
                refine lv_iload hx hb dL_law_252 (lv_at hl 3 rfl) ?_
                refine n_icmp_ne (tgt := 290) hx hb dL_law_254 (by decide) (hB1 _ _ (by decide)) (hB1 _ _ (by decide)) (fun c_254 => ?_) (fun c_254 => ?_)
                · exfalso; exact c_254 rfl
                · refine lv_aload_n hx hb dL_law_257 rfl (lv_at hl 10 rfl) ?_
                  refine lv_iload hx hb dL_law_258 (lv_at hl 3 rfl) ?_
                  refine y_calli (va_runV (As := [.int (nI (c1 20 1))]) (rest := []) ⟨hx, hb, hml, hown, hts⟩ (k_X2_state_ok l D G h0 C2 (up2 (up2 (up2 r1 10 (c1 20 1) (1 + (v % md))) 11 (c1 20 1) ((v / 100) % 4)) 12 (c1 20 1) 0) o hIC2 (c1 20 1) (by first | omega | assumption)) (cwV 1 hts gL_law_X2_state rfl rfl rfl (by decide +kernel) ⟨Nat.le_of_ble_eq_true rfl, Nat.le_of_ble_eq_true rfl⟩) ⟨fun a U g mk q => ⟨q.1, Pr_cg q.2⟩, va_recv (ci := 3) (q0 := 0) hK hP rfl (Q_o hRc), fun U hU hW => ⟨rfl, Pr_mk hE hRc hRr hRo hP hD hS hU hW⟩⟩ rfl rfl hl.1 rfl (lv_room (Nat.le_of_ble_eq_true rfl)) dL_law_260 ⟨(show _ ≤ 1013921 from by omega), (show _ ≤ 6059706 from by omega)⟩) hS (fun v9 _ H locs wl hv9 hRc hRr hRo hP hD hS => ?_)
                  refine n_top (y := .int (nI (C2 9 (c1 20 1)))) (congrArg Value.int hv9) ?_
                  clear hv9 v9
                  refine n_if_ne (tgt := 290) hx hb dL_law_263 (by decide) (hB2 _ _ (by decide)) (fun c_263 => ?_) (fun c_263 => ?_)
                  · exfalso; omega
                  · refine lv_aload_n hx hb dL_law_266 rfl (lv_at hl 10 rfl) ?_
                    refine lv_iload hx hb dL_law_267 (lv_at hl 3 rfl) ?_
                    refine y_calli (va_runV (As := [.int (nI (c1 20 1))]) (rest := []) ⟨hx, hb, hml, hown, hts⟩ (k_X2_learned_ok l D G h0 C2 (up2 (up2 (up2 r1 10 (c1 20 1) (1 + (v % md))) 11 (c1 20 1) ((v / 100) % 4)) 12 (c1 20 1) 0) o hIC2 (c1 20 1) (by first | omega | assumption)) (cwV 1 hts gL_law_X2_learned rfl rfl rfl (by decide +kernel) ⟨Nat.le_of_ble_eq_true rfl, Nat.le_of_ble_eq_true rfl⟩) ⟨fun a U g mk q => ⟨q.1, Pr_cg q.2⟩, va_recv (ci := 3) (q0 := 0) hK hP rfl (Q_o hRc), fun U hU hW => ⟨rfl, Pr_mk hE hRc hRr hRo hP hD hS hU hW⟩⟩ rfl rfl hl.1 rfl (lv_room (Nat.le_of_ble_eq_true rfl)) dL_law_269 ⟨(show _ ≤ 1013921 from by omega), (show _ ≤ 6059706 from by omega)⟩) hS (fun v9 _ H locs wl hv9 hRc hRr hRo hP hD hS => ?_)
                    refine n_top (y := .int (nI (C2 3 (c1 20 1)))) (congrArg Value.int hv9) ?_
                    clear hv9 v9
                    refine lv_bipush (v := nI 10) hx hb dL_law_272 (by decide) ?_
                    refine n_icmp_ne (tgt := 290) hx hb dL_law_274 (by decide) (hB2 _ _ (by decide)) (by decide) (fun c_274 => ?_) (fun c_274 => ?_)
                    · exfalso; omega
                    · refine lv_aload_n hx hb dL_law_277 rfl (lv_at hl 10 rfl) ?_
                      refine lv_iload hx hb dL_law_278 (lv_at hl 3 rfl) ?_
                      refine y_calli (va_runV (As := [.int (nI (c1 20 1))]) (rest := []) ⟨hx, hb, hml, hown, hts⟩ (k_X2_faults_ok l D G h0 C2 (up2 (up2 (up2 r1 10 (c1 20 1) (1 + (v % md))) 11 (c1 20 1) ((v / 100) % 4)) 12 (c1 20 1) 0) o hIC2 (c1 20 1) (by first | omega | assumption)) (cwV 1 hts gL_law_X2_faults rfl rfl rfl (by decide +kernel) ⟨Nat.le_of_ble_eq_true rfl, Nat.le_of_ble_eq_true rfl⟩) ⟨fun a U g mk q => ⟨q.1, Pr_cg q.2⟩, va_recv (ci := 3) (q0 := 0) hK hP rfl (Q_o hRc), fun U hU hW => ⟨rfl, Pr_mk hE hRc hRr hRo hP hD hS hU hW⟩⟩ rfl rfl hl.1 rfl (lv_room (Nat.le_of_ble_eq_true rfl)) dL_law_280 ⟨(show _ ≤ 1013921 from by omega), (show _ ≤ 6059706 from by omega)⟩) hS (fun v9 _ H locs wl hv9 hRc hRr hRo hP hD hS => ?_)
                      refine n_top (y := .int (nI (C2 4 (c1 20 1)))) (congrArg Value.int hv9) ?_
                      clear hv9 v9
                      refine n_if_ne (tgt := 290) hx hb dL_law_283 (by decide) (hB2 _ _ (by decide)) (fun c_283 => ?_) (fun c_283 => ?_)
                      · exfalso; omega
                      · refine lv_iconst (v := nI 1) hx hb dL_law_286 (by decide) ?_
                        refine lv_goto (tgt := 291) hx hb dL_law_287 (by decide) ?_
                        refine lv_istore (lv' := [(6, .int (nI 1)), (14, .int (nI oo)), (13, .int (nI kk)), (12, .int (nI (c1 20 3))), (11, .int (nI (c1 20 1))), (10, .int (nI how)), (9, .int (nI v)), (8, .int (nI x)), (7, .int (nI n)), (0, .ref b), (1, .ref (G 0)), (2, .ref (G 3)), (3, .ref (G 4)), (4, .ref (G 5)), (5, .ref (G 6))]) hx hb dL_law_291 hl (by decide) rfl (fun ls hl => ?_)
                        refine lv_goto (tgt := 584) hx hb dL_law_293 (by decide) ?_
                        obtain ⟨a1, a2, a3, a4, a5, a6, a7, a8, a9, a10⟩ := LI_ar hLI9 (by omega)
                        refine lv_iload hx hb dL_law_584 (lv_at hl 0 rfl) ?_
                        refine n_if_eq (tgt := 629) hx hb dL_law_586 (by decide) (by decide) (fun c_586 => absurd c_586 (by decide)) (fun c_586 => ?_)
                        refine lv_aload_n hx hb dL_law_589 rfl (lv_at hl 10 rfl) ?_
                        refine lv_aload_n hx hb dL_law_590 rfl (lv_at hl 11 rfl) ?_
                        refine lv_aload_n hx hb dL_law_591 rfl (lv_at hl 12 rfl) ?_
                        refine y_calli (va_runS (As := [.ref (G 0), .ref (G 3), .ref (G 4)]) (rest := []) ⟨hx, hb, hml, hown, hts⟩ (k_L_areUnits l D G h0 C2 (up2 (up2 (up2 r1 10 (c1 20 1) (1 + (v % md))) 11 (c1 20 1) ((v / 100) % 4)) 12 (c1 20 1) 0) o a1 a2 a3 a4 a5 a6 a7) (va_cwS 3 hts gL_law_L_areUnits rfl rfl rfl (by decide +kernel) ⟨Nat.le_of_ble_eq_true rfl, Nat.le_of_ble_eq_true rfl⟩) ⟨fun a U g mk q => ⟨q.1, Pr_cg q.2⟩, fun U hU hW => ⟨rfl, Pr_mk hE hRc hRr hRo hP hD hS hU hW⟩⟩ rfl rfl hl.1 rfl (lv_room (Nat.le_of_ble_eq_true rfl)) dL_law_592 ⟨(show _ ≤ 1013921 from by omega), (show _ ≤ 6059706 from by omega)⟩) hS (fun v9 _ H locs wl hv9 hRc hRr hRo hP hD hS => ?_)
                        refine n_top (y := .int (nI 1)) (congrArg Value.int hv9) ?_
                        clear hv9 v9
                        refine n_if_eq (tgt := 629) hx hb dL_law_595 (by decide) (by decide) (fun c_595 => absurd c_595 (by decide)) (fun c_595 => ?_)
                        refine lv_aload_n hx hb dL_law_598 rfl (lv_at hl 10 rfl) ?_
                        refine lv_aload_n hx hb dL_law_599 rfl (lv_at hl 11 rfl) ?_
                        refine y_calli (va_runS (As := [.ref (G 0), .ref (G 3)]) (rest := []) ⟨hx, hb, hml, hown, hts⟩ (k_L_areRunning l D G h0 C2 (up2 (up2 (up2 r1 10 (c1 20 1) (1 + (v % md))) 11 (c1 20 1) ((v / 100) % 4)) 12 (c1 20 1) 0) o a1 a2 a3 a4 a8 a9 a5) (va_cwS 2 hts gL_law_L_areRunning rfl rfl rfl (by decide +kernel) ⟨Nat.le_of_ble_eq_true rfl, Nat.le_of_ble_eq_true rfl⟩) ⟨fun a U g mk q => ⟨q.1, Pr_cg q.2⟩, fun U hU hW => ⟨rfl, Pr_mk hE hRc hRr hRo hP hD hS hU hW⟩⟩ rfl rfl hl.1 rfl (lv_room (Nat.le_of_ble_eq_true rfl)) dL_law_600 ⟨(show _ ≤ 1013921 from by omega), (show _ ≤ 6059706 from by omega)⟩) hS (fun v9 _ H locs wl hv9 hRc hRr hRo hP hD hS => ?_)
                        refine n_top (y := .int (nI 1)) (congrArg Value.int hv9) ?_
                        clear hv9 v9
                        refine n_if_eq (tgt := 629) hx hb dL_law_603 (by decide) (by decide) (fun c_603 => absurd c_603 (by decide)) (fun c_603 => ?_)
                        refine lv_iload hx hb dL_law_606 (lv_at hl 8 rfl) ?_
                        refine lv_bipush (v := nI 20) hx hb dL_law_608 (by decide) ?_
                        refine n_irem hx hb dL_law_610 (by omega) (by first | omega | decide | assumption) (by decide) ?_
                        refine n_if_gt (tgt := 625) hx hb dL_law_611 (by decide) (by omega) (fun c_611 => ?_) (fun c_611 => ?_)
                        · refine lv_iconst (v := nI 1) hx hb dL_law_625 (by decide) ?_
                          refine lv_goto (tgt := 630) hx hb dL_law_626 (by decide) ?_
                          refine lv_istore (lv' := [(6, .int (nI 1)), (14, .int (nI oo)), (13, .int (nI kk)), (12, .int (nI (c1 20 3))), (11, .int (nI (c1 20 1))), (10, .int (nI how)), (9, .int (nI v)), (8, .int (nI x)), (7, .int (nI n)), (0, .ref b), (1, .ref (G 0)), (2, .ref (G 3)), (3, .ref (G 4)), (4, .ref (G 5)), (5, .ref (G 6))]) hx hb dL_law_630 hl (by decide) rfl (fun ls hl => ?_)
                          refine lv_iinc (v := nI (n + 1)) (lv' := [(7, .int (nI (n + 1))), (6, .int (nI 1)), (14, .int (nI oo)), (13, .int (nI kk)), (12, .int (nI (c1 20 3))), (11, .int (nI (c1 20 1))), (10, .int (nI how)), (9, .int (nI v)), (8, .int (nI x)), (0, .ref b), (1, .ref (G 0)), (2, .ref (G 3)), (3, .ref (G 4)), (4, .ref (G 5)), (5, .ref (G 6))]) hx hb dL_law_632 hl (k := 8) rfl (nI_add n 1) (by decide) rfl (fun ls hl => ?_)
                          refine lv_goto (tgt := 62) hx hb dL_law_635 (by decide) ?_
                          refine W.widen (k := 3000 + 600 * (n + 1)) (n := 200000 + 2100 * (n + 1) + 70000 * (((n + 1) + 19) / 20)) (by omega) (by omega) ?_
                          exact ih62 (n + 1) (by omega) (by omega) (C2) (up2 (up2 (up2 r1 10 (c1 20 1) (1 + (v % md))) 11 (c1 20 1) ((v / 100) % 4)) 12 (c1 20 1) 0) (ρ9) (by exact hLI9) (by intro z; omega) _ _ _ _ hRc hRr hRo hP hD hS (lv_sub hl [0, 1, 9, 10, 11, 12, 13, 14] rfl)
                        · refine lv_aload_n hx hb dL_law_614 rfl (lv_at hl 10 rfl) ?_
                          refine lv_iload hx hb dL_law_615 (lv_at hl 7 rfl) ?_
                          refine lv_iconst (v := nI 3) hx hb dL_law_617 (by decide) ?_
                          refine n_idiv hx hb dL_law_618 (by omega) (by first | omega | decide | assumption) (by decide) ?_
                          refine y_calli (va_runS (As := [.ref (G 0), .int (nI (x / 3))]) (rest := []) ⟨hx, hb, hml, hown, hts⟩ (k_L_isRefused l D G h0 C2 (up2 (up2 (up2 r1 10 (c1 20 1) (1 + (v % md))) 11 (c1 20 1) ((v / 100) % 4)) 12 (c1 20 1) 0) o hlt a1 (by omega) a2 (x / 3) (by omega)) (va_cwS 2 hts gL_law_L_isRefused rfl rfl rfl (by decide +kernel) ⟨Nat.le_of_ble_eq_true rfl, Nat.le_of_ble_eq_true rfl⟩) ⟨fun a U g mk q => ⟨q.1, Pr_cg q.2⟩, fun U hU hW => ⟨rfl, Pr_mk hE hRc hRr hRo hP hD hS hU hW⟩⟩ rfl rfl hl.1 rfl (lv_room (Nat.le_of_ble_eq_true rfl)) dL_law_619 ⟨(show _ ≤ 1013921 from by omega), (show _ ≤ 6059706 from by omega)⟩) hS (fun v9 _ H locs wl hv9 hRc hRr hRo hP hD hS => ?_)
                          refine n_top (y := .int (nI 1)) (congrArg Value.int hv9) ?_
                          clear hv9 v9
                          refine n_if_eq (tgt := 629) hx hb dL_law_622 (by decide) (by decide) (fun c_622 => absurd c_622 (by decide)) (fun c_622 => ?_)
                          refine lv_iconst (v := nI 1) hx hb dL_law_625 (by decide) ?_
                          refine lv_goto (tgt := 630) hx hb dL_law_626 (by decide) ?_
                          refine lv_istore (lv' := [(6, .int (nI 1)), (14, .int (nI oo)), (13, .int (nI kk)), (12, .int (nI (c1 20 3))), (11, .int (nI (c1 20 1))), (10, .int (nI how)), (9, .int (nI v)), (8, .int (nI x)), (7, .int (nI n)), (0, .ref b), (1, .ref (G 0)), (2, .ref (G 3)), (3, .ref (G 4)), (4, .ref (G 5)), (5, .ref (G 6))]) hx hb dL_law_630 hl (by decide) rfl (fun ls hl => ?_)
                          refine lv_iinc (v := nI (n + 1)) (lv' := [(7, .int (nI (n + 1))), (6, .int (nI 1)), (14, .int (nI oo)), (13, .int (nI kk)), (12, .int (nI (c1 20 3))), (11, .int (nI (c1 20 1))), (10, .int (nI how)), (9, .int (nI v)), (8, .int (nI x)), (0, .ref b), (1, .ref (G 0)), (2, .ref (G 3)), (3, .ref (G 4)), (4, .ref (G 5)), (5, .ref (G 6))]) hx hb dL_law_632 hl (k := 8) rfl (nI_add n 1) (by decide) rfl (fun ls hl => ?_)
                          refine lv_goto (tgt := 62) hx hb dL_law_635 (by decide) ?_
                          refine W.widen (k := 3000 + 600 * (n + 1)) (n := 200000 + 2100 * (n + 1) + 70000 * (((n + 1) + 19) / 20)) (by omega) (by omega) ?_
                          exact ih62 (n + 1) (by omega) (by omega) (C2) (up2 (up2 (up2 r1 10 (c1 20 1) (1 + (v % md))) 11 (c1 20 1) ((v / 100) % 4)) 12 (c1 20 1) 0) (ρ9) (by exact hLI9) (by intro z; omega) _ _ _ _ hRc hRr hRo hP hD hS (lv_sub hl [0, 1, 9, 10, 11, 12, 13, 14] rfl)
              · refine lv_iload hx hb dL_law_166 (lv_at hl 4 rfl) ?_
                refine n_if_ne (tgt := 296) hx hb dL_law_168 (by decide) (by omega) (fun c_168 => ?_) (fun c_168 => ?_)
                · exact hk160 (by omega) _ _ _ hRc hRr hRo hP hD hS
                · refine lv_iload hx hb dL_law_171 (lv_at hl 3 rfl) ?_
                  refine lv_bipush (v := nI 8) hx hb dL_law_173 (by decide) ?_
                  refine n_icmp_ge (tgt := 296) hx hb dL_law_175 (by decide) (hB1 _ _ (by decide)) (by decide) (fun c_175 => ?_) (fun c_175 => ?_)
                  · exact hk160 (by omega) _ _ _ hRc hRr hRo hP hD hS
                  · refine lv_aload_n hx hb dL_law_178 rfl (lv_at hl 11 rfl) ?_
                    refine lv_bipush (v := nI 8) hx hb dL_law_179 (by decide) ?_
                    refine lv_iload hx hb dL_law_181 (lv_at hl 3 rfl) ?_
                    refine n_imul hx hb dL_law_183 ?_
                    refine lv_iconst (v := nI 1) hx hb dL_law_184 (by decide) ?_
                    refine lv_iload hx hb dL_law_185 (lv_at hl 5 rfl) ?_
                    have J187 : (∀ (H : Heap) (locs : List Loc) (wl : va_W), Rc G c1 wl → Rr G r1 wl → Ro G o wl → va_P D vwCl wl H → va_D (fun q => h0 ≤ q) wl → va_S (fun q => h0 ≤ q) s.heap H locs → W p l e room_1 s m #[Value.ref b] below meth cd H locs (3000 + 600 * n) (200000 + 2100 * n + 70000 * ((n + 19) / 20)) Q (F0 m 201 ls [.int (nI md), .int (nI v), .int (nI 1), .int (nI (8 * (c1 20 1))), .ref (G 3)])) → W p l e room_1 s m #[Value.ref b] below meth cd H locs (3000 + 600 * n) (200000 + 2100 * n + 70000 * ((n + 19) / 20)) Q (F0 m 187 ls [.int (nI v), .int (nI 1), .int (nI (8 * (c1 20 1))), .ref (G 3)]) := by
                      intro hk187
                      refine lv_iload hx hb dL_law_187 (lv_at hl 5 rfl) ?_
                      refine lv_iconst (v := nI 5) hx hb dL_law_189 (by decide) ?_
                      refine n_irem hx hb dL_law_190 (by omega) (by first | omega | decide | assumption) (by decide) ?_
                      refine n_if_ne (tgt := 199) hx hb dL_law_191 (by decide) (by omega) (fun c_191 => ?_) (fun c_191 => ?_)
                      · refine lv_bipush (v := nI 8) hx hb dL_law_199 (by decide) ?_
                        refine n_top (y := .int (nI md)) (congrArg Value.int (show nI 8 = nI md from by exact congrArg nI (hmd.2 (by omega)).symm)) ?_
                        exact hk187 _ _ _ hRc hRr hRo hP hD hS
                      · refine lv_bipush (v := nI 100) hx hb dL_law_194 (by decide) ?_
                        refine lv_goto (tgt := 201) hx hb dL_law_196 (by decide) ?_
                        refine n_top (y := .int (nI md)) (congrArg Value.int (show nI 100 = nI md from by exact congrArg nI (hmd.1 (by omega)).symm)) ?_
                        exact hk187 _ _ _ hRc hRr hRo hP hD hS
                    refine J187 (fun H locs wl hRc hRr hRo hP hD hS => ?_)
                    refine n_irem hx hb dL_law_201 (by omega) (by first | omega | decide | assumption) (by omega) ?_
                    refine n_iadd hx hb dL_law_202 ?_
                    refine x_iast (Z := fun wl => Rc G c1 wl ∧ Rr G (up2 r1 10 (c1 20 1) (1 + (v % md))) wl ∧ Ro G o wl) hx hb hK hP hD hS 3 (Q_g hRr) (by first | omega | decide | assumption) (by decide) dL_law_203 ⟨Rc_fr hRc (by decide) (by decide), P_g0 (r := r1) (k := (c1 20 1)) (1 + (v % md)) (by first | omega | decide | assumption) hRr, ⟨rfl, rfl, rfl⟩⟩ (fun H locs wl hZ hP hD hS => ?_)
                    obtain ⟨hRc, hRr, hRo⟩ := hZ
                    refine lv_aload_n hx hb dL_law_204 rfl (lv_at hl 11 rfl) ?_
                    refine lv_bipush (v := nI 8) hx hb dL_law_205 (by decide) ?_
                    refine lv_iload hx hb dL_law_207 (lv_at hl 3 rfl) ?_
                    refine n_imul hx hb dL_law_209 ?_
                    refine lv_iconst (v := nI 1) hx hb dL_law_210 (by decide) ?_
                    refine n_iadd hx hb dL_law_211 ?_
                    refine lv_iload hx hb dL_law_212 (lv_at hl 5 rfl) ?_
                    refine lv_bipush (v := nI 100) hx hb dL_law_214 (by decide) ?_
                    refine n_idiv hx hb dL_law_216 (by omega) (by first | omega | decide | assumption) (by decide) ?_
                    refine lv_iconst (v := nI 4) hx hb dL_law_217 (by decide) ?_
                    refine n_irem hx hb dL_law_218 (by omega) (by first | omega | decide | assumption) (by decide) ?_
                    refine x_iast (Z := fun wl => Rc G c1 wl ∧ Rr G (up2 (up2 r1 10 (c1 20 1) (1 + (v % md))) 11 (c1 20 1) ((v / 100) % 4)) wl ∧ Ro G o wl) hx hb hK hP hD hS 3 (Q_g hRr) (by first | omega | decide | assumption) (by decide) dL_law_219 ⟨Rc_fr hRc (by decide) (by decide), P_g (r := (up2 r1 10 (c1 20 1) (1 + (v % md)))) (k := (c1 20 1)) (j := 1) ((v / 100) % 4) (by decide) (by decide) (by first | omega | decide | assumption) hRr, ⟨rfl, rfl, rfl⟩⟩ (fun H locs wl hZ hP hD hS => ?_)
                    obtain ⟨hRc, hRr, hRo⟩ := hZ
                    refine lv_aload_n hx hb dL_law_220 rfl (lv_at hl 11 rfl) ?_
                    refine lv_bipush (v := nI 8) hx hb dL_law_221 (by decide) ?_
                    refine lv_iload hx hb dL_law_223 (lv_at hl 3 rfl) ?_
                    refine n_imul hx hb dL_law_225 ?_
                    refine lv_iconst (v := nI 2) hx hb dL_law_226 (by decide) ?_
                    refine n_iadd hx hb dL_law_227 ?_
                    refine lv_iconst (v := (-1)) hx hb dL_law_228 (by decide) ?_
                    refine n_top (y := .int (siI 0)) (congrArg Value.int siI_0.symm) ?_
                    refine x_iast (Z := fun wl => Rc G c1 wl ∧ Rr G (up2 (up2 (up2 r1 10 (c1 20 1) (1 + (v % md))) 11 (c1 20 1) ((v / 100) % 4)) 12 (c1 20 1) 0) wl ∧ Ro G o wl) hx hb hK hP hD hS 3 (Q_g hRr) (by first | omega | decide | assumption) (by decide) dL_law_229 ⟨Rc_fr hRc (by decide) (by decide), P_g2 (r := (up2 (up2 r1 10 (c1 20 1) (1 + (v % md))) 11 (c1 20 1) ((v / 100) % 4))) (k := (c1 20 1)) 0 (by first | omega | decide | assumption) hRr, ⟨rfl, rfl, rfl⟩⟩ (fun H locs wl hZ hP hD hS => ?_)
                    obtain ⟨hRc, hRr, hRo⟩ := hZ
                    refine lv_aload_n hx hb dL_law_230 rfl (lv_at hl 10 rfl) ?_
                    refine lv_iconst (v := nI 0) hx hb dL_law_231 (by decide) ?_
                    refine lv_aload_n hx hb dL_law_232 rfl (lv_at hl 11 rfl) ?_
                    refine lv_bipush (v := nI 8) hx hb dL_law_233 (by decide) ?_
                    refine lv_iload hx hb dL_law_235 (lv_at hl 3 rfl) ?_
                    refine n_imul hx hb dL_law_237 ?_
                    refine x_iald hx hb hK hP 3 (Q_g hRr) (by first | omega | decide | assumption) (by decide) dL_law_238 (v := nI (1 + (v % md))) ((gV_0 _ (c1 20 1)).trans (congrArg nI (show (up2 (up2 (up2 r1 10 (c1 20 1) (1 + (v % md))) 11 (c1 20 1) ((v / 100) % 4)) 12 (c1 20 1) 0) 10 (c1 20 1) = 1 + (v % md) from by simp [up2]))) ?_
                    refine lv_aload_n hx hb dL_law_239 rfl (lv_at hl 11 rfl) ?_
                    refine lv_bipush (v := nI 8) hx hb dL_law_240 (by decide) ?_
                    refine lv_iload hx hb dL_law_242 (lv_at hl 3 rfl) ?_
                    refine n_imul hx hb dL_law_244 ?_
                    refine lv_iconst (v := nI 1) hx hb dL_law_245 (by decide) ?_
                    refine n_iadd hx hb dL_law_246 ?_
                    refine x_iald hx hb hK hP 3 (Q_g hRr) (by first | omega | decide | assumption) (by decide) dL_law_247 (v := nI ((v / 100) % 4)) ((gV_j _ (k := (c1 20 1)) (j := 1) (by decide) (by decide)).trans (congrArg nI (show (up2 (up2 (up2 r1 10 (c1 20 1) (1 + (v % md))) 11 (c1 20 1) ((v / 100) % 4)) 12 (c1 20 1) 0) 11 (c1 20 1) = (v / 100) % 4 from by simp [up2]))) ?_
                    refine lv_iconst (v := nI 0) hx hb dL_law_248 (by decide) ?_
                    refine y_calli (va_SW (As := [.ref (G 0), .int (nI 0), .int (nI (1 + (v % md))), .int (nI ((v / 100) % 4)), .int (nI 0)]) (rest := []) hx hb hml hown hts (k_L_act_add l hlt D G h0 c1 (up2 (up2 (up2 r1 10 (c1 20 1) (1 + (v % md))) 11 (c1 20 1) ((v / 100) % 4)) 12 (c1 20 1) 0) o (nI (1 + (v % md))) (nI ((v / 100) % 4)) (nI 0) hI1) (vx_cwSW 5 hts gL_law_L_act rfl rfl rfl (by decide +kernel) ⟨(Nat.le_of_ble_eq_true rfl), (Nat.le_of_ble_eq_true rfl)⟩) (fun a U g mk q => ⟨q.1, Pr_cg q.2⟩) (fun U hU hW => ⟨rfl, Pr_mk hE hRc hRr hRo hP hD hS hU hW⟩) rfl hl.1 rfl (lv_room (Nat.le_of_ble_eq_true rfl)) dL_law_249 (show _ ≤ 1013921 from by omega) (show _ ≤ 6059706 from by omega)) hS (fun v9 C2 H locs wl hv9 hRc hRr hRo hP hD hS => ?_)
                    have hv9 := A_add hv9 ⟨by omega, by omega⟩ (by omega) (by omega) hg0
                    refine n_top (y := .int (nI (c1 20 1))) (congrArg Value.int hv9.1) ?_
                    obtain ⟨ρ9, hLI9⟩ := LI_add hLI (t := 1 + v % md) (k := v / 100 % 4) ⟨by omega, by omega⟩ (by omega) (by omega) hg0
                    rw [← hv9.2] at hLI9
                    have hFs := hLI.1.2.2.1.1 (c1 20 1) (Nat.le_refl _)
                    have hIC2 := hLI9.1.1
                    have hC2 : C2 20 1 = c1 20 1 + 1 ∧ C2 9 (c1 20 1) = 0 ∧ C2 3 (c1 20 1) = 10 ∧ C2 4 (c1 20 1) = 0 ∧ C2 20 3 = 0 := by rw [hv9.2]; simp only [up2]; simp; exact ⟨hFs.2.2.2.2.2.2, hFs.1, hFs.2.1, hg0⟩
                    have hB2 := IC_B hIC2
                    clear hv9
                    refine lv_iload hx hb dL_law_252 (lv_at hl 3 rfl) ?_
                    refine n_icmp_ne (tgt := 290) hx hb dL_law_254 (by decide) (hB1 _ _ (by decide)) (hB1 _ _ (by decide)) (fun c_254 => ?_) (fun c_254 => ?_)
                    · exfalso; exact c_254 rfl
                    · refine lv_aload_n hx hb dL_law_257 rfl (lv_at hl 10 rfl) ?_
                      refine lv_iload hx hb dL_law_258 (lv_at hl 3 rfl) ?_
                      refine y_calli (va_runV (As := [.int (nI (c1 20 1))]) (rest := []) ⟨hx, hb, hml, hown, hts⟩ (k_X2_state_ok l D G h0 C2 (up2 (up2 (up2 r1 10 (c1 20 1) (1 + (v % md))) 11 (c1 20 1) ((v / 100) % 4)) 12 (c1 20 1) 0) o hIC2 (c1 20 1) (by first | omega | assumption)) (cwV 1 hts gL_law_X2_state rfl rfl rfl (by decide +kernel) ⟨Nat.le_of_ble_eq_true rfl, Nat.le_of_ble_eq_true rfl⟩) ⟨fun a U g mk q => ⟨q.1, Pr_cg q.2⟩, va_recv (ci := 3) (q0 := 0) hK hP rfl (Q_o hRc), fun U hU hW => ⟨rfl, Pr_mk hE hRc hRr hRo hP hD hS hU hW⟩⟩ rfl rfl hl.1 rfl (lv_room (Nat.le_of_ble_eq_true rfl)) dL_law_260 ⟨(show _ ≤ 1013921 from by omega), (show _ ≤ 6059706 from by omega)⟩) hS (fun v9 _ H locs wl hv9 hRc hRr hRo hP hD hS => ?_)
                      refine n_top (y := .int (nI (C2 9 (c1 20 1)))) (congrArg Value.int hv9) ?_
                      clear hv9 v9
                      refine n_if_ne (tgt := 290) hx hb dL_law_263 (by decide) (hB2 _ _ (by decide)) (fun c_263 => ?_) (fun c_263 => ?_)
                      · exfalso; omega
                      · refine lv_aload_n hx hb dL_law_266 rfl (lv_at hl 10 rfl) ?_
                        refine lv_iload hx hb dL_law_267 (lv_at hl 3 rfl) ?_
                        refine y_calli (va_runV (As := [.int (nI (c1 20 1))]) (rest := []) ⟨hx, hb, hml, hown, hts⟩ (k_X2_learned_ok l D G h0 C2 (up2 (up2 (up2 r1 10 (c1 20 1) (1 + (v % md))) 11 (c1 20 1) ((v / 100) % 4)) 12 (c1 20 1) 0) o hIC2 (c1 20 1) (by first | omega | assumption)) (cwV 1 hts gL_law_X2_learned rfl rfl rfl (by decide +kernel) ⟨Nat.le_of_ble_eq_true rfl, Nat.le_of_ble_eq_true rfl⟩) ⟨fun a U g mk q => ⟨q.1, Pr_cg q.2⟩, va_recv (ci := 3) (q0 := 0) hK hP rfl (Q_o hRc), fun U hU hW => ⟨rfl, Pr_mk hE hRc hRr hRo hP hD hS hU hW⟩⟩ rfl rfl hl.1 rfl (lv_room (Nat.le_of_ble_eq_true rfl)) dL_law_269 ⟨(show _ ≤ 1013921 from by omega), (show _ ≤ 6059706 from by omega)⟩) hS (fun v9 _ H locs wl hv9 hRc hRr hRo hP hD hS => ?_)
                        refine n_top (y := .int (nI (C2 3 (c1 20 1)))) (congrArg Value.int hv9) ?_
                        clear hv9 v9
                        refine lv_bipush (v := nI 10) hx hb dL_law_272 (by decide) ?_
                        refine n_icmp_ne (tgt := 290) hx hb dL_law_274 (by decide) (hB2 _ _ (by decide)) (by decide) (fun c_274 => ?_) (fun c_274 => ?_)
                        · exfalso; omega
                        · refine lv_aload_n hx hb dL_law_277 rfl (lv_at hl 10 rfl) ?_
                          refine lv_iload hx hb dL_law_278 (lv_at hl 3 rfl) ?_
                          refine y_calli (va_runV (As := [.int (nI (c1 20 1))]) (rest := []) ⟨hx, hb, hml, hown, hts⟩ (k_X2_faults_ok l D G h0 C2 (up2 (up2 (up2 r1 10 (c1 20 1) (1 + (v % md))) 11 (c1 20 1) ((v / 100) % 4)) 12 (c1 20 1) 0) o hIC2 (c1 20 1) (by first | omega | assumption)) (cwV 1 hts gL_law_X2_faults rfl rfl rfl (by decide +kernel) ⟨Nat.le_of_ble_eq_true rfl, Nat.le_of_ble_eq_true rfl⟩) ⟨fun a U g mk q => ⟨q.1, Pr_cg q.2⟩, va_recv (ci := 3) (q0 := 0) hK hP rfl (Q_o hRc), fun U hU hW => ⟨rfl, Pr_mk hE hRc hRr hRo hP hD hS hU hW⟩⟩ rfl rfl hl.1 rfl (lv_room (Nat.le_of_ble_eq_true rfl)) dL_law_280 ⟨(show _ ≤ 1013921 from by omega), (show _ ≤ 6059706 from by omega)⟩) hS (fun v9 _ H locs wl hv9 hRc hRr hRo hP hD hS => ?_)
                          refine n_top (y := .int (nI (C2 4 (c1 20 1)))) (congrArg Value.int hv9) ?_
                          clear hv9 v9
                          refine n_if_ne (tgt := 290) hx hb dL_law_283 (by decide) (hB2 _ _ (by decide)) (fun c_283 => ?_) (fun c_283 => ?_)
                          · exfalso; omega
                          · refine lv_iconst (v := nI 1) hx hb dL_law_286 (by decide) ?_
                            refine lv_goto (tgt := 291) hx hb dL_law_287 (by decide) ?_
                            refine lv_istore (lv' := [(6, .int (nI 1)), (14, .int (nI oo)), (13, .int (nI kk)), (12, .int (nI (c1 20 3))), (11, .int (nI (c1 20 1))), (10, .int (nI how)), (9, .int (nI v)), (8, .int (nI x)), (7, .int (nI n)), (0, .ref b), (1, .ref (G 0)), (2, .ref (G 3)), (3, .ref (G 4)), (4, .ref (G 5)), (5, .ref (G 6))]) hx hb dL_law_291 hl (by decide) rfl (fun ls hl => ?_)
                            refine lv_goto (tgt := 584) hx hb dL_law_293 (by decide) ?_
                            obtain ⟨a1, a2, a3, a4, a5, a6, a7, a8, a9, a10⟩ := LI_ar hLI9 (by omega)
                            refine lv_iload hx hb dL_law_584 (lv_at hl 0 rfl) ?_
                            refine n_if_eq (tgt := 629) hx hb dL_law_586 (by decide) (by decide) (fun c_586 => absurd c_586 (by decide)) (fun c_586 => ?_)
                            refine lv_aload_n hx hb dL_law_589 rfl (lv_at hl 10 rfl) ?_
                            refine lv_aload_n hx hb dL_law_590 rfl (lv_at hl 11 rfl) ?_
                            refine lv_aload_n hx hb dL_law_591 rfl (lv_at hl 12 rfl) ?_
                            refine y_calli (va_runS (As := [.ref (G 0), .ref (G 3), .ref (G 4)]) (rest := []) ⟨hx, hb, hml, hown, hts⟩ (k_L_areUnits l D G h0 C2 (up2 (up2 (up2 r1 10 (c1 20 1) (1 + (v % md))) 11 (c1 20 1) ((v / 100) % 4)) 12 (c1 20 1) 0) o a1 a2 a3 a4 a5 a6 a7) (va_cwS 3 hts gL_law_L_areUnits rfl rfl rfl (by decide +kernel) ⟨Nat.le_of_ble_eq_true rfl, Nat.le_of_ble_eq_true rfl⟩) ⟨fun a U g mk q => ⟨q.1, Pr_cg q.2⟩, fun U hU hW => ⟨rfl, Pr_mk hE hRc hRr hRo hP hD hS hU hW⟩⟩ rfl rfl hl.1 rfl (lv_room (Nat.le_of_ble_eq_true rfl)) dL_law_592 ⟨(show _ ≤ 1013921 from by omega), (show _ ≤ 6059706 from by omega)⟩) hS (fun v9 _ H locs wl hv9 hRc hRr hRo hP hD hS => ?_)
                            refine n_top (y := .int (nI 1)) (congrArg Value.int hv9) ?_
                            clear hv9 v9
                            refine n_if_eq (tgt := 629) hx hb dL_law_595 (by decide) (by decide) (fun c_595 => absurd c_595 (by decide)) (fun c_595 => ?_)
                            refine lv_aload_n hx hb dL_law_598 rfl (lv_at hl 10 rfl) ?_
                            refine lv_aload_n hx hb dL_law_599 rfl (lv_at hl 11 rfl) ?_
                            refine y_calli (va_runS (As := [.ref (G 0), .ref (G 3)]) (rest := []) ⟨hx, hb, hml, hown, hts⟩ (k_L_areRunning l D G h0 C2 (up2 (up2 (up2 r1 10 (c1 20 1) (1 + (v % md))) 11 (c1 20 1) ((v / 100) % 4)) 12 (c1 20 1) 0) o a1 a2 a3 a4 a8 a9 a5) (va_cwS 2 hts gL_law_L_areRunning rfl rfl rfl (by decide +kernel) ⟨Nat.le_of_ble_eq_true rfl, Nat.le_of_ble_eq_true rfl⟩) ⟨fun a U g mk q => ⟨q.1, Pr_cg q.2⟩, fun U hU hW => ⟨rfl, Pr_mk hE hRc hRr hRo hP hD hS hU hW⟩⟩ rfl rfl hl.1 rfl (lv_room (Nat.le_of_ble_eq_true rfl)) dL_law_600 ⟨(show _ ≤ 1013921 from by omega), (show _ ≤ 6059706 from by omega)⟩) hS (fun v9 _ H locs wl hv9 hRc hRr hRo hP hD hS => ?_)
                            refine n_top (y := .int (nI 1)) (congrArg Value.int hv9) ?_
                            clear hv9 v9
                            refine n_if_eq (tgt := 629) hx hb dL_law_603 (by decide) (by decide) (fun c_603 => absurd c_603 (by decide)) (fun c_603 => ?_)
                            refine lv_iload hx hb dL_law_606 (lv_at hl 8 rfl) ?_
                            refine lv_bipush (v := nI 20) hx hb dL_law_608 (by decide) ?_
                            refine n_irem hx hb dL_law_610 (by omega) (by first | omega | decide | assumption) (by decide) ?_
                            refine n_if_gt (tgt := 625) hx hb dL_law_611 (by decide) (by omega) (fun c_611 => ?_) (fun c_611 => ?_)
                            · refine lv_iconst (v := nI 1) hx hb dL_law_625 (by decide) ?_
                              refine lv_goto (tgt := 630) hx hb dL_law_626 (by decide) ?_
                              refine lv_istore (lv' := [(6, .int (nI 1)), (14, .int (nI oo)), (13, .int (nI kk)), (12, .int (nI (c1 20 3))), (11, .int (nI (c1 20 1))), (10, .int (nI how)), (9, .int (nI v)), (8, .int (nI x)), (7, .int (nI n)), (0, .ref b), (1, .ref (G 0)), (2, .ref (G 3)), (3, .ref (G 4)), (4, .ref (G 5)), (5, .ref (G 6))]) hx hb dL_law_630 hl (by decide) rfl (fun ls hl => ?_)
                              refine lv_iinc (v := nI (n + 1)) (lv' := [(7, .int (nI (n + 1))), (6, .int (nI 1)), (14, .int (nI oo)), (13, .int (nI kk)), (12, .int (nI (c1 20 3))), (11, .int (nI (c1 20 1))), (10, .int (nI how)), (9, .int (nI v)), (8, .int (nI x)), (0, .ref b), (1, .ref (G 0)), (2, .ref (G 3)), (3, .ref (G 4)), (4, .ref (G 5)), (5, .ref (G 6))]) hx hb dL_law_632 hl (k := 8) rfl (nI_add n 1) (by decide) rfl (fun ls hl => ?_)
                              refine lv_goto (tgt := 62) hx hb dL_law_635 (by decide) ?_
                              refine W.widen (k := 3000 + 600 * (n + 1)) (n := 200000 + 2100 * (n + 1) + 70000 * (((n + 1) + 19) / 20)) (by omega) (by omega) ?_
                              exact ih62 (n + 1) (by omega) (by omega) (C2) (up2 (up2 (up2 r1 10 (c1 20 1) (1 + (v % md))) 11 (c1 20 1) ((v / 100) % 4)) 12 (c1 20 1) 0) (ρ9) (by exact hLI9) (by intro z; omega) _ _ _ _ hRc hRr hRo hP hD hS (lv_sub hl [0, 1, 9, 10, 11, 12, 13, 14] rfl)
                            · refine lv_aload_n hx hb dL_law_614 rfl (lv_at hl 10 rfl) ?_
                              refine lv_iload hx hb dL_law_615 (lv_at hl 7 rfl) ?_
                              refine lv_iconst (v := nI 3) hx hb dL_law_617 (by decide) ?_
                              refine n_idiv hx hb dL_law_618 (by omega) (by first | omega | decide | assumption) (by decide) ?_
                              refine y_calli (va_runS (As := [.ref (G 0), .int (nI (x / 3))]) (rest := []) ⟨hx, hb, hml, hown, hts⟩ (k_L_isRefused l D G h0 C2 (up2 (up2 (up2 r1 10 (c1 20 1) (1 + (v % md))) 11 (c1 20 1) ((v / 100) % 4)) 12 (c1 20 1) 0) o hlt a1 (by omega) a2 (x / 3) (by omega)) (va_cwS 2 hts gL_law_L_isRefused rfl rfl rfl (by decide +kernel) ⟨Nat.le_of_ble_eq_true rfl, Nat.le_of_ble_eq_true rfl⟩) ⟨fun a U g mk q => ⟨q.1, Pr_cg q.2⟩, fun U hU hW => ⟨rfl, Pr_mk hE hRc hRr hRo hP hD hS hU hW⟩⟩ rfl rfl hl.1 rfl (lv_room (Nat.le_of_ble_eq_true rfl)) dL_law_619 ⟨(show _ ≤ 1013921 from by omega), (show _ ≤ 6059706 from by omega)⟩) hS (fun v9 _ H locs wl hv9 hRc hRr hRo hP hD hS => ?_)
                              refine n_top (y := .int (nI 1)) (congrArg Value.int hv9) ?_
                              clear hv9 v9
                              refine n_if_eq (tgt := 629) hx hb dL_law_622 (by decide) (by decide) (fun c_622 => absurd c_622 (by decide)) (fun c_622 => ?_)
                              refine lv_iconst (v := nI 1) hx hb dL_law_625 (by decide) ?_
                              refine lv_goto (tgt := 630) hx hb dL_law_626 (by decide) ?_
                              refine lv_istore (lv' := [(6, .int (nI 1)), (14, .int (nI oo)), (13, .int (nI kk)), (12, .int (nI (c1 20 3))), (11, .int (nI (c1 20 1))), (10, .int (nI how)), (9, .int (nI v)), (8, .int (nI x)), (7, .int (nI n)), (0, .ref b), (1, .ref (G 0)), (2, .ref (G 3)), (3, .ref (G 4)), (4, .ref (G 5)), (5, .ref (G 6))]) hx hb dL_law_630 hl (by decide) rfl (fun ls hl => ?_)
                              refine lv_iinc (v := nI (n + 1)) (lv' := [(7, .int (nI (n + 1))), (6, .int (nI 1)), (14, .int (nI oo)), (13, .int (nI kk)), (12, .int (nI (c1 20 3))), (11, .int (nI (c1 20 1))), (10, .int (nI how)), (9, .int (nI v)), (8, .int (nI x)), (0, .ref b), (1, .ref (G 0)), (2, .ref (G 3)), (3, .ref (G 4)), (4, .ref (G 5)), (5, .ref (G 6))]) hx hb dL_law_632 hl (k := 8) rfl (nI_add n 1) (by decide) rfl (fun ls hl => ?_)
                              refine lv_goto (tgt := 62) hx hb dL_law_635 (by decide) ?_
                              refine W.widen (k := 3000 + 600 * (n + 1)) (n := 200000 + 2100 * (n + 1) + 70000 * (((n + 1) + 19) / 20)) (by omega) (by omega) ?_
                              exact ih62 (n + 1) (by omega) (by omega) (C2) (up2 (up2 (up2 r1 10 (c1 20 1) (1 + (v % md))) 11 (c1 20 1) ((v / 100) % 4)) 12 (c1 20 1) 0) (ρ9) (by exact hLI9) (by intro z; omega) _ _ _ _ hRc hRr hRo hP hD hS (lv_sub hl [0, 1, 9, 10, 11, 12, 13, 14] rfl)
            refine J160 (fun hn3 H locs wl hRc hRr hRo hP hD hS => ?_)
            refine lv_iload hx hb dL_law_296 (lv_at hl 4 rfl) ?_
            refine lv_iconst (v := nI 3) hx hb dL_law_298 (by decide) ?_
            refine n_icmp_ge (tgt := 371) hx hb dL_law_299 (by decide) (by omega) (by decide) (fun c_299 => ?_) (fun c_299 => ?_)
            · refine lv_iload hx hb dL_law_371 (lv_at hl 4 rfl) ?_
              refine lv_bipush (v := nI 7) hx hb dL_law_373 (by decide) ?_
              refine n_icmp_ge (tgt := 443) hx hb dL_law_375 (by decide) (by omega) (by decide) (fun c_375 => ?_) (fun c_375 => ?_)
              · refine lv_iload hx hb dL_law_443 (lv_at hl 2 rfl) ?_
                refine n_if_eq (tgt := 493) hx hb dL_law_445 (by decide) (ho3 ho1.1) (fun c_445 => ?_) (fun c_445 => ?_)
                · refine lv_iload hx hb dL_law_493 (lv_at hl 4 rfl) ?_
                  refine lv_bipush (v := nI 26) hx hb dL_law_495 (by decide) ?_
                  refine n_icmp_ge (tgt := 556) hx hb dL_law_497 (by decide) (by omega) (by decide) (fun c_497 => ?_) (fun c_497 => ?_)
                  · refine lv_aload_n hx hb dL_law_556 rfl (lv_at hl 10 rfl) ?_
                    refine lv_aload_n hx hb dL_law_557 rfl (lv_at hl 11 rfl) ?_
                    refine lv_aload_n hx hb dL_law_558 rfl (lv_at hl 12 rfl) ?_
                    refine lv_aload hx hb dL_law_559 (lv_at hl 14 rfl) ?_
                    refine lv_iconst (v := nI 1) hx hb dL_law_561 (by decide) ?_
                    refine lv_iload hx hb dL_law_562 (lv_at hl 5 rfl) ?_
                    have J564 : (∀ (H : Heap) (locs : List Loc) (wl : va_W), Rc G c1 wl → Rr G r1 wl → Ro G o wl → va_P D vwCl wl H → va_D (fun q => h0 ≤ q) wl → va_S (fun q => h0 ≤ q) s.heap H locs → W p l e room_1 s m #[Value.ref b] below meth cd H locs (3000 + 600 * n) (200000 + 2100 * n + 70000 * ((n + 19) / 20)) Q (F0 m 577 ls [.int (nI mb), .int (nI v), .int (nI 1), .ref (G 6), .ref (G 4), .ref (G 3), .ref (G 0)])) → W p l e room_1 s m #[Value.ref b] below meth cd H locs (3000 + 600 * n) (200000 + 2100 * n + 70000 * ((n + 19) / 20)) Q (F0 m 564 ls [.int (nI v), .int (nI 1), .ref (G 6), .ref (G 4), .ref (G 3), .ref (G 0)]) := by
                      intro hk564
                      refine lv_iload hx hb dL_law_564 (lv_at hl 5 rfl) ?_
                      refine lv_iconst (v := nI 3) hx hb dL_law_566 (by decide) ?_
                      refine n_irem hx hb dL_law_567 (by omega) (by first | omega | decide | assumption) (by decide) ?_
                      refine n_if_ne (tgt := 576) hx hb dL_law_568 (by decide) (by omega) (fun c_568 => ?_) (fun c_568 => ?_)
                      · refine lv_iconst (v := nI 3) hx hb dL_law_576 (by decide) ?_
                        refine n_top (y := .int (nI mb)) (congrArg Value.int (show nI 3 = nI mb from by exact congrArg nI (hmb.2 (by omega)).symm)) ?_
                        exact hk564 _ _ _ hRc hRr hRo hP hD hS
                      · refine lv_bipush (v := nI 20) hx hb dL_law_571 (by decide) ?_
                        refine lv_goto (tgt := 577) hx hb dL_law_573 (by decide) ?_
                        refine n_top (y := .int (nI mb)) (congrArg Value.int (show nI 20 = nI mb from by exact congrArg nI (hmb.1 (by omega)).symm)) ?_
                        exact hk564 _ _ _ hRc hRr hRo hP hD hS
                    refine J564 (fun H locs wl hRc hRr hRo hP hD hS => ?_)
                    refine n_irem hx hb dL_law_577 (by omega) (by first | omega | decide | assumption) (by omega) ?_
                    refine n_iadd hx hb dL_law_578 ?_
                    refine y_calli (va_runS (As := [.ref (G 0), .ref (G 3), .ref (G 4), .ref (G 6), .int (nI (1 + (v % mb)))]) (rest := []) ⟨hx, hb, hml, hown, hts⟩ (k_L_isBegun l D G h0 c1 r1 o ρ1 n (by omega) hLI hg0 (1 + (v % mb)) (by omega) (by omega)) (va_cwS 5 hts gL_law_L_isBegun rfl rfl rfl (by decide +kernel) ⟨Nat.le_of_ble_eq_true rfl, Nat.le_of_ble_eq_true rfl⟩) ⟨fun a U g mk q => ⟨q.1, Pr_cg q.2⟩, fun U hU hW => ⟨rfl, Pr_mk hE hRc hRr hRo hP hD hS hU hW⟩⟩ rfl rfl hl.1 rfl (lv_room (Nat.le_of_ble_eq_true rfl)) dL_law_579 ⟨(show _ ≤ 1013921 from by omega), (show _ ≤ 6059706 from by omega)⟩) hS (fun v9 u_579 H locs wl hv9 hRc hRr hRo hP hD hS => ?_)
                    obtain ⟨hv9, ρ9, hLI9⟩ := hv9
                    refine n_top (y := .int (nI 1)) (congrArg Value.int hv9) ?_
                    clear hv9
                    refine lv_istore (lv' := [(6, .int (nI 1)), (14, .int (nI oo)), (13, .int (nI kk)), (12, .int (nI (c1 20 3))), (11, .int (nI (c1 20 1))), (10, .int (nI how)), (9, .int (nI v)), (8, .int (nI x)), (7, .int (nI n)), (0, .ref b), (1, .ref (G 0)), (2, .ref (G 3)), (3, .ref (G 4)), (4, .ref (G 5)), (5, .ref (G 6))]) hx hb dL_law_582 hl (by decide) rfl (fun ls hl => ?_)
                    obtain ⟨a1, a2, a3, a4, a5, a6, a7, a8, a9, a10⟩ := LI_ar hLI9 (by omega)
                    refine lv_iload hx hb dL_law_584 (lv_at hl 0 rfl) ?_
                    refine n_if_eq (tgt := 629) hx hb dL_law_586 (by decide) (by decide) (fun c_586 => absurd c_586 (by decide)) (fun c_586 => ?_)
                    refine lv_aload_n hx hb dL_law_589 rfl (lv_at hl 10 rfl) ?_
                    refine lv_aload_n hx hb dL_law_590 rfl (lv_at hl 11 rfl) ?_
                    refine lv_aload_n hx hb dL_law_591 rfl (lv_at hl 12 rfl) ?_
                    refine y_calli (va_runS (As := [.ref (G 0), .ref (G 3), .ref (G 4)]) (rest := []) ⟨hx, hb, hml, hown, hts⟩ (k_L_areUnits l D G h0 (c_begin c1 (1 + (v % mb))) u_579 o a1 a2 a3 a4 a5 a6 a7) (va_cwS 3 hts gL_law_L_areUnits rfl rfl rfl (by decide +kernel) ⟨Nat.le_of_ble_eq_true rfl, Nat.le_of_ble_eq_true rfl⟩) ⟨fun a U g mk q => ⟨q.1, Pr_cg q.2⟩, fun U hU hW => ⟨rfl, Pr_mk hE hRc hRr hRo hP hD hS hU hW⟩⟩ rfl rfl hl.1 rfl (lv_room (Nat.le_of_ble_eq_true rfl)) dL_law_592 ⟨(show _ ≤ 1013921 from by omega), (show _ ≤ 6059706 from by omega)⟩) hS (fun v9 _ H locs wl hv9 hRc hRr hRo hP hD hS => ?_)
                    refine n_top (y := .int (nI 1)) (congrArg Value.int hv9) ?_
                    clear hv9 v9
                    refine n_if_eq (tgt := 629) hx hb dL_law_595 (by decide) (by decide) (fun c_595 => absurd c_595 (by decide)) (fun c_595 => ?_)
                    refine lv_aload_n hx hb dL_law_598 rfl (lv_at hl 10 rfl) ?_
                    refine lv_aload_n hx hb dL_law_599 rfl (lv_at hl 11 rfl) ?_
                    refine y_calli (va_runS (As := [.ref (G 0), .ref (G 3)]) (rest := []) ⟨hx, hb, hml, hown, hts⟩ (k_L_areRunning l D G h0 (c_begin c1 (1 + (v % mb))) u_579 o a1 a2 a3 a4 a8 a9 a5) (va_cwS 2 hts gL_law_L_areRunning rfl rfl rfl (by decide +kernel) ⟨Nat.le_of_ble_eq_true rfl, Nat.le_of_ble_eq_true rfl⟩) ⟨fun a U g mk q => ⟨q.1, Pr_cg q.2⟩, fun U hU hW => ⟨rfl, Pr_mk hE hRc hRr hRo hP hD hS hU hW⟩⟩ rfl rfl hl.1 rfl (lv_room (Nat.le_of_ble_eq_true rfl)) dL_law_600 ⟨(show _ ≤ 1013921 from by omega), (show _ ≤ 6059706 from by omega)⟩) hS (fun v9 _ H locs wl hv9 hRc hRr hRo hP hD hS => ?_)
                    refine n_top (y := .int (nI 1)) (congrArg Value.int hv9) ?_
                    clear hv9 v9
                    refine n_if_eq (tgt := 629) hx hb dL_law_603 (by decide) (by decide) (fun c_603 => absurd c_603 (by decide)) (fun c_603 => ?_)
                    refine lv_iload hx hb dL_law_606 (lv_at hl 8 rfl) ?_
                    refine lv_bipush (v := nI 20) hx hb dL_law_608 (by decide) ?_
                    refine n_irem hx hb dL_law_610 (by omega) (by first | omega | decide | assumption) (by decide) ?_
                    refine n_if_gt (tgt := 625) hx hb dL_law_611 (by decide) (by omega) (fun c_611 => ?_) (fun c_611 => ?_)
                    · refine lv_iconst (v := nI 1) hx hb dL_law_625 (by decide) ?_
                      refine lv_goto (tgt := 630) hx hb dL_law_626 (by decide) ?_
                      refine lv_istore (lv' := [(6, .int (nI 1)), (14, .int (nI oo)), (13, .int (nI kk)), (12, .int (nI (c1 20 3))), (11, .int (nI (c1 20 1))), (10, .int (nI how)), (9, .int (nI v)), (8, .int (nI x)), (7, .int (nI n)), (0, .ref b), (1, .ref (G 0)), (2, .ref (G 3)), (3, .ref (G 4)), (4, .ref (G 5)), (5, .ref (G 6))]) hx hb dL_law_630 hl (by decide) rfl (fun ls hl => ?_)
                      refine lv_iinc (v := nI (n + 1)) (lv' := [(7, .int (nI (n + 1))), (6, .int (nI 1)), (14, .int (nI oo)), (13, .int (nI kk)), (12, .int (nI (c1 20 3))), (11, .int (nI (c1 20 1))), (10, .int (nI how)), (9, .int (nI v)), (8, .int (nI x)), (0, .ref b), (1, .ref (G 0)), (2, .ref (G 3)), (3, .ref (G 4)), (4, .ref (G 5)), (5, .ref (G 6))]) hx hb dL_law_632 hl (k := 8) rfl (nI_add n 1) (by decide) rfl (fun ls hl => ?_)
                      refine lv_goto (tgt := 62) hx hb dL_law_635 (by decide) ?_
                      refine W.widen (k := 3000 + 600 * (n + 1)) (n := 200000 + 2100 * (n + 1) + 70000 * (((n + 1) + 19) / 20)) (by omega) (by omega) ?_
                      exact ih62 (n + 1) (by omega) (by omega) (c_begin c1 (1 + (v % mb))) (u_579) (ρ9) (by exact hLI9) (by intro z; have h9 := (beg_v hI1 (b := 1 + v % mb) (by omega)).2.2.1; omega) _ _ _ _ hRc hRr hRo hP hD hS (lv_sub hl [0, 1, 9, 10, 11, 12, 13, 14] rfl)
                    · refine lv_aload_n hx hb dL_law_614 rfl (lv_at hl 10 rfl) ?_
                      refine lv_iload hx hb dL_law_615 (lv_at hl 7 rfl) ?_
                      refine lv_iconst (v := nI 3) hx hb dL_law_617 (by decide) ?_
                      refine n_idiv hx hb dL_law_618 (by omega) (by first | omega | decide | assumption) (by decide) ?_
                      refine y_calli (va_runS (As := [.ref (G 0), .int (nI (x / 3))]) (rest := []) ⟨hx, hb, hml, hown, hts⟩ (k_L_isRefused l D G h0 (c_begin c1 (1 + (v % mb))) u_579 o hlt a1 (by omega) a2 (x / 3) (by omega)) (va_cwS 2 hts gL_law_L_isRefused rfl rfl rfl (by decide +kernel) ⟨Nat.le_of_ble_eq_true rfl, Nat.le_of_ble_eq_true rfl⟩) ⟨fun a U g mk q => ⟨q.1, Pr_cg q.2⟩, fun U hU hW => ⟨rfl, Pr_mk hE hRc hRr hRo hP hD hS hU hW⟩⟩ rfl rfl hl.1 rfl (lv_room (Nat.le_of_ble_eq_true rfl)) dL_law_619 ⟨(show _ ≤ 1013921 from by omega), (show _ ≤ 6059706 from by omega)⟩) hS (fun v9 _ H locs wl hv9 hRc hRr hRo hP hD hS => ?_)
                      refine n_top (y := .int (nI 1)) (congrArg Value.int hv9) ?_
                      clear hv9 v9
                      refine n_if_eq (tgt := 629) hx hb dL_law_622 (by decide) (by decide) (fun c_622 => absurd c_622 (by decide)) (fun c_622 => ?_)
                      refine lv_iconst (v := nI 1) hx hb dL_law_625 (by decide) ?_
                      refine lv_goto (tgt := 630) hx hb dL_law_626 (by decide) ?_
                      refine lv_istore (lv' := [(6, .int (nI 1)), (14, .int (nI oo)), (13, .int (nI kk)), (12, .int (nI (c1 20 3))), (11, .int (nI (c1 20 1))), (10, .int (nI how)), (9, .int (nI v)), (8, .int (nI x)), (7, .int (nI n)), (0, .ref b), (1, .ref (G 0)), (2, .ref (G 3)), (3, .ref (G 4)), (4, .ref (G 5)), (5, .ref (G 6))]) hx hb dL_law_630 hl (by decide) rfl (fun ls hl => ?_)
                      refine lv_iinc (v := nI (n + 1)) (lv' := [(7, .int (nI (n + 1))), (6, .int (nI 1)), (14, .int (nI oo)), (13, .int (nI kk)), (12, .int (nI (c1 20 3))), (11, .int (nI (c1 20 1))), (10, .int (nI how)), (9, .int (nI v)), (8, .int (nI x)), (0, .ref b), (1, .ref (G 0)), (2, .ref (G 3)), (3, .ref (G 4)), (4, .ref (G 5)), (5, .ref (G 6))]) hx hb dL_law_632 hl (k := 8) rfl (nI_add n 1) (by decide) rfl (fun ls hl => ?_)
                      refine lv_goto (tgt := 62) hx hb dL_law_635 (by decide) ?_
                      refine W.widen (k := 3000 + 600 * (n + 1)) (n := 200000 + 2100 * (n + 1) + 70000 * (((n + 1) + 19) / 20)) (by omega) (by omega) ?_
                      exact ih62 (n + 1) (by omega) (by omega) (c_begin c1 (1 + (v % mb))) (u_579) (ρ9) (by exact hLI9) (by intro z; have h9 := (beg_v hI1 (b := 1 + v % mb) (by omega)).2.2.1; omega) _ _ _ _ hRc hRr hRo hP hD hS (lv_sub hl [0, 1, 9, 10, 11, 12, 13, 14] rfl)
                  · refine lv_aload_n hx hb dL_law_500 rfl (lv_at hl 10 rfl) ?_
                    refine lv_aload_n hx hb dL_law_501 rfl (lv_at hl 11 rfl) ?_
                    refine lv_aload_n hx hb dL_law_502 rfl (lv_at hl 12 rfl) ?_
                    refine lv_aload hx hb dL_law_503 (lv_at hl 14 rfl) ?_
                    refine lv_iload hx hb dL_law_505 (lv_at hl 4 rfl) ?_
                    refine lv_bipush (v := nI 15) hx hb dL_law_507 (by decide) ?_
                    refine n_icmp_ge (tgt := 516) hx hb dL_law_509 (by decide) (by omega) (by decide) (fun c_509 => ?_) (fun c_509 => ?_)
                    · refine lv_iload hx hb dL_law_516 (lv_at hl 4 rfl) ?_
                      refine lv_bipush (v := nI 21) hx hb dL_law_518 (by decide) ?_
                      refine n_icmp_ge (tgt := 527) hx hb dL_law_520 (by decide) (by omega) (by decide) (fun c_520 => ?_) (fun c_520 => ?_)
                      · refine lv_iload hx hb dL_law_527 (lv_at hl 4 rfl) ?_
                        refine lv_bipush (v := nI 24) hx hb dL_law_529 (by decide) ?_
                        refine n_icmp_ge (tgt := 538) hx hb dL_law_531 (by decide) (by omega) (by decide) (fun c_531 => ?_) (fun c_531 => ?_)
                        · refine lv_iconst (v := nI 4) hx hb dL_law_538 (by decide) ?_
                          refine lv_iload hx hb dL_law_539 (lv_at hl 1 rfl) ?_
                          refine lv_iload hx hb dL_law_541 (lv_at hl 0 rfl) ?_
                          refine lv_iload hx hb dL_law_543 (lv_at hl 5 rfl) ?_
                          refine lv_bipush (v := nI 64) hx hb dL_law_545 (by decide) ?_
                          refine n_idiv hx hb dL_law_547 (by omega) (by first | omega | decide | assumption) (by decide) ?_
                          refine y_calli (va_runS (As := [.ref (G 0), .ref (G 3), .ref (G 4), .ref (G 6), .int (nI 4), .int (nI kk), .int (nI oo), .int (nI (v / 64))]) (rest := []) ⟨hx, hb, hml, hown, hts⟩ (k_L_isTold_4 l D G h0 c1 r1 o hlt ρ1 n (by omega) hLI hg0 kk oo (v / 64) (hkk (by omega)) (hoo (by omega)).1 (fun z => (hoo (by omega)).2 z.symm) (by omega)) (va_cwS 8 hts gL_law_L_isTold rfl rfl rfl (by decide +kernel) ⟨Nat.le_of_ble_eq_true rfl, Nat.le_of_ble_eq_true rfl⟩) ⟨fun a U g mk q => ⟨q.1, Pr_cg q.2⟩, fun U hU hW => ⟨rfl, Pr_mk hE hRc hRr hRo hP hD hS hU hW⟩⟩ rfl rfl hl.1 rfl (lv_room (Nat.le_of_ble_eq_true rfl)) dL_law_548 ⟨(show _ ≤ 1013921 from by omega), (show _ ≤ 6059706 from by omega)⟩) hS (fun v9 z9 H locs wl hv9 hRc hRr hRo hP hD hS => ?_)
                          obtain ⟨hv9, ⟨ρ9, hLI9⟩, hz9⟩ := hv9
                          refine n_top (y := .int (nI 1)) (congrArg Value.int hv9) ?_
                          clear hv9
                          skip
                          refine lv_istore (lv' := [(6, .int (nI 1)), (14, .int (nI oo)), (13, .int (nI kk)), (12, .int (nI (c1 20 3))), (11, .int (nI (c1 20 1))), (10, .int (nI how)), (9, .int (nI v)), (8, .int (nI x)), (7, .int (nI n)), (0, .ref b), (1, .ref (G 0)), (2, .ref (G 3)), (3, .ref (G 4)), (4, .ref (G 5)), (5, .ref (G 6))]) hx hb dL_law_551 hl (by decide) rfl (fun ls hl => ?_)
                          refine lv_goto (tgt := 584) hx hb dL_law_553 (by decide) ?_
                          obtain ⟨a1, a2, a3, a4, a5, a6, a7, a8, a9, a10⟩ := LI_ar hLI9 (by omega)
                          refine lv_iload hx hb dL_law_584 (lv_at hl 0 rfl) ?_
                          refine n_if_eq (tgt := 629) hx hb dL_law_586 (by decide) (by decide) (fun c_586 => absurd c_586 (by decide)) (fun c_586 => ?_)
                          refine lv_aload_n hx hb dL_law_589 rfl (lv_at hl 10 rfl) ?_
                          refine lv_aload_n hx hb dL_law_590 rfl (lv_at hl 11 rfl) ?_
                          refine lv_aload_n hx hb dL_law_591 rfl (lv_at hl 12 rfl) ?_
                          refine y_calli (va_runS (As := [.ref (G 0), .ref (G 3), .ref (G 4)]) (rest := []) ⟨hx, hb, hml, hown, hts⟩ (k_L_areUnits l D G h0 z9.1 z9.2 o a1 a2 a3 a4 a5 a6 a7) (va_cwS 3 hts gL_law_L_areUnits rfl rfl rfl (by decide +kernel) ⟨Nat.le_of_ble_eq_true rfl, Nat.le_of_ble_eq_true rfl⟩) ⟨fun a U g mk q => ⟨q.1, Pr_cg q.2⟩, fun U hU hW => ⟨rfl, Pr_mk hE hRc hRr hRo hP hD hS hU hW⟩⟩ rfl rfl hl.1 rfl (lv_room (Nat.le_of_ble_eq_true rfl)) dL_law_592 ⟨(show _ ≤ 1013921 from by omega), (show _ ≤ 6059706 from by omega)⟩) hS (fun v9 _ H locs wl hv9 hRc hRr hRo hP hD hS => ?_)
                          refine n_top (y := .int (nI 1)) (congrArg Value.int hv9) ?_
                          clear hv9 v9
                          refine n_if_eq (tgt := 629) hx hb dL_law_595 (by decide) (by decide) (fun c_595 => absurd c_595 (by decide)) (fun c_595 => ?_)
                          refine lv_aload_n hx hb dL_law_598 rfl (lv_at hl 10 rfl) ?_
                          refine lv_aload_n hx hb dL_law_599 rfl (lv_at hl 11 rfl) ?_
                          refine y_calli (va_runS (As := [.ref (G 0), .ref (G 3)]) (rest := []) ⟨hx, hb, hml, hown, hts⟩ (k_L_areRunning l D G h0 z9.1 z9.2 o a1 a2 a3 a4 a8 a9 a5) (va_cwS 2 hts gL_law_L_areRunning rfl rfl rfl (by decide +kernel) ⟨Nat.le_of_ble_eq_true rfl, Nat.le_of_ble_eq_true rfl⟩) ⟨fun a U g mk q => ⟨q.1, Pr_cg q.2⟩, fun U hU hW => ⟨rfl, Pr_mk hE hRc hRr hRo hP hD hS hU hW⟩⟩ rfl rfl hl.1 rfl (lv_room (Nat.le_of_ble_eq_true rfl)) dL_law_600 ⟨(show _ ≤ 1013921 from by omega), (show _ ≤ 6059706 from by omega)⟩) hS (fun v9 _ H locs wl hv9 hRc hRr hRo hP hD hS => ?_)
                          refine n_top (y := .int (nI 1)) (congrArg Value.int hv9) ?_
                          clear hv9 v9
                          refine n_if_eq (tgt := 629) hx hb dL_law_603 (by decide) (by decide) (fun c_603 => absurd c_603 (by decide)) (fun c_603 => ?_)
                          refine lv_iload hx hb dL_law_606 (lv_at hl 8 rfl) ?_
                          refine lv_bipush (v := nI 20) hx hb dL_law_608 (by decide) ?_
                          refine n_irem hx hb dL_law_610 (by omega) (by first | omega | decide | assumption) (by decide) ?_
                          refine n_if_gt (tgt := 625) hx hb dL_law_611 (by decide) (by omega) (fun c_611 => ?_) (fun c_611 => ?_)
                          · refine lv_iconst (v := nI 1) hx hb dL_law_625 (by decide) ?_
                            refine lv_goto (tgt := 630) hx hb dL_law_626 (by decide) ?_
                            refine lv_istore (lv' := [(6, .int (nI 1)), (14, .int (nI oo)), (13, .int (nI kk)), (12, .int (nI (c1 20 3))), (11, .int (nI (c1 20 1))), (10, .int (nI how)), (9, .int (nI v)), (8, .int (nI x)), (7, .int (nI n)), (0, .ref b), (1, .ref (G 0)), (2, .ref (G 3)), (3, .ref (G 4)), (4, .ref (G 5)), (5, .ref (G 6))]) hx hb dL_law_630 hl (by decide) rfl (fun ls hl => ?_)
                            refine lv_iinc (v := nI (n + 1)) (lv' := [(7, .int (nI (n + 1))), (6, .int (nI 1)), (14, .int (nI oo)), (13, .int (nI kk)), (12, .int (nI (c1 20 3))), (11, .int (nI (c1 20 1))), (10, .int (nI how)), (9, .int (nI v)), (8, .int (nI x)), (0, .ref b), (1, .ref (G 0)), (2, .ref (G 3)), (3, .ref (G 4)), (4, .ref (G 5)), (5, .ref (G 6))]) hx hb dL_law_632 hl (k := 8) rfl (nI_add n 1) (by decide) rfl (fun ls hl => ?_)
                            refine lv_goto (tgt := 62) hx hb dL_law_635 (by decide) ?_
                            refine W.widen (k := 3000 + 600 * (n + 1)) (n := 200000 + 2100 * (n + 1) + 70000 * (((n + 1) + 19) / 20)) (by omega) (by omega) ?_
                            exact ih62 (n + 1) (by omega) (by omega) (z9.1) (z9.2) (ρ9) (by exact hLI9) (by intro z; omega) _ _ _ _ hRc hRr hRo hP hD hS (lv_sub hl [0, 1, 9, 10, 11, 12, 13, 14] rfl)
                          · refine lv_aload_n hx hb dL_law_614 rfl (lv_at hl 10 rfl) ?_
                            refine lv_iload hx hb dL_law_615 (lv_at hl 7 rfl) ?_
                            refine lv_iconst (v := nI 3) hx hb dL_law_617 (by decide) ?_
                            refine n_idiv hx hb dL_law_618 (by omega) (by first | omega | decide | assumption) (by decide) ?_
                            refine y_calli (va_runS (As := [.ref (G 0), .int (nI (x / 3))]) (rest := []) ⟨hx, hb, hml, hown, hts⟩ (k_L_isRefused l D G h0 z9.1 z9.2 o hlt a1 (by omega) a2 (x / 3) (by omega)) (va_cwS 2 hts gL_law_L_isRefused rfl rfl rfl (by decide +kernel) ⟨Nat.le_of_ble_eq_true rfl, Nat.le_of_ble_eq_true rfl⟩) ⟨fun a U g mk q => ⟨q.1, Pr_cg q.2⟩, fun U hU hW => ⟨rfl, Pr_mk hE hRc hRr hRo hP hD hS hU hW⟩⟩ rfl rfl hl.1 rfl (lv_room (Nat.le_of_ble_eq_true rfl)) dL_law_619 ⟨(show _ ≤ 1013921 from by omega), (show _ ≤ 6059706 from by omega)⟩) hS (fun v9 _ H locs wl hv9 hRc hRr hRo hP hD hS => ?_)
                            refine n_top (y := .int (nI 1)) (congrArg Value.int hv9) ?_
                            clear hv9 v9
                            refine n_if_eq (tgt := 629) hx hb dL_law_622 (by decide) (by decide) (fun c_622 => absurd c_622 (by decide)) (fun c_622 => ?_)
                            refine lv_iconst (v := nI 1) hx hb dL_law_625 (by decide) ?_
                            refine lv_goto (tgt := 630) hx hb dL_law_626 (by decide) ?_
                            refine lv_istore (lv' := [(6, .int (nI 1)), (14, .int (nI oo)), (13, .int (nI kk)), (12, .int (nI (c1 20 3))), (11, .int (nI (c1 20 1))), (10, .int (nI how)), (9, .int (nI v)), (8, .int (nI x)), (7, .int (nI n)), (0, .ref b), (1, .ref (G 0)), (2, .ref (G 3)), (3, .ref (G 4)), (4, .ref (G 5)), (5, .ref (G 6))]) hx hb dL_law_630 hl (by decide) rfl (fun ls hl => ?_)
                            refine lv_iinc (v := nI (n + 1)) (lv' := [(7, .int (nI (n + 1))), (6, .int (nI 1)), (14, .int (nI oo)), (13, .int (nI kk)), (12, .int (nI (c1 20 3))), (11, .int (nI (c1 20 1))), (10, .int (nI how)), (9, .int (nI v)), (8, .int (nI x)), (0, .ref b), (1, .ref (G 0)), (2, .ref (G 3)), (3, .ref (G 4)), (4, .ref (G 5)), (5, .ref (G 6))]) hx hb dL_law_632 hl (k := 8) rfl (nI_add n 1) (by decide) rfl (fun ls hl => ?_)
                            refine lv_goto (tgt := 62) hx hb dL_law_635 (by decide) ?_
                            refine W.widen (k := 3000 + 600 * (n + 1)) (n := 200000 + 2100 * (n + 1) + 70000 * (((n + 1) + 19) / 20)) (by omega) (by omega) ?_
                            exact ih62 (n + 1) (by omega) (by omega) (z9.1) (z9.2) (ρ9) (by exact hLI9) (by intro z; omega) _ _ _ _ hRc hRr hRo hP hD hS (lv_sub hl [0, 1, 9, 10, 11, 12, 13, 14] rfl)
                        · refine lv_iconst (v := nI 3) hx hb dL_law_534 (by decide) ?_
                          refine lv_goto (tgt := 539) hx hb dL_law_535 (by decide) ?_
                          refine lv_iload hx hb dL_law_539 (lv_at hl 1 rfl) ?_
                          refine lv_iload hx hb dL_law_541 (lv_at hl 0 rfl) ?_
                          refine lv_iload hx hb dL_law_543 (lv_at hl 5 rfl) ?_
                          refine lv_bipush (v := nI 64) hx hb dL_law_545 (by decide) ?_
                          refine n_idiv hx hb dL_law_547 (by omega) (by first | omega | decide | assumption) (by decide) ?_
                          refine y_calli (va_runS (As := [.ref (G 0), .ref (G 3), .ref (G 4), .ref (G 6), .int (nI 3), .int (nI kk), .int (nI oo), .int (nI (v / 64))]) (rest := []) ⟨hx, hb, hml, hown, hts⟩ (k_L_isTold_3 l D G h0 c1 r1 o hlt ρ1 n (by omega) hLI hg0 kk oo (v / 64) (hkk (by omega)) (hoo (by omega)).1 (fun z => (hoo (by omega)).2 z.symm) (by omega)) (va_cwS 8 hts gL_law_L_isTold rfl rfl rfl (by decide +kernel) ⟨Nat.le_of_ble_eq_true rfl, Nat.le_of_ble_eq_true rfl⟩) ⟨fun a U g mk q => ⟨q.1, Pr_cg q.2⟩, fun U hU hW => ⟨rfl, Pr_mk hE hRc hRr hRo hP hD hS hU hW⟩⟩ rfl rfl hl.1 rfl (lv_room (Nat.le_of_ble_eq_true rfl)) dL_law_548 ⟨(show _ ≤ 1013921 from by omega), (show _ ≤ 6059706 from by omega)⟩) hS (fun v9 z9 H locs wl hv9 hRc hRr hRo hP hD hS => ?_)
                          obtain ⟨hv9, ⟨ρ9, hLI9⟩, hz9⟩ := hv9
                          refine n_top (y := .int (nI 1)) (congrArg Value.int hv9) ?_
                          clear hv9
                          skip
                          refine lv_istore (lv' := [(6, .int (nI 1)), (14, .int (nI oo)), (13, .int (nI kk)), (12, .int (nI (c1 20 3))), (11, .int (nI (c1 20 1))), (10, .int (nI how)), (9, .int (nI v)), (8, .int (nI x)), (7, .int (nI n)), (0, .ref b), (1, .ref (G 0)), (2, .ref (G 3)), (3, .ref (G 4)), (4, .ref (G 5)), (5, .ref (G 6))]) hx hb dL_law_551 hl (by decide) rfl (fun ls hl => ?_)
                          refine lv_goto (tgt := 584) hx hb dL_law_553 (by decide) ?_
                          obtain ⟨a1, a2, a3, a4, a5, a6, a7, a8, a9, a10⟩ := LI_ar hLI9 (by omega)
                          refine lv_iload hx hb dL_law_584 (lv_at hl 0 rfl) ?_
                          refine n_if_eq (tgt := 629) hx hb dL_law_586 (by decide) (by decide) (fun c_586 => absurd c_586 (by decide)) (fun c_586 => ?_)
                          refine lv_aload_n hx hb dL_law_589 rfl (lv_at hl 10 rfl) ?_
                          refine lv_aload_n hx hb dL_law_590 rfl (lv_at hl 11 rfl) ?_
                          refine lv_aload_n hx hb dL_law_591 rfl (lv_at hl 12 rfl) ?_
                          refine y_calli (va_runS (As := [.ref (G 0), .ref (G 3), .ref (G 4)]) (rest := []) ⟨hx, hb, hml, hown, hts⟩ (k_L_areUnits l D G h0 z9.1 z9.2 o a1 a2 a3 a4 a5 a6 a7) (va_cwS 3 hts gL_law_L_areUnits rfl rfl rfl (by decide +kernel) ⟨Nat.le_of_ble_eq_true rfl, Nat.le_of_ble_eq_true rfl⟩) ⟨fun a U g mk q => ⟨q.1, Pr_cg q.2⟩, fun U hU hW => ⟨rfl, Pr_mk hE hRc hRr hRo hP hD hS hU hW⟩⟩ rfl rfl hl.1 rfl (lv_room (Nat.le_of_ble_eq_true rfl)) dL_law_592 ⟨(show _ ≤ 1013921 from by omega), (show _ ≤ 6059706 from by omega)⟩) hS (fun v9 _ H locs wl hv9 hRc hRr hRo hP hD hS => ?_)
                          refine n_top (y := .int (nI 1)) (congrArg Value.int hv9) ?_
                          clear hv9 v9
                          refine n_if_eq (tgt := 629) hx hb dL_law_595 (by decide) (by decide) (fun c_595 => absurd c_595 (by decide)) (fun c_595 => ?_)
                          refine lv_aload_n hx hb dL_law_598 rfl (lv_at hl 10 rfl) ?_
                          refine lv_aload_n hx hb dL_law_599 rfl (lv_at hl 11 rfl) ?_
                          refine y_calli (va_runS (As := [.ref (G 0), .ref (G 3)]) (rest := []) ⟨hx, hb, hml, hown, hts⟩ (k_L_areRunning l D G h0 z9.1 z9.2 o a1 a2 a3 a4 a8 a9 a5) (va_cwS 2 hts gL_law_L_areRunning rfl rfl rfl (by decide +kernel) ⟨Nat.le_of_ble_eq_true rfl, Nat.le_of_ble_eq_true rfl⟩) ⟨fun a U g mk q => ⟨q.1, Pr_cg q.2⟩, fun U hU hW => ⟨rfl, Pr_mk hE hRc hRr hRo hP hD hS hU hW⟩⟩ rfl rfl hl.1 rfl (lv_room (Nat.le_of_ble_eq_true rfl)) dL_law_600 ⟨(show _ ≤ 1013921 from by omega), (show _ ≤ 6059706 from by omega)⟩) hS (fun v9 _ H locs wl hv9 hRc hRr hRo hP hD hS => ?_)
                          refine n_top (y := .int (nI 1)) (congrArg Value.int hv9) ?_
                          clear hv9 v9
                          refine n_if_eq (tgt := 629) hx hb dL_law_603 (by decide) (by decide) (fun c_603 => absurd c_603 (by decide)) (fun c_603 => ?_)
                          refine lv_iload hx hb dL_law_606 (lv_at hl 8 rfl) ?_
                          refine lv_bipush (v := nI 20) hx hb dL_law_608 (by decide) ?_
                          refine n_irem hx hb dL_law_610 (by omega) (by first | omega | decide | assumption) (by decide) ?_
                          refine n_if_gt (tgt := 625) hx hb dL_law_611 (by decide) (by omega) (fun c_611 => ?_) (fun c_611 => ?_)
                          · refine lv_iconst (v := nI 1) hx hb dL_law_625 (by decide) ?_
                            refine lv_goto (tgt := 630) hx hb dL_law_626 (by decide) ?_
                            refine lv_istore (lv' := [(6, .int (nI 1)), (14, .int (nI oo)), (13, .int (nI kk)), (12, .int (nI (c1 20 3))), (11, .int (nI (c1 20 1))), (10, .int (nI how)), (9, .int (nI v)), (8, .int (nI x)), (7, .int (nI n)), (0, .ref b), (1, .ref (G 0)), (2, .ref (G 3)), (3, .ref (G 4)), (4, .ref (G 5)), (5, .ref (G 6))]) hx hb dL_law_630 hl (by decide) rfl (fun ls hl => ?_)
                            refine lv_iinc (v := nI (n + 1)) (lv' := [(7, .int (nI (n + 1))), (6, .int (nI 1)), (14, .int (nI oo)), (13, .int (nI kk)), (12, .int (nI (c1 20 3))), (11, .int (nI (c1 20 1))), (10, .int (nI how)), (9, .int (nI v)), (8, .int (nI x)), (0, .ref b), (1, .ref (G 0)), (2, .ref (G 3)), (3, .ref (G 4)), (4, .ref (G 5)), (5, .ref (G 6))]) hx hb dL_law_632 hl (k := 8) rfl (nI_add n 1) (by decide) rfl (fun ls hl => ?_)
                            refine lv_goto (tgt := 62) hx hb dL_law_635 (by decide) ?_
                            refine W.widen (k := 3000 + 600 * (n + 1)) (n := 200000 + 2100 * (n + 1) + 70000 * (((n + 1) + 19) / 20)) (by omega) (by omega) ?_
                            exact ih62 (n + 1) (by omega) (by omega) (z9.1) (z9.2) (ρ9) (by exact hLI9) (by intro z; omega) _ _ _ _ hRc hRr hRo hP hD hS (lv_sub hl [0, 1, 9, 10, 11, 12, 13, 14] rfl)
                          · refine lv_aload_n hx hb dL_law_614 rfl (lv_at hl 10 rfl) ?_
                            refine lv_iload hx hb dL_law_615 (lv_at hl 7 rfl) ?_
                            refine lv_iconst (v := nI 3) hx hb dL_law_617 (by decide) ?_
                            refine n_idiv hx hb dL_law_618 (by omega) (by first | omega | decide | assumption) (by decide) ?_
                            refine y_calli (va_runS (As := [.ref (G 0), .int (nI (x / 3))]) (rest := []) ⟨hx, hb, hml, hown, hts⟩ (k_L_isRefused l D G h0 z9.1 z9.2 o hlt a1 (by omega) a2 (x / 3) (by omega)) (va_cwS 2 hts gL_law_L_isRefused rfl rfl rfl (by decide +kernel) ⟨Nat.le_of_ble_eq_true rfl, Nat.le_of_ble_eq_true rfl⟩) ⟨fun a U g mk q => ⟨q.1, Pr_cg q.2⟩, fun U hU hW => ⟨rfl, Pr_mk hE hRc hRr hRo hP hD hS hU hW⟩⟩ rfl rfl hl.1 rfl (lv_room (Nat.le_of_ble_eq_true rfl)) dL_law_619 ⟨(show _ ≤ 1013921 from by omega), (show _ ≤ 6059706 from by omega)⟩) hS (fun v9 _ H locs wl hv9 hRc hRr hRo hP hD hS => ?_)
                            refine n_top (y := .int (nI 1)) (congrArg Value.int hv9) ?_
                            clear hv9 v9
                            refine n_if_eq (tgt := 629) hx hb dL_law_622 (by decide) (by decide) (fun c_622 => absurd c_622 (by decide)) (fun c_622 => ?_)
                            refine lv_iconst (v := nI 1) hx hb dL_law_625 (by decide) ?_
                            refine lv_goto (tgt := 630) hx hb dL_law_626 (by decide) ?_
                            refine lv_istore (lv' := [(6, .int (nI 1)), (14, .int (nI oo)), (13, .int (nI kk)), (12, .int (nI (c1 20 3))), (11, .int (nI (c1 20 1))), (10, .int (nI how)), (9, .int (nI v)), (8, .int (nI x)), (7, .int (nI n)), (0, .ref b), (1, .ref (G 0)), (2, .ref (G 3)), (3, .ref (G 4)), (4, .ref (G 5)), (5, .ref (G 6))]) hx hb dL_law_630 hl (by decide) rfl (fun ls hl => ?_)
                            refine lv_iinc (v := nI (n + 1)) (lv' := [(7, .int (nI (n + 1))), (6, .int (nI 1)), (14, .int (nI oo)), (13, .int (nI kk)), (12, .int (nI (c1 20 3))), (11, .int (nI (c1 20 1))), (10, .int (nI how)), (9, .int (nI v)), (8, .int (nI x)), (0, .ref b), (1, .ref (G 0)), (2, .ref (G 3)), (3, .ref (G 4)), (4, .ref (G 5)), (5, .ref (G 6))]) hx hb dL_law_632 hl (k := 8) rfl (nI_add n 1) (by decide) rfl (fun ls hl => ?_)
                            refine lv_goto (tgt := 62) hx hb dL_law_635 (by decide) ?_
                            refine W.widen (k := 3000 + 600 * (n + 1)) (n := 200000 + 2100 * (n + 1) + 70000 * (((n + 1) + 19) / 20)) (by omega) (by omega) ?_
                            exact ih62 (n + 1) (by omega) (by omega) (z9.1) (z9.2) (ρ9) (by exact hLI9) (by intro z; omega) _ _ _ _ hRc hRr hRo hP hD hS (lv_sub hl [0, 1, 9, 10, 11, 12, 13, 14] rfl)
                      · refine lv_iconst (v := nI 2) hx hb dL_law_523 (by decide) ?_
                        refine lv_goto (tgt := 539) hx hb dL_law_524 (by decide) ?_
                        refine lv_iload hx hb dL_law_539 (lv_at hl 1 rfl) ?_
                        refine lv_iload hx hb dL_law_541 (lv_at hl 0 rfl) ?_
                        refine lv_iload hx hb dL_law_543 (lv_at hl 5 rfl) ?_
                        refine lv_bipush (v := nI 64) hx hb dL_law_545 (by decide) ?_
                        refine n_idiv hx hb dL_law_547 (by omega) (by first | omega | decide | assumption) (by decide) ?_
                        refine y_calli (va_runS (As := [.ref (G 0), .ref (G 3), .ref (G 4), .ref (G 6), .int (nI 2), .int (nI kk), .int (nI oo), .int (nI (v / 64))]) (rest := []) ⟨hx, hb, hml, hown, hts⟩ (k_L_isTold_2 l D G h0 c1 r1 o hlt ρ1 n (by omega) hLI hg0 kk oo (v / 64) (hkk (by omega)) (hoo (by omega)).1 (fun z => (hoo (by omega)).2 z.symm) (by omega)) (va_cwS 8 hts gL_law_L_isTold rfl rfl rfl (by decide +kernel) ⟨Nat.le_of_ble_eq_true rfl, Nat.le_of_ble_eq_true rfl⟩) ⟨fun a U g mk q => ⟨q.1, Pr_cg q.2⟩, fun U hU hW => ⟨rfl, Pr_mk hE hRc hRr hRo hP hD hS hU hW⟩⟩ rfl rfl hl.1 rfl (lv_room (Nat.le_of_ble_eq_true rfl)) dL_law_548 ⟨(show _ ≤ 1013921 from by omega), (show _ ≤ 6059706 from by omega)⟩) hS (fun v9 z9 H locs wl hv9 hRc hRr hRo hP hD hS => ?_)
                        obtain ⟨hv9, ⟨ρ9, hLI9⟩, hz9⟩ := hv9
                        refine n_top (y := .int (nI 1)) (congrArg Value.int hv9) ?_
                        clear hv9
                        skip
                        refine lv_istore (lv' := [(6, .int (nI 1)), (14, .int (nI oo)), (13, .int (nI kk)), (12, .int (nI (c1 20 3))), (11, .int (nI (c1 20 1))), (10, .int (nI how)), (9, .int (nI v)), (8, .int (nI x)), (7, .int (nI n)), (0, .ref b), (1, .ref (G 0)), (2, .ref (G 3)), (3, .ref (G 4)), (4, .ref (G 5)), (5, .ref (G 6))]) hx hb dL_law_551 hl (by decide) rfl (fun ls hl => ?_)
                        refine lv_goto (tgt := 584) hx hb dL_law_553 (by decide) ?_
                        obtain ⟨a1, a2, a3, a4, a5, a6, a7, a8, a9, a10⟩ := LI_ar hLI9 (by omega)
                        refine lv_iload hx hb dL_law_584 (lv_at hl 0 rfl) ?_
                        refine n_if_eq (tgt := 629) hx hb dL_law_586 (by decide) (by decide) (fun c_586 => absurd c_586 (by decide)) (fun c_586 => ?_)
                        refine lv_aload_n hx hb dL_law_589 rfl (lv_at hl 10 rfl) ?_
                        refine lv_aload_n hx hb dL_law_590 rfl (lv_at hl 11 rfl) ?_
                        refine lv_aload_n hx hb dL_law_591 rfl (lv_at hl 12 rfl) ?_
                        refine y_calli (va_runS (As := [.ref (G 0), .ref (G 3), .ref (G 4)]) (rest := []) ⟨hx, hb, hml, hown, hts⟩ (k_L_areUnits l D G h0 z9.1 z9.2 o a1 a2 a3 a4 a5 a6 a7) (va_cwS 3 hts gL_law_L_areUnits rfl rfl rfl (by decide +kernel) ⟨Nat.le_of_ble_eq_true rfl, Nat.le_of_ble_eq_true rfl⟩) ⟨fun a U g mk q => ⟨q.1, Pr_cg q.2⟩, fun U hU hW => ⟨rfl, Pr_mk hE hRc hRr hRo hP hD hS hU hW⟩⟩ rfl rfl hl.1 rfl (lv_room (Nat.le_of_ble_eq_true rfl)) dL_law_592 ⟨(show _ ≤ 1013921 from by omega), (show _ ≤ 6059706 from by omega)⟩) hS (fun v9 _ H locs wl hv9 hRc hRr hRo hP hD hS => ?_)
                        refine n_top (y := .int (nI 1)) (congrArg Value.int hv9) ?_
                        clear hv9 v9
                        refine n_if_eq (tgt := 629) hx hb dL_law_595 (by decide) (by decide) (fun c_595 => absurd c_595 (by decide)) (fun c_595 => ?_)
                        refine lv_aload_n hx hb dL_law_598 rfl (lv_at hl 10 rfl) ?_
                        refine lv_aload_n hx hb dL_law_599 rfl (lv_at hl 11 rfl) ?_
                        refine y_calli (va_runS (As := [.ref (G 0), .ref (G 3)]) (rest := []) ⟨hx, hb, hml, hown, hts⟩ (k_L_areRunning l D G h0 z9.1 z9.2 o a1 a2 a3 a4 a8 a9 a5) (va_cwS 2 hts gL_law_L_areRunning rfl rfl rfl (by decide +kernel) ⟨Nat.le_of_ble_eq_true rfl, Nat.le_of_ble_eq_true rfl⟩) ⟨fun a U g mk q => ⟨q.1, Pr_cg q.2⟩, fun U hU hW => ⟨rfl, Pr_mk hE hRc hRr hRo hP hD hS hU hW⟩⟩ rfl rfl hl.1 rfl (lv_room (Nat.le_of_ble_eq_true rfl)) dL_law_600 ⟨(show _ ≤ 1013921 from by omega), (show _ ≤ 6059706 from by omega)⟩) hS (fun v9 _ H locs wl hv9 hRc hRr hRo hP hD hS => ?_)
                        refine n_top (y := .int (nI 1)) (congrArg Value.int hv9) ?_
                        clear hv9 v9
                        refine n_if_eq (tgt := 629) hx hb dL_law_603 (by decide) (by decide) (fun c_603 => absurd c_603 (by decide)) (fun c_603 => ?_)
                        refine lv_iload hx hb dL_law_606 (lv_at hl 8 rfl) ?_
                        refine lv_bipush (v := nI 20) hx hb dL_law_608 (by decide) ?_
                        refine n_irem hx hb dL_law_610 (by omega) (by first | omega | decide | assumption) (by decide) ?_
                        refine n_if_gt (tgt := 625) hx hb dL_law_611 (by decide) (by omega) (fun c_611 => ?_) (fun c_611 => ?_)
                        · refine lv_iconst (v := nI 1) hx hb dL_law_625 (by decide) ?_
                          refine lv_goto (tgt := 630) hx hb dL_law_626 (by decide) ?_
                          refine lv_istore (lv' := [(6, .int (nI 1)), (14, .int (nI oo)), (13, .int (nI kk)), (12, .int (nI (c1 20 3))), (11, .int (nI (c1 20 1))), (10, .int (nI how)), (9, .int (nI v)), (8, .int (nI x)), (7, .int (nI n)), (0, .ref b), (1, .ref (G 0)), (2, .ref (G 3)), (3, .ref (G 4)), (4, .ref (G 5)), (5, .ref (G 6))]) hx hb dL_law_630 hl (by decide) rfl (fun ls hl => ?_)
                          refine lv_iinc (v := nI (n + 1)) (lv' := [(7, .int (nI (n + 1))), (6, .int (nI 1)), (14, .int (nI oo)), (13, .int (nI kk)), (12, .int (nI (c1 20 3))), (11, .int (nI (c1 20 1))), (10, .int (nI how)), (9, .int (nI v)), (8, .int (nI x)), (0, .ref b), (1, .ref (G 0)), (2, .ref (G 3)), (3, .ref (G 4)), (4, .ref (G 5)), (5, .ref (G 6))]) hx hb dL_law_632 hl (k := 8) rfl (nI_add n 1) (by decide) rfl (fun ls hl => ?_)
                          refine lv_goto (tgt := 62) hx hb dL_law_635 (by decide) ?_
                          refine W.widen (k := 3000 + 600 * (n + 1)) (n := 200000 + 2100 * (n + 1) + 70000 * (((n + 1) + 19) / 20)) (by omega) (by omega) ?_
                          exact ih62 (n + 1) (by omega) (by omega) (z9.1) (z9.2) (ρ9) (by exact hLI9) (by intro z; omega) _ _ _ _ hRc hRr hRo hP hD hS (lv_sub hl [0, 1, 9, 10, 11, 12, 13, 14] rfl)
                        · refine lv_aload_n hx hb dL_law_614 rfl (lv_at hl 10 rfl) ?_
                          refine lv_iload hx hb dL_law_615 (lv_at hl 7 rfl) ?_
                          refine lv_iconst (v := nI 3) hx hb dL_law_617 (by decide) ?_
                          refine n_idiv hx hb dL_law_618 (by omega) (by first | omega | decide | assumption) (by decide) ?_
                          refine y_calli (va_runS (As := [.ref (G 0), .int (nI (x / 3))]) (rest := []) ⟨hx, hb, hml, hown, hts⟩ (k_L_isRefused l D G h0 z9.1 z9.2 o hlt a1 (by omega) a2 (x / 3) (by omega)) (va_cwS 2 hts gL_law_L_isRefused rfl rfl rfl (by decide +kernel) ⟨Nat.le_of_ble_eq_true rfl, Nat.le_of_ble_eq_true rfl⟩) ⟨fun a U g mk q => ⟨q.1, Pr_cg q.2⟩, fun U hU hW => ⟨rfl, Pr_mk hE hRc hRr hRo hP hD hS hU hW⟩⟩ rfl rfl hl.1 rfl (lv_room (Nat.le_of_ble_eq_true rfl)) dL_law_619 ⟨(show _ ≤ 1013921 from by omega), (show _ ≤ 6059706 from by omega)⟩) hS (fun v9 _ H locs wl hv9 hRc hRr hRo hP hD hS => ?_)
                          refine n_top (y := .int (nI 1)) (congrArg Value.int hv9) ?_
                          clear hv9 v9
                          refine n_if_eq (tgt := 629) hx hb dL_law_622 (by decide) (by decide) (fun c_622 => absurd c_622 (by decide)) (fun c_622 => ?_)
                          refine lv_iconst (v := nI 1) hx hb dL_law_625 (by decide) ?_
                          refine lv_goto (tgt := 630) hx hb dL_law_626 (by decide) ?_
                          refine lv_istore (lv' := [(6, .int (nI 1)), (14, .int (nI oo)), (13, .int (nI kk)), (12, .int (nI (c1 20 3))), (11, .int (nI (c1 20 1))), (10, .int (nI how)), (9, .int (nI v)), (8, .int (nI x)), (7, .int (nI n)), (0, .ref b), (1, .ref (G 0)), (2, .ref (G 3)), (3, .ref (G 4)), (4, .ref (G 5)), (5, .ref (G 6))]) hx hb dL_law_630 hl (by decide) rfl (fun ls hl => ?_)
                          refine lv_iinc (v := nI (n + 1)) (lv' := [(7, .int (nI (n + 1))), (6, .int (nI 1)), (14, .int (nI oo)), (13, .int (nI kk)), (12, .int (nI (c1 20 3))), (11, .int (nI (c1 20 1))), (10, .int (nI how)), (9, .int (nI v)), (8, .int (nI x)), (0, .ref b), (1, .ref (G 0)), (2, .ref (G 3)), (3, .ref (G 4)), (4, .ref (G 5)), (5, .ref (G 6))]) hx hb dL_law_632 hl (k := 8) rfl (nI_add n 1) (by decide) rfl (fun ls hl => ?_)
                          refine lv_goto (tgt := 62) hx hb dL_law_635 (by decide) ?_
                          refine W.widen (k := 3000 + 600 * (n + 1)) (n := 200000 + 2100 * (n + 1) + 70000 * (((n + 1) + 19) / 20)) (by omega) (by omega) ?_
                          exact ih62 (n + 1) (by omega) (by omega) (z9.1) (z9.2) (ρ9) (by exact hLI9) (by intro z; omega) _ _ _ _ hRc hRr hRo hP hD hS (lv_sub hl [0, 1, 9, 10, 11, 12, 13, 14] rfl)
                    · refine lv_iconst (v := nI 1) hx hb dL_law_512 (by decide) ?_
                      refine lv_goto (tgt := 539) hx hb dL_law_513 (by decide) ?_
                      refine lv_iload hx hb dL_law_539 (lv_at hl 1 rfl) ?_
                      refine lv_iload hx hb dL_law_541 (lv_at hl 0 rfl) ?_
                      refine lv_iload hx hb dL_law_543 (lv_at hl 5 rfl) ?_
                      refine lv_bipush (v := nI 64) hx hb dL_law_545 (by decide) ?_
                      refine n_idiv hx hb dL_law_547 (by omega) (by first | omega | decide | assumption) (by decide) ?_
                      refine y_calli (va_runS (As := [.ref (G 0), .ref (G 3), .ref (G 4), .ref (G 6), .int (nI 1), .int (nI kk), .int (nI oo), .int (nI (v / 64))]) (rest := []) ⟨hx, hb, hml, hown, hts⟩ (k_L_isTold_1 l D G h0 c1 r1 o hlt ρ1 n (by omega) hLI hg0 kk oo (v / 64) (hkk (by omega)) (hoo (by omega)).1 (fun z => (hoo (by omega)).2 z.symm) (by omega)) (va_cwS 8 hts gL_law_L_isTold rfl rfl rfl (by decide +kernel) ⟨Nat.le_of_ble_eq_true rfl, Nat.le_of_ble_eq_true rfl⟩) ⟨fun a U g mk q => ⟨q.1, Pr_cg q.2⟩, fun U hU hW => ⟨rfl, Pr_mk hE hRc hRr hRo hP hD hS hU hW⟩⟩ rfl rfl hl.1 rfl (lv_room (Nat.le_of_ble_eq_true rfl)) dL_law_548 ⟨(show _ ≤ 1013921 from by omega), (show _ ≤ 6059706 from by omega)⟩) hS (fun v9 z9 H locs wl hv9 hRc hRr hRo hP hD hS => ?_)
                      obtain ⟨hv9, ⟨ρ9, hLI9⟩, hz9⟩ := hv9
                      refine n_top (y := .int (nI 1)) (congrArg Value.int hv9) ?_
                      clear hv9
                      skip
                      refine lv_istore (lv' := [(6, .int (nI 1)), (14, .int (nI oo)), (13, .int (nI kk)), (12, .int (nI (c1 20 3))), (11, .int (nI (c1 20 1))), (10, .int (nI how)), (9, .int (nI v)), (8, .int (nI x)), (7, .int (nI n)), (0, .ref b), (1, .ref (G 0)), (2, .ref (G 3)), (3, .ref (G 4)), (4, .ref (G 5)), (5, .ref (G 6))]) hx hb dL_law_551 hl (by decide) rfl (fun ls hl => ?_)
                      refine lv_goto (tgt := 584) hx hb dL_law_553 (by decide) ?_
                      obtain ⟨a1, a2, a3, a4, a5, a6, a7, a8, a9, a10⟩ := LI_ar hLI9 (by omega)
                      refine lv_iload hx hb dL_law_584 (lv_at hl 0 rfl) ?_
                      refine n_if_eq (tgt := 629) hx hb dL_law_586 (by decide) (by decide) (fun c_586 => absurd c_586 (by decide)) (fun c_586 => ?_)
                      refine lv_aload_n hx hb dL_law_589 rfl (lv_at hl 10 rfl) ?_
                      refine lv_aload_n hx hb dL_law_590 rfl (lv_at hl 11 rfl) ?_
                      refine lv_aload_n hx hb dL_law_591 rfl (lv_at hl 12 rfl) ?_
                      refine y_calli (va_runS (As := [.ref (G 0), .ref (G 3), .ref (G 4)]) (rest := []) ⟨hx, hb, hml, hown, hts⟩ (k_L_areUnits l D G h0 z9.1 z9.2 o a1 a2 a3 a4 a5 a6 a7) (va_cwS 3 hts gL_law_L_areUnits rfl rfl rfl (by decide +kernel) ⟨Nat.le_of_ble_eq_true rfl, Nat.le_of_ble_eq_true rfl⟩) ⟨fun a U g mk q => ⟨q.1, Pr_cg q.2⟩, fun U hU hW => ⟨rfl, Pr_mk hE hRc hRr hRo hP hD hS hU hW⟩⟩ rfl rfl hl.1 rfl (lv_room (Nat.le_of_ble_eq_true rfl)) dL_law_592 ⟨(show _ ≤ 1013921 from by omega), (show _ ≤ 6059706 from by omega)⟩) hS (fun v9 _ H locs wl hv9 hRc hRr hRo hP hD hS => ?_)
                      refine n_top (y := .int (nI 1)) (congrArg Value.int hv9) ?_
                      clear hv9 v9
                      refine n_if_eq (tgt := 629) hx hb dL_law_595 (by decide) (by decide) (fun c_595 => absurd c_595 (by decide)) (fun c_595 => ?_)
                      refine lv_aload_n hx hb dL_law_598 rfl (lv_at hl 10 rfl) ?_
                      refine lv_aload_n hx hb dL_law_599 rfl (lv_at hl 11 rfl) ?_
                      refine y_calli (va_runS (As := [.ref (G 0), .ref (G 3)]) (rest := []) ⟨hx, hb, hml, hown, hts⟩ (k_L_areRunning l D G h0 z9.1 z9.2 o a1 a2 a3 a4 a8 a9 a5) (va_cwS 2 hts gL_law_L_areRunning rfl rfl rfl (by decide +kernel) ⟨Nat.le_of_ble_eq_true rfl, Nat.le_of_ble_eq_true rfl⟩) ⟨fun a U g mk q => ⟨q.1, Pr_cg q.2⟩, fun U hU hW => ⟨rfl, Pr_mk hE hRc hRr hRo hP hD hS hU hW⟩⟩ rfl rfl hl.1 rfl (lv_room (Nat.le_of_ble_eq_true rfl)) dL_law_600 ⟨(show _ ≤ 1013921 from by omega), (show _ ≤ 6059706 from by omega)⟩) hS (fun v9 _ H locs wl hv9 hRc hRr hRo hP hD hS => ?_)
                      refine n_top (y := .int (nI 1)) (congrArg Value.int hv9) ?_
                      clear hv9 v9
                      refine n_if_eq (tgt := 629) hx hb dL_law_603 (by decide) (by decide) (fun c_603 => absurd c_603 (by decide)) (fun c_603 => ?_)
                      refine lv_iload hx hb dL_law_606 (lv_at hl 8 rfl) ?_
                      refine lv_bipush (v := nI 20) hx hb dL_law_608 (by decide) ?_
                      refine n_irem hx hb dL_law_610 (by omega) (by first | omega | decide | assumption) (by decide) ?_
                      refine n_if_gt (tgt := 625) hx hb dL_law_611 (by decide) (by omega) (fun c_611 => ?_) (fun c_611 => ?_)
                      · refine lv_iconst (v := nI 1) hx hb dL_law_625 (by decide) ?_
                        refine lv_goto (tgt := 630) hx hb dL_law_626 (by decide) ?_
                        refine lv_istore (lv' := [(6, .int (nI 1)), (14, .int (nI oo)), (13, .int (nI kk)), (12, .int (nI (c1 20 3))), (11, .int (nI (c1 20 1))), (10, .int (nI how)), (9, .int (nI v)), (8, .int (nI x)), (7, .int (nI n)), (0, .ref b), (1, .ref (G 0)), (2, .ref (G 3)), (3, .ref (G 4)), (4, .ref (G 5)), (5, .ref (G 6))]) hx hb dL_law_630 hl (by decide) rfl (fun ls hl => ?_)
                        refine lv_iinc (v := nI (n + 1)) (lv' := [(7, .int (nI (n + 1))), (6, .int (nI 1)), (14, .int (nI oo)), (13, .int (nI kk)), (12, .int (nI (c1 20 3))), (11, .int (nI (c1 20 1))), (10, .int (nI how)), (9, .int (nI v)), (8, .int (nI x)), (0, .ref b), (1, .ref (G 0)), (2, .ref (G 3)), (3, .ref (G 4)), (4, .ref (G 5)), (5, .ref (G 6))]) hx hb dL_law_632 hl (k := 8) rfl (nI_add n 1) (by decide) rfl (fun ls hl => ?_)
                        refine lv_goto (tgt := 62) hx hb dL_law_635 (by decide) ?_
                        refine W.widen (k := 3000 + 600 * (n + 1)) (n := 200000 + 2100 * (n + 1) + 70000 * (((n + 1) + 19) / 20)) (by omega) (by omega) ?_
                        exact ih62 (n + 1) (by omega) (by omega) (z9.1) (z9.2) (ρ9) (by exact hLI9) (by intro z; omega) _ _ _ _ hRc hRr hRo hP hD hS (lv_sub hl [0, 1, 9, 10, 11, 12, 13, 14] rfl)
                      · refine lv_aload_n hx hb dL_law_614 rfl (lv_at hl 10 rfl) ?_
                        refine lv_iload hx hb dL_law_615 (lv_at hl 7 rfl) ?_
                        refine lv_iconst (v := nI 3) hx hb dL_law_617 (by decide) ?_
                        refine n_idiv hx hb dL_law_618 (by omega) (by first | omega | decide | assumption) (by decide) ?_
                        refine y_calli (va_runS (As := [.ref (G 0), .int (nI (x / 3))]) (rest := []) ⟨hx, hb, hml, hown, hts⟩ (k_L_isRefused l D G h0 z9.1 z9.2 o hlt a1 (by omega) a2 (x / 3) (by omega)) (va_cwS 2 hts gL_law_L_isRefused rfl rfl rfl (by decide +kernel) ⟨Nat.le_of_ble_eq_true rfl, Nat.le_of_ble_eq_true rfl⟩) ⟨fun a U g mk q => ⟨q.1, Pr_cg q.2⟩, fun U hU hW => ⟨rfl, Pr_mk hE hRc hRr hRo hP hD hS hU hW⟩⟩ rfl rfl hl.1 rfl (lv_room (Nat.le_of_ble_eq_true rfl)) dL_law_619 ⟨(show _ ≤ 1013921 from by omega), (show _ ≤ 6059706 from by omega)⟩) hS (fun v9 _ H locs wl hv9 hRc hRr hRo hP hD hS => ?_)
                        refine n_top (y := .int (nI 1)) (congrArg Value.int hv9) ?_
                        clear hv9 v9
                        refine n_if_eq (tgt := 629) hx hb dL_law_622 (by decide) (by decide) (fun c_622 => absurd c_622 (by decide)) (fun c_622 => ?_)
                        refine lv_iconst (v := nI 1) hx hb dL_law_625 (by decide) ?_
                        refine lv_goto (tgt := 630) hx hb dL_law_626 (by decide) ?_
                        refine lv_istore (lv' := [(6, .int (nI 1)), (14, .int (nI oo)), (13, .int (nI kk)), (12, .int (nI (c1 20 3))), (11, .int (nI (c1 20 1))), (10, .int (nI how)), (9, .int (nI v)), (8, .int (nI x)), (7, .int (nI n)), (0, .ref b), (1, .ref (G 0)), (2, .ref (G 3)), (3, .ref (G 4)), (4, .ref (G 5)), (5, .ref (G 6))]) hx hb dL_law_630 hl (by decide) rfl (fun ls hl => ?_)
                        refine lv_iinc (v := nI (n + 1)) (lv' := [(7, .int (nI (n + 1))), (6, .int (nI 1)), (14, .int (nI oo)), (13, .int (nI kk)), (12, .int (nI (c1 20 3))), (11, .int (nI (c1 20 1))), (10, .int (nI how)), (9, .int (nI v)), (8, .int (nI x)), (0, .ref b), (1, .ref (G 0)), (2, .ref (G 3)), (3, .ref (G 4)), (4, .ref (G 5)), (5, .ref (G 6))]) hx hb dL_law_632 hl (k := 8) rfl (nI_add n 1) (by decide) rfl (fun ls hl => ?_)
                        refine lv_goto (tgt := 62) hx hb dL_law_635 (by decide) ?_
                        refine W.widen (k := 3000 + 600 * (n + 1)) (n := 200000 + 2100 * (n + 1) + 70000 * (((n + 1) + 19) / 20)) (by omega) (by omega) ?_
                        exact ih62 (n + 1) (by omega) (by omega) (z9.1) (z9.2) (ρ9) (by exact hLI9) (by intro z; omega) _ _ _ _ hRc hRr hRo hP hD hS (lv_sub hl [0, 1, 9, 10, 11, 12, 13, 14] rfl)
                · exfalso; omega
              · refine lv_aload_n hx hb dL_law_378 rfl (lv_at hl 10 rfl) ?_
                refine lv_iload hx hb dL_law_379 (lv_at hl 1 rfl) ?_
                refine y_calli (va_runV (As := [.int (nI kk)]) (rest := []) ⟨hx, hb, hml, hown, hts⟩ (k_X2_faults_ok l D G h0 c1 r1 o hI1 kk (by first | omega | assumption)) (cwV 1 hts gL_law_X2_faults rfl rfl rfl (by decide +kernel) ⟨Nat.le_of_ble_eq_true rfl, Nat.le_of_ble_eq_true rfl⟩) ⟨fun a U g mk q => ⟨q.1, Pr_cg q.2⟩, va_recv (ci := 3) (q0 := 0) hK hP rfl (Q_o hRc), fun U hU hW => ⟨rfl, Pr_mk hE hRc hRr hRo hP hD hS hU hW⟩⟩ rfl rfl hl.1 rfl (lv_room (Nat.le_of_ble_eq_true rfl)) dL_law_381 ⟨(show _ ≤ 1013921 from by omega), (show _ ≤ 6059706 from by omega)⟩) hS (fun v9 _ H locs wl hv9 hRc hRr hRo hP hD hS => ?_)
                refine n_top (y := .int (nI (c1 4 kk))) (congrArg Value.int hv9) ?_
                clear hv9 v9
                refine lv_istore (lv' := [(15, .int (nI (c1 4 kk))), (14, .int (nI oo)), (13, .int (nI kk)), (12, .int (nI (c1 20 3))), (11, .int (nI (c1 20 1))), (10, .int (nI how)), (9, .int (nI v)), (8, .int (nI x)), (7, .int (nI n)), (6, .int (nI 1)), (0, .ref b), (1, .ref (G 0)), (2, .ref (G 3)), (3, .ref (G 4)), (4, .ref (G 5)), (5, .ref (G 6))]) hx hb dL_law_384 hl (by decide) rfl (fun ls hl => ?_)
                refine lv_iload hx hb dL_law_386 (lv_at hl 6 rfl) ?_
                refine lv_bipush (v := nI 8) hx hb dL_law_388 (by decide) ?_
                refine n_idiv hx hb dL_law_390 (by omega) (by first | omega | decide | assumption) (by decide) ?_
                have J391 : (∀ (H : Heap) (locs : List Loc) (wl : va_W), Rc G c1 wl → Rr G r1 wl → Ro G o wl → va_P D vwCl wl H → va_D (fun q => h0 ≤ q) wl → va_S (fun q => h0 ≤ q) s.heap H locs → W p l e room_1 s m #[Value.ref b] below meth cd H locs (3000 + 600 * n) (200000 + 2100 * n + 70000 * ((n + 19) / 20)) Q (F0 m 404 ls [.int (nI mf), .int (nI (v / 8))])) → W p l e room_1 s m #[Value.ref b] below meth cd H locs (3000 + 600 * n) (200000 + 2100 * n + 70000 * ((n + 19) / 20)) Q (F0 m 391 ls [.int (nI (v / 8))]) := by
                  intro hk391
                  refine lv_iload hx hb dL_law_391 (lv_at hl 6 rfl) ?_
                  refine lv_iconst (v := nI 4) hx hb dL_law_393 (by decide) ?_
                  refine n_irem hx hb dL_law_394 (by omega) (by first | omega | decide | assumption) (by decide) ?_
                  refine n_if_ne (tgt := 403) hx hb dL_law_395 (by decide) (by omega) (fun c_395 => ?_) (fun c_395 => ?_)
                  · refine lv_iconst (v := nI 3) hx hb dL_law_403 (by decide) ?_
                    refine n_top (y := .int (nI mf)) (congrArg Value.int (show nI 3 = nI mf from by exact congrArg nI (hmf.2 (by omega)).symm)) ?_
                    exact hk391 _ _ _ hRc hRr hRo hP hD hS
                  · refine lv_bipush (v := nI 11) hx hb dL_law_398 (by decide) ?_
                    refine lv_goto (tgt := 404) hx hb dL_law_400 (by decide) ?_
                    refine n_top (y := .int (nI mf)) (congrArg Value.int (show nI 11 = nI mf from by exact congrArg nI (hmf.1 (by omega)).symm)) ?_
                    exact hk391 _ _ _ hRc hRr hRo hP hD hS
                refine J391 (fun H locs wl hRc hRr hRo hP hD hS => ?_)
                refine n_irem hx hb dL_law_404 (by omega) (by first | omega | decide | assumption) (by omega) ?_
                refine lv_istore (lv' := [(16, .int (nI ((v / 8) % mf))), (15, .int (nI (c1 4 kk))), (14, .int (nI oo)), (13, .int (nI kk)), (12, .int (nI (c1 20 3))), (11, .int (nI (c1 20 1))), (10, .int (nI how)), (9, .int (nI v)), (8, .int (nI x)), (7, .int (nI n)), (6, .int (nI 1)), (0, .ref b), (1, .ref (G 0)), (2, .ref (G 3)), (3, .ref (G 4)), (4, .ref (G 5)), (5, .ref (G 6))]) hx hb dL_law_405 hl (by decide) rfl (fun ls hl => ?_)
                refine lv_aload_n hx hb dL_law_407 rfl (lv_at hl 12 rfl) ?_
                refine lv_iconst (v := nI 5) hx hb dL_law_408 (by decide) ?_
                refine lv_iload hx hb dL_law_409 (lv_at hl 3 rfl) ?_
                refine lv_iload hx hb dL_law_411 (lv_at hl 0 rfl) ?_
                refine lv_iconst (v := nI 0) hx hb dL_law_413 (by decide) ?_
                refine y_calli (va_SW (As := [.ref (G 0), .int (nI 5), .int (nI kk), .int (nI ((v / 8) % mf)), .int (nI 0)]) (rest := []) hx hb hml hown hts (k_L_act_setFaults l hlt D G h0 c1 r1 o (nI kk) (nI ((v / 8) % mf)) (nI 0) hI1) (vx_cwSW 5 hts gL_law_L_act rfl rfl rfl (by decide +kernel) ⟨(Nat.le_of_ble_eq_true rfl), (Nat.le_of_ble_eq_true rfl)⟩) (fun a U g mk q => ⟨q.1, Pr_cg q.2⟩) (fun U hU hW => ⟨rfl, Pr_mk hE hRc hRr hRo hP hD hS hU hW⟩) rfl hl.1 rfl (lv_room (Nat.le_of_ble_eq_true rfl)) dL_law_414 (show _ ≤ 1013921 from by omega) (show _ ≤ 6059706 from by omega)) hS (fun v9 C2 H locs wl hv9 hRc hRr hRo hP hD hS => ?_)
                have hv9 := A_setFaults hv9 (hkk (by omega)) (by omega) (by omega)
                refine n_top (y := .int (nI (c1 4 kk))) (congrArg Value.int hv9.1) ?_
                obtain ⟨ρ9, hLI9⟩ := LI_faults hLI (a := kk) (t := v / 8 % mf) (hkk (by omega)) (by omega)
                rw [← hv9.2] at hLI9
                have hC2 : C2 20 1 = c1 20 1 ∧ C2 20 3 = c1 20 3 ∧ C2 4 kk = v / 8 % mf := by rw [hv9.2]; exact ⟨rfl, rfl, up2_s ..⟩
                have hIC2 := hLI9.1.1
                have hB2 := IC_B hIC2
                clear hv9
                refine lv_iload hx hb dL_law_417 (lv_at hl 1 rfl) ?_
                refine n_icmp_ne (tgt := 437) hx hb dL_law_419 (by decide) (hB1 _ _ (by decide)) (hB1 _ _ (by decide)) (fun c_419 => ?_) (fun c_419 => ?_)
                · exfalso; exact c_419 rfl
                · refine lv_aload_n hx hb dL_law_422 rfl (lv_at hl 12 rfl) ?_
                  refine lv_iload hx hb dL_law_423 (lv_at hl 3 rfl) ?_
                  refine y_calli (va_runV (As := [.int (nI kk)]) (rest := []) ⟨hx, hb, hml, hown, hts⟩ (k_X2_faults_ok l D G h0 C2 r1 o hIC2 kk (by first | omega | assumption)) (cwV 1 hts gL_law_X2_faults rfl rfl rfl (by decide +kernel) ⟨Nat.le_of_ble_eq_true rfl, Nat.le_of_ble_eq_true rfl⟩) ⟨fun a U g mk q => ⟨q.1, Pr_cg q.2⟩, va_recv (ci := 3) (q0 := 0) hK hP rfl (Q_o hRc), fun U hU hW => ⟨rfl, Pr_mk hE hRc hRr hRo hP hD hS hU hW⟩⟩ rfl rfl hl.1 rfl (lv_room (Nat.le_of_ble_eq_true rfl)) dL_law_425 ⟨(show _ ≤ 1013921 from by omega), (show _ ≤ 6059706 from by omega)⟩) hS (fun v9 _ H locs wl hv9 hRc hRr hRo hP hD hS => ?_)
                  refine n_top (y := .int (nI (C2 4 kk))) (congrArg Value.int hv9) ?_
                  clear hv9 v9
                  refine lv_iload hx hb dL_law_428 (lv_at hl 0 rfl) ?_
                  refine n_icmp_ne (tgt := 437) hx hb dL_law_430 (by decide) (hB2 _ _ (by decide)) (by omega) (fun c_430 => ?_) (fun c_430 => ?_)
                  · exfalso; omega
                  · refine lv_iconst (v := nI 1) hx hb dL_law_433 (by decide) ?_
                    refine lv_goto (tgt := 438) hx hb dL_law_434 (by decide) ?_
                    refine lv_istore (lv' := [(6, .int (nI 1)), (16, .int (nI ((v / 8) % mf))), (15, .int (nI (c1 4 kk))), (14, .int (nI oo)), (13, .int (nI kk)), (12, .int (nI (c1 20 3))), (11, .int (nI (c1 20 1))), (10, .int (nI how)), (9, .int (nI v)), (8, .int (nI x)), (7, .int (nI n)), (0, .ref b), (1, .ref (G 0)), (2, .ref (G 3)), (3, .ref (G 4)), (4, .ref (G 5)), (5, .ref (G 6))]) hx hb dL_law_438 hl (by decide) rfl (fun ls hl => ?_)
                    refine lv_goto (tgt := 584) hx hb dL_law_440 (by decide) ?_
                    obtain ⟨a1, a2, a3, a4, a5, a6, a7, a8, a9, a10⟩ := LI_ar hLI9 (by omega)
                    refine lv_iload hx hb dL_law_584 (lv_at hl 0 rfl) ?_
                    refine n_if_eq (tgt := 629) hx hb dL_law_586 (by decide) (by decide) (fun c_586 => absurd c_586 (by decide)) (fun c_586 => ?_)
                    refine lv_aload_n hx hb dL_law_589 rfl (lv_at hl 12 rfl) ?_
                    refine lv_aload_n hx hb dL_law_590 rfl (lv_at hl 13 rfl) ?_
                    refine lv_aload_n hx hb dL_law_591 rfl (lv_at hl 14 rfl) ?_
                    refine y_calli (va_runS (As := [.ref (G 0), .ref (G 3), .ref (G 4)]) (rest := []) ⟨hx, hb, hml, hown, hts⟩ (k_L_areUnits l D G h0 C2 r1 o a1 a2 a3 a4 a5 a6 a7) (va_cwS 3 hts gL_law_L_areUnits rfl rfl rfl (by decide +kernel) ⟨Nat.le_of_ble_eq_true rfl, Nat.le_of_ble_eq_true rfl⟩) ⟨fun a U g mk q => ⟨q.1, Pr_cg q.2⟩, fun U hU hW => ⟨rfl, Pr_mk hE hRc hRr hRo hP hD hS hU hW⟩⟩ rfl rfl hl.1 rfl (lv_room (Nat.le_of_ble_eq_true rfl)) dL_law_592 ⟨(show _ ≤ 1013921 from by omega), (show _ ≤ 6059706 from by omega)⟩) hS (fun v9 _ H locs wl hv9 hRc hRr hRo hP hD hS => ?_)
                    refine n_top (y := .int (nI 1)) (congrArg Value.int hv9) ?_
                    clear hv9 v9
                    refine n_if_eq (tgt := 629) hx hb dL_law_595 (by decide) (by decide) (fun c_595 => absurd c_595 (by decide)) (fun c_595 => ?_)
                    refine lv_aload_n hx hb dL_law_598 rfl (lv_at hl 12 rfl) ?_
                    refine lv_aload_n hx hb dL_law_599 rfl (lv_at hl 13 rfl) ?_
                    refine y_calli (va_runS (As := [.ref (G 0), .ref (G 3)]) (rest := []) ⟨hx, hb, hml, hown, hts⟩ (k_L_areRunning l D G h0 C2 r1 o a1 a2 a3 a4 a8 a9 a5) (va_cwS 2 hts gL_law_L_areRunning rfl rfl rfl (by decide +kernel) ⟨Nat.le_of_ble_eq_true rfl, Nat.le_of_ble_eq_true rfl⟩) ⟨fun a U g mk q => ⟨q.1, Pr_cg q.2⟩, fun U hU hW => ⟨rfl, Pr_mk hE hRc hRr hRo hP hD hS hU hW⟩⟩ rfl rfl hl.1 rfl (lv_room (Nat.le_of_ble_eq_true rfl)) dL_law_600 ⟨(show _ ≤ 1013921 from by omega), (show _ ≤ 6059706 from by omega)⟩) hS (fun v9 _ H locs wl hv9 hRc hRr hRo hP hD hS => ?_)
                    refine n_top (y := .int (nI 1)) (congrArg Value.int hv9) ?_
                    clear hv9 v9
                    refine n_if_eq (tgt := 629) hx hb dL_law_603 (by decide) (by decide) (fun c_603 => absurd c_603 (by decide)) (fun c_603 => ?_)
                    refine lv_iload hx hb dL_law_606 (lv_at hl 10 rfl) ?_
                    refine lv_bipush (v := nI 20) hx hb dL_law_608 (by decide) ?_
                    refine n_irem hx hb dL_law_610 (by omega) (by first | omega | decide | assumption) (by decide) ?_
                    refine n_if_gt (tgt := 625) hx hb dL_law_611 (by decide) (by omega) (fun c_611 => ?_) (fun c_611 => ?_)
                    · refine lv_iconst (v := nI 1) hx hb dL_law_625 (by decide) ?_
                      refine lv_goto (tgt := 630) hx hb dL_law_626 (by decide) ?_
                      refine lv_istore (lv' := [(6, .int (nI 1)), (16, .int (nI ((v / 8) % mf))), (15, .int (nI (c1 4 kk))), (14, .int (nI oo)), (13, .int (nI kk)), (12, .int (nI (c1 20 3))), (11, .int (nI (c1 20 1))), (10, .int (nI how)), (9, .int (nI v)), (8, .int (nI x)), (7, .int (nI n)), (0, .ref b), (1, .ref (G 0)), (2, .ref (G 3)), (3, .ref (G 4)), (4, .ref (G 5)), (5, .ref (G 6))]) hx hb dL_law_630 hl (by decide) rfl (fun ls hl => ?_)
                      refine lv_iinc (v := nI (n + 1)) (lv' := [(7, .int (nI (n + 1))), (6, .int (nI 1)), (16, .int (nI ((v / 8) % mf))), (15, .int (nI (c1 4 kk))), (14, .int (nI oo)), (13, .int (nI kk)), (12, .int (nI (c1 20 3))), (11, .int (nI (c1 20 1))), (10, .int (nI how)), (9, .int (nI v)), (8, .int (nI x)), (0, .ref b), (1, .ref (G 0)), (2, .ref (G 3)), (3, .ref (G 4)), (4, .ref (G 5)), (5, .ref (G 6))]) hx hb dL_law_632 hl (k := 10) rfl (nI_add n 1) (by decide) rfl (fun ls hl => ?_)
                      refine lv_goto (tgt := 62) hx hb dL_law_635 (by decide) ?_
                      refine W.widen (k := 3000 + 600 * (n + 1)) (n := 200000 + 2100 * (n + 1) + 70000 * (((n + 1) + 19) / 20)) (by omega) (by omega) ?_
                      exact ih62 (n + 1) (by omega) (by omega) (C2) (r1) (ρ9) (by exact hLI9) (by intro z; omega) _ _ _ _ hRc hRr hRo hP hD hS (lv_sub hl [0, 1, 11, 12, 13, 14, 15, 16] rfl)
                    · refine lv_aload_n hx hb dL_law_614 rfl (lv_at hl 12 rfl) ?_
                      refine lv_iload hx hb dL_law_615 (lv_at hl 9 rfl) ?_
                      refine lv_iconst (v := nI 3) hx hb dL_law_617 (by decide) ?_
                      refine n_idiv hx hb dL_law_618 (by omega) (by first | omega | decide | assumption) (by decide) ?_
                      refine y_calli (va_runS (As := [.ref (G 0), .int (nI (x / 3))]) (rest := []) ⟨hx, hb, hml, hown, hts⟩ (k_L_isRefused l D G h0 C2 r1 o hlt a1 (by omega) a2 (x / 3) (by omega)) (va_cwS 2 hts gL_law_L_isRefused rfl rfl rfl (by decide +kernel) ⟨Nat.le_of_ble_eq_true rfl, Nat.le_of_ble_eq_true rfl⟩) ⟨fun a U g mk q => ⟨q.1, Pr_cg q.2⟩, fun U hU hW => ⟨rfl, Pr_mk hE hRc hRr hRo hP hD hS hU hW⟩⟩ rfl rfl hl.1 rfl (lv_room (Nat.le_of_ble_eq_true rfl)) dL_law_619 ⟨(show _ ≤ 1013921 from by omega), (show _ ≤ 6059706 from by omega)⟩) hS (fun v9 _ H locs wl hv9 hRc hRr hRo hP hD hS => ?_)
                      refine n_top (y := .int (nI 1)) (congrArg Value.int hv9) ?_
                      clear hv9 v9
                      refine n_if_eq (tgt := 629) hx hb dL_law_622 (by decide) (by decide) (fun c_622 => absurd c_622 (by decide)) (fun c_622 => ?_)
                      refine lv_iconst (v := nI 1) hx hb dL_law_625 (by decide) ?_
                      refine lv_goto (tgt := 630) hx hb dL_law_626 (by decide) ?_
                      refine lv_istore (lv' := [(6, .int (nI 1)), (16, .int (nI ((v / 8) % mf))), (15, .int (nI (c1 4 kk))), (14, .int (nI oo)), (13, .int (nI kk)), (12, .int (nI (c1 20 3))), (11, .int (nI (c1 20 1))), (10, .int (nI how)), (9, .int (nI v)), (8, .int (nI x)), (7, .int (nI n)), (0, .ref b), (1, .ref (G 0)), (2, .ref (G 3)), (3, .ref (G 4)), (4, .ref (G 5)), (5, .ref (G 6))]) hx hb dL_law_630 hl (by decide) rfl (fun ls hl => ?_)
                      refine lv_iinc (v := nI (n + 1)) (lv' := [(7, .int (nI (n + 1))), (6, .int (nI 1)), (16, .int (nI ((v / 8) % mf))), (15, .int (nI (c1 4 kk))), (14, .int (nI oo)), (13, .int (nI kk)), (12, .int (nI (c1 20 3))), (11, .int (nI (c1 20 1))), (10, .int (nI how)), (9, .int (nI v)), (8, .int (nI x)), (0, .ref b), (1, .ref (G 0)), (2, .ref (G 3)), (3, .ref (G 4)), (4, .ref (G 5)), (5, .ref (G 6))]) hx hb dL_law_632 hl (k := 10) rfl (nI_add n 1) (by decide) rfl (fun ls hl => ?_)
                      refine lv_goto (tgt := 62) hx hb dL_law_635 (by decide) ?_
                      refine W.widen (k := 3000 + 600 * (n + 1)) (n := 200000 + 2100 * (n + 1) + 70000 * (((n + 1) + 19) / 20)) (by omega) (by omega) ?_
                      exact ih62 (n + 1) (by omega) (by omega) (C2) (r1) (ρ9) (by exact hLI9) (by intro z; omega) _ _ _ _ hRc hRr hRo hP hD hS (lv_sub hl [0, 1, 11, 12, 13, 14, 15, 16] rfl)
            · refine lv_aload_n hx hb dL_law_302 rfl (lv_at hl 11 rfl) ?_
              refine lv_bipush (v := nI 8) hx hb dL_law_303 (by decide) ?_
              refine lv_iload hx hb dL_law_305 (lv_at hl 1 rfl) ?_
              refine n_imul hx hb dL_law_307 ?_
              refine x_iald hx hb hK hP 3 (Q_g hRr) (by first | omega | decide | assumption) (by decide) dL_law_308 (v := nI (r1 10 kk)) (gV_0 _ kk) ?_
              refine lv_istore (lv' := [(15, .int (nI (r1 10 kk))), (14, .int (nI oo)), (13, .int (nI kk)), (12, .int (nI (c1 20 3))), (11, .int (nI (c1 20 1))), (10, .int (nI how)), (9, .int (nI v)), (8, .int (nI x)), (7, .int (nI n)), (6, .int (nI 1)), (0, .ref b), (1, .ref (G 0)), (2, .ref (G 3)), (3, .ref (G 4)), (4, .ref (G 5)), (5, .ref (G 6))]) hx hb dL_law_309 hl (by decide) rfl (fun ls hl => ?_)
              refine lv_aload_n hx hb dL_law_311 rfl (lv_at hl 12 rfl) ?_
              refine lv_bipush (v := nI 8) hx hb dL_law_312 (by decide) ?_
              refine lv_iload hx hb dL_law_314 (lv_at hl 2 rfl) ?_
              refine n_imul hx hb dL_law_316 ?_
              refine lv_iconst (v := nI 1) hx hb dL_law_317 (by decide) ?_
              refine lv_iload hx hb dL_law_318 (lv_at hl 6 rfl) ?_
              refine lv_bipush (v := nI 8) hx hb dL_law_320 (by decide) ?_
              refine n_idiv hx hb dL_law_322 (by omega) (by first | omega | decide | assumption) (by decide) ?_
              have J323 : (∀ (H : Heap) (locs : List Loc) (wl : va_W), Rc G c1 wl → Rr G r1 wl → Ro G o wl → va_P D vwCl wl H → va_D (fun q => h0 ≤ q) wl → va_S (fun q => h0 ≤ q) s.heap H locs → W p l e room_1 s m #[Value.ref b] below meth cd H locs (3000 + 600 * n) (200000 + 2100 * n + 70000 * ((n + 19) / 20)) Q (F0 m 337 ls [.int (nI md), .int (nI (v / 8)), .int (nI 1), .int (nI (8 * kk)), .ref (G 3)])) → W p l e room_1 s m #[Value.ref b] below meth cd H locs (3000 + 600 * n) (200000 + 2100 * n + 70000 * ((n + 19) / 20)) Q (F0 m 323 ls [.int (nI (v / 8)), .int (nI 1), .int (nI (8 * kk)), .ref (G 3)]) := by
                intro hk323
                refine lv_iload hx hb dL_law_323 (lv_at hl 6 rfl) ?_
                refine lv_iconst (v := nI 5) hx hb dL_law_325 (by decide) ?_
                refine n_irem hx hb dL_law_326 (by omega) (by first | omega | decide | assumption) (by decide) ?_
                refine n_if_ne (tgt := 335) hx hb dL_law_327 (by decide) (by omega) (fun c_327 => ?_) (fun c_327 => ?_)
                · refine lv_bipush (v := nI 8) hx hb dL_law_335 (by decide) ?_
                  refine n_top (y := .int (nI md)) (congrArg Value.int (show nI 8 = nI md from by exact congrArg nI (hmd.2 (by omega)).symm)) ?_
                  exact hk323 _ _ _ hRc hRr hRo hP hD hS
                · refine lv_bipush (v := nI 100) hx hb dL_law_330 (by decide) ?_
                  refine lv_goto (tgt := 337) hx hb dL_law_332 (by decide) ?_
                  refine n_top (y := .int (nI md)) (congrArg Value.int (show nI 100 = nI md from by exact congrArg nI (hmd.1 (by omega)).symm)) ?_
                  exact hk323 _ _ _ hRc hRr hRo hP hD hS
              refine J323 (fun H locs wl hRc hRr hRo hP hD hS => ?_)
              refine n_irem hx hb dL_law_337 (by omega) (by first | omega | decide | assumption) (by omega) ?_
              refine n_iadd hx hb dL_law_338 ?_
              refine x_iast (Z := fun wl => Rc G c1 wl ∧ Rr G (up2 r1 10 kk (1 + ((v / 8) % md))) wl ∧ Ro G o wl) hx hb hK hP hD hS 3 (Q_g hRr) (by first | omega | decide | assumption) (by decide) dL_law_339 ⟨Rc_fr hRc (by decide) (by decide), P_g0 (r := r1) (k := kk) (1 + ((v / 8) % md)) (by first | omega | decide | assumption) hRr, ⟨rfl, rfl, rfl⟩⟩ (fun H locs wl hZ hP hD hS => ?_)
              obtain ⟨hRc, hRr, hRo⟩ := hZ
              refine lv_aload_n hx hb dL_law_340 rfl (lv_at hl 11 rfl) ?_
              refine lv_bipush (v := nI 6) hx hb dL_law_341 (by decide) ?_
              refine lv_iload hx hb dL_law_343 (lv_at hl 2 rfl) ?_
              refine lv_aload_n hx hb dL_law_345 rfl (lv_at hl 12 rfl) ?_
              refine lv_bipush (v := nI 8) hx hb dL_law_346 (by decide) ?_
              refine lv_iload hx hb dL_law_348 (lv_at hl 2 rfl) ?_
              refine n_imul hx hb dL_law_350 ?_
              refine x_iald hx hb hK hP 3 (Q_g hRr) (by first | omega | decide | assumption) (by decide) dL_law_351 (v := nI (1 + ((v / 8) % md))) ((gV_0 _ kk).trans (congrArg nI (show (up2 r1 10 kk (1 + ((v / 8) % md))) 10 kk = 1 + ((v / 8) % md) from by simp [up2]))) ?_
              refine lv_iconst (v := nI 0) hx hb dL_law_352 (by decide) ?_
              refine y_calli (va_SW (As := [.ref (G 0), .int (nI 6), .int (nI kk), .int (nI (1 + ((v / 8) % md))), .int (nI 0)]) (rest := []) hx hb hml hown hts (k_L_act_setTime l hlt D G h0 c1 (up2 r1 10 kk (1 + ((v / 8) % md))) o (nI kk) (nI (1 + ((v / 8) % md))) (nI 0) hI1) (vx_cwSW 5 hts gL_law_L_act rfl rfl rfl (by decide +kernel) ⟨(Nat.le_of_ble_eq_true rfl), (Nat.le_of_ble_eq_true rfl)⟩) (fun a U g mk q => ⟨q.1, Pr_cg q.2⟩) (fun U hU hW => ⟨rfl, Pr_mk hE hRc hRr hRo hP hD hS hU hW⟩) rfl hl.1 rfl (lv_room (Nat.le_of_ble_eq_true rfl)) dL_law_353 (show _ ≤ 1013921 from by omega) (show _ ≤ 6059706 from by omega)) hS (fun v9 C2 H locs wl hv9 hRc hRr hRo hP hD hS => ?_)
              have hv9 := A_setTime hv9 (hkk (by omega)) ⟨by omega, by omega⟩ (by omega)
              refine n_top (y := .int (nI (c1 1 kk))) (congrArg Value.int hv9.1) ?_
              obtain ⟨ρ9, hLI9⟩ := LI_time hLI (a := kk) (t := 1 + v / 8 % md) (hkk (by omega)) (by omega)
              rw [← hv9.2] at hLI9
              have hC2 : C2 20 1 = c1 20 1 ∧ C2 20 3 = c1 20 3 := by rw [hv9.2]; exact ⟨rfl, rfl⟩
              clear hv9
              refine lv_iload hx hb dL_law_356 (lv_at hl 0 rfl) ?_
              refine n_icmp_ne (tgt := 365) hx hb dL_law_358 (by decide) (hB1 _ _ (by decide)) (hBr1 _ _ (by decide)) (fun c_358 => ?_) (fun c_358 => ?_)
              · exfalso; exact c_358 (hGs.2 kk (hkk (by omega))).1.symm
              · refine lv_iconst (v := nI 1) hx hb dL_law_361 (by decide) ?_
                refine lv_goto (tgt := 366) hx hb dL_law_362 (by decide) ?_
                refine lv_istore (lv' := [(6, .int (nI 1)), (15, .int (nI (r1 10 kk))), (14, .int (nI oo)), (13, .int (nI kk)), (12, .int (nI (c1 20 3))), (11, .int (nI (c1 20 1))), (10, .int (nI how)), (9, .int (nI v)), (8, .int (nI x)), (7, .int (nI n)), (0, .ref b), (1, .ref (G 0)), (2, .ref (G 3)), (3, .ref (G 4)), (4, .ref (G 5)), (5, .ref (G 6))]) hx hb dL_law_366 hl (by decide) rfl (fun ls hl => ?_)
                refine lv_goto (tgt := 584) hx hb dL_law_368 (by decide) ?_
                obtain ⟨a1, a2, a3, a4, a5, a6, a7, a8, a9, a10⟩ := LI_ar hLI9 (by omega)
                refine lv_iload hx hb dL_law_584 (lv_at hl 0 rfl) ?_
                refine n_if_eq (tgt := 629) hx hb dL_law_586 (by decide) (by decide) (fun c_586 => absurd c_586 (by decide)) (fun c_586 => ?_)
                refine lv_aload_n hx hb dL_law_589 rfl (lv_at hl 11 rfl) ?_
                refine lv_aload_n hx hb dL_law_590 rfl (lv_at hl 12 rfl) ?_
                refine lv_aload_n hx hb dL_law_591 rfl (lv_at hl 13 rfl) ?_
                refine y_calli (va_runS (As := [.ref (G 0), .ref (G 3), .ref (G 4)]) (rest := []) ⟨hx, hb, hml, hown, hts⟩ (k_L_areUnits l D G h0 C2 (up2 r1 10 kk (1 + ((v / 8) % md))) o a1 a2 a3 a4 a5 a6 a7) (va_cwS 3 hts gL_law_L_areUnits rfl rfl rfl (by decide +kernel) ⟨Nat.le_of_ble_eq_true rfl, Nat.le_of_ble_eq_true rfl⟩) ⟨fun a U g mk q => ⟨q.1, Pr_cg q.2⟩, fun U hU hW => ⟨rfl, Pr_mk hE hRc hRr hRo hP hD hS hU hW⟩⟩ rfl rfl hl.1 rfl (lv_room (Nat.le_of_ble_eq_true rfl)) dL_law_592 ⟨(show _ ≤ 1013921 from by omega), (show _ ≤ 6059706 from by omega)⟩) hS (fun v9 _ H locs wl hv9 hRc hRr hRo hP hD hS => ?_)
                refine n_top (y := .int (nI 1)) (congrArg Value.int hv9) ?_
                clear hv9 v9
                refine n_if_eq (tgt := 629) hx hb dL_law_595 (by decide) (by decide) (fun c_595 => absurd c_595 (by decide)) (fun c_595 => ?_)
                refine lv_aload_n hx hb dL_law_598 rfl (lv_at hl 11 rfl) ?_
                refine lv_aload_n hx hb dL_law_599 rfl (lv_at hl 12 rfl) ?_
                refine y_calli (va_runS (As := [.ref (G 0), .ref (G 3)]) (rest := []) ⟨hx, hb, hml, hown, hts⟩ (k_L_areRunning l D G h0 C2 (up2 r1 10 kk (1 + ((v / 8) % md))) o a1 a2 a3 a4 a8 a9 a5) (va_cwS 2 hts gL_law_L_areRunning rfl rfl rfl (by decide +kernel) ⟨Nat.le_of_ble_eq_true rfl, Nat.le_of_ble_eq_true rfl⟩) ⟨fun a U g mk q => ⟨q.1, Pr_cg q.2⟩, fun U hU hW => ⟨rfl, Pr_mk hE hRc hRr hRo hP hD hS hU hW⟩⟩ rfl rfl hl.1 rfl (lv_room (Nat.le_of_ble_eq_true rfl)) dL_law_600 ⟨(show _ ≤ 1013921 from by omega), (show _ ≤ 6059706 from by omega)⟩) hS (fun v9 _ H locs wl hv9 hRc hRr hRo hP hD hS => ?_)
                refine n_top (y := .int (nI 1)) (congrArg Value.int hv9) ?_
                clear hv9 v9
                refine n_if_eq (tgt := 629) hx hb dL_law_603 (by decide) (by decide) (fun c_603 => absurd c_603 (by decide)) (fun c_603 => ?_)
                refine lv_iload hx hb dL_law_606 (lv_at hl 9 rfl) ?_
                refine lv_bipush (v := nI 20) hx hb dL_law_608 (by decide) ?_
                refine n_irem hx hb dL_law_610 (by omega) (by first | omega | decide | assumption) (by decide) ?_
                refine n_if_gt (tgt := 625) hx hb dL_law_611 (by decide) (by omega) (fun c_611 => ?_) (fun c_611 => ?_)
                · refine lv_iconst (v := nI 1) hx hb dL_law_625 (by decide) ?_
                  refine lv_goto (tgt := 630) hx hb dL_law_626 (by decide) ?_
                  refine lv_istore (lv' := [(6, .int (nI 1)), (15, .int (nI (r1 10 kk))), (14, .int (nI oo)), (13, .int (nI kk)), (12, .int (nI (c1 20 3))), (11, .int (nI (c1 20 1))), (10, .int (nI how)), (9, .int (nI v)), (8, .int (nI x)), (7, .int (nI n)), (0, .ref b), (1, .ref (G 0)), (2, .ref (G 3)), (3, .ref (G 4)), (4, .ref (G 5)), (5, .ref (G 6))]) hx hb dL_law_630 hl (by decide) rfl (fun ls hl => ?_)
                  refine lv_iinc (v := nI (n + 1)) (lv' := [(7, .int (nI (n + 1))), (6, .int (nI 1)), (15, .int (nI (r1 10 kk))), (14, .int (nI oo)), (13, .int (nI kk)), (12, .int (nI (c1 20 3))), (11, .int (nI (c1 20 1))), (10, .int (nI how)), (9, .int (nI v)), (8, .int (nI x)), (0, .ref b), (1, .ref (G 0)), (2, .ref (G 3)), (3, .ref (G 4)), (4, .ref (G 5)), (5, .ref (G 6))]) hx hb dL_law_632 hl (k := 9) rfl (nI_add n 1) (by decide) rfl (fun ls hl => ?_)
                  refine lv_goto (tgt := 62) hx hb dL_law_635 (by decide) ?_
                  refine W.widen (k := 3000 + 600 * (n + 1)) (n := 200000 + 2100 * (n + 1) + 70000 * (((n + 1) + 19) / 20)) (by omega) (by omega) ?_
                  exact ih62 (n + 1) (by omega) (by omega) (C2) (up2 r1 10 kk (1 + ((v / 8) % md))) (ρ9) (by exact hLI9) (by intro z; omega) _ _ _ _ hRc hRr hRo hP hD hS (lv_sub hl [0, 1, 10, 11, 12, 13, 14, 15] rfl)
                · refine lv_aload_n hx hb dL_law_614 rfl (lv_at hl 11 rfl) ?_
                  refine lv_iload hx hb dL_law_615 (lv_at hl 8 rfl) ?_
                  refine lv_iconst (v := nI 3) hx hb dL_law_617 (by decide) ?_
                  refine n_idiv hx hb dL_law_618 (by omega) (by first | omega | decide | assumption) (by decide) ?_
                  refine y_calli (va_runS (As := [.ref (G 0), .int (nI (x / 3))]) (rest := []) ⟨hx, hb, hml, hown, hts⟩ (k_L_isRefused l D G h0 C2 (up2 r1 10 kk (1 + ((v / 8) % md))) o hlt a1 (by omega) a2 (x / 3) (by omega)) (va_cwS 2 hts gL_law_L_isRefused rfl rfl rfl (by decide +kernel) ⟨Nat.le_of_ble_eq_true rfl, Nat.le_of_ble_eq_true rfl⟩) ⟨fun a U g mk q => ⟨q.1, Pr_cg q.2⟩, fun U hU hW => ⟨rfl, Pr_mk hE hRc hRr hRo hP hD hS hU hW⟩⟩ rfl rfl hl.1 rfl (lv_room (Nat.le_of_ble_eq_true rfl)) dL_law_619 ⟨(show _ ≤ 1013921 from by omega), (show _ ≤ 6059706 from by omega)⟩) hS (fun v9 _ H locs wl hv9 hRc hRr hRo hP hD hS => ?_)
                  refine n_top (y := .int (nI 1)) (congrArg Value.int hv9) ?_
                  clear hv9 v9
                  refine n_if_eq (tgt := 629) hx hb dL_law_622 (by decide) (by decide) (fun c_622 => absurd c_622 (by decide)) (fun c_622 => ?_)
                  refine lv_iconst (v := nI 1) hx hb dL_law_625 (by decide) ?_
                  refine lv_goto (tgt := 630) hx hb dL_law_626 (by decide) ?_
                  refine lv_istore (lv' := [(6, .int (nI 1)), (15, .int (nI (r1 10 kk))), (14, .int (nI oo)), (13, .int (nI kk)), (12, .int (nI (c1 20 3))), (11, .int (nI (c1 20 1))), (10, .int (nI how)), (9, .int (nI v)), (8, .int (nI x)), (7, .int (nI n)), (0, .ref b), (1, .ref (G 0)), (2, .ref (G 3)), (3, .ref (G 4)), (4, .ref (G 5)), (5, .ref (G 6))]) hx hb dL_law_630 hl (by decide) rfl (fun ls hl => ?_)
                  refine lv_iinc (v := nI (n + 1)) (lv' := [(7, .int (nI (n + 1))), (6, .int (nI 1)), (15, .int (nI (r1 10 kk))), (14, .int (nI oo)), (13, .int (nI kk)), (12, .int (nI (c1 20 3))), (11, .int (nI (c1 20 1))), (10, .int (nI how)), (9, .int (nI v)), (8, .int (nI x)), (0, .ref b), (1, .ref (G 0)), (2, .ref (G 3)), (3, .ref (G 4)), (4, .ref (G 5)), (5, .ref (G 6))]) hx hb dL_law_632 hl (k := 9) rfl (nI_add n 1) (by decide) rfl (fun ls hl => ?_)
                  refine lv_goto (tgt := 62) hx hb dL_law_635 (by decide) ?_
                  refine W.widen (k := 3000 + 600 * (n + 1)) (n := 200000 + 2100 * (n + 1) + 70000 * (((n + 1) + 19) / 20)) (by omega) (by omega) ?_
                  exact ih62 (n + 1) (by omega) (by omega) (C2) (up2 r1 10 kk (1 + ((v / 8) % md))) (ρ9) (by exact hLI9) (by intro z; omega) _ _ _ _ hRc hRr hRo hP hD hS (lv_sub hl [0, 1, 10, 11, 12, 13, 14, 15] rfl)
    refine W.widen (k := 3000 + 600 * 0) (n := 200000 + 2100 * 0 + 70000 * ((0 + 19) / 20)) (by omega) (by omega) ?_
    exact L62 _ 0 (Nat.lt_succ_self _) (by omega) (c) (r) (ρ) (by exact hLI0) (by exact fun z => absurd hg00 z) _ _ _ _ hRc hRr hRo hP hD hS (lv_sub hl [0, 1, 7, 6, 5, 4, 3, 2] rfl)
