set_option maxHeartbeats 16000000 in
set_option maxRecDepth 100000 in
theorem law_start {p : Program} {l : Launch} (hlt : l.stackTraces = false) {e : Env} {s : State} {m : MethodId} {below : List Frame} {meth : Method} {cd : Code} {D : va_G} {G : Nat → Nat} {h0 b L : Nat} {xs : Nat → Int32} (hL : L ≤ 260) (hh0 : h0 = s.heap.size) (hx : p.tables.exec = Jvm.exec) (hb : cd.code = cL_law) (hr : meth.sig.returnType = ret) (hml : cd.maxLocals = 17) (hown : s.vm.findClass RL = some m.cls) (hts : ∀ w ∈ wsL_law, w.before #[Value.ref b] s = true) (hX : va_X b L xs s s.heap) (hbl : b < s.heap.size) (hlocks : meth.locks = false) (hE : Ev D G h0 s) :
    W p l e room_1 s m #[Value.ref b] below meth cd s.heap [] 0 0 (lw_Z below #[Value.ref b] s) (entryFrame m ([Value.ref b] : List Value).toArray 17) := by
  have hK := hE.2.1
  have hA : ∀ q : Nat, s.heap.size ≤ q → h0 ≤ q := fun q h => by omega
  have hS : va_S (fun q => h0 ≤ q) s.heap s.heap [] := va_S.rf
  have hl := lv_entry ([.ref b]) (n := 17) (Nat.le_of_ble_eq_true rfl)
  rw [lg_entry_eq]
  generalize (lg_sl ([.ref b]) ++ List.replicate (17 - (lg_sl ([.ref b])).length) Slot.unset).toArray = ls at hl ⊢
  have hl : lv_has ls 17 [(0, .ref b)] := hl
  have inX2 : ∀ w ∈ wsX20, w ∈ wsL_law := fun _ h => List.mem_append_left _ (List.mem_append_left _ (List.mem_append_left _ (List.mem_append_left _ (List.mem_append_left _ (List.mem_append_left _ (List.mem_append_left _ (List.mem_append_right _ h)))))))
  have hP : va_P D vwCl [] s.heap := fun k q h => by cases h
  have hD : va_D (fun q => h0 ≤ q) ([] : va_W) := ⟨fun i j p q h => (by cases h), fun k q h => (by cases h)⟩
  refine va_new (ci := 3) (fs := [.null, .int 0, .null, .int 0, .int 0, .int 0, .int 0]) (C := RX2) (T := TX2) (N := 7) hx hb hts inX2 tyX2 tyX2_ok hown (hts (.classLink RL 10 RX2) (by decide +kernel)) (hts (.instantiable RX2 7) (by decide +kernel)) (hts (.initialized RX2) (by decide +kernel)) hK hP hD hS hA rfl (fun j hj => by rcases (show j = 0 ∨ j = 1 ∨ j = 2 ∨ j = 3 ∨ j = 4 ∨ j = 5 ∨ j = 6 by omega) with rfl | rfl | rfl | rfl | rfl | rfl | rfl <;> rfl) (Nat.le_of_ble_eq_true rfl) (Nat.le_of_ble_eq_true rfl) dL_law_0 (fun q H hP hD hS => ?_)
  refine lv_dup hx hb dL_law_3 rfl ?_
  refine w_callS (va_runI (As := []) (rest := [.ref q]) ⟨hx, hb, hml, hown, hts⟩ (k_X2_init l D G h0 q) (cwI 0 hts gL_law_X2_init rfl rfl rfl (hts (.initialized RX2) (by decide +kernel)) (hts (.methodLink RL 132 yX2_init) (by decide +kernel)) (hts (.instanceMethod yX2_init) (by decide +kernel)) rfl (by decide +kernel) ⟨(Nat.le_of_ble_eq_true rfl), (Nat.le_of_ble_eq_true rfl)⟩) ⟨fun a U g mk q => ⟨q.1, Pw_cg q.2⟩, fun U hU hW => ⟨rfl, Pw_mk hE hP hD hS hU hW⟩⟩ rfl rfl hl.1 rfl (lv_room (Nat.le_of_ble_eq_true rfl)) dL_law_4 ⟨(Nat.le_of_ble_eq_true rfl), (Nat.le_of_ble_eq_true rfl)⟩) hS (fun z H locs _ hP hD hS => ?_)
  obtain ⟨qr, ql, f⟩ := z
  refine lv_astore_n (lv' := [(1, .ref q), (0, .ref b)]) hx hb dL_law_7 rfl hl (by decide) rfl (fun ls hl => ?_)
  refine lv_bipush (v := nI 64) hx hb dL_law_8 (by decide) ?_
  refine va_newa (atype := ArrayType.int) (ty := .int) (N' := 64) (a0 := (64, .inl (fun _ => 0))) hx hb (hts (.arrayClass .int) (by decide +kernel)) rfl hK hP hD hS hA (fun cA => rfl) (nI_pos (by decide)) (nI_clamp (by decide)) (by decide) (Nat.le_of_ble_eq_true rfl) (Nat.le_of_ble_eq_true rfl) dL_law_10 (fun g0 cA H hK2 hP hD hS => ?_)
  have hcA := K_ty hK2
  subst hcA
  refine lv_astore_n (lv' := [(2, .ref g0), (1, .ref q), (0, .ref b)]) hx hb dL_law_12 rfl hl (by decide) rfl (fun ls hl => ?_)
  refine lv_bipush (v := nI 64) hx hb dL_law_13 (by decide) ?_
  refine va_newa (atype := ArrayType.int) (ty := .int) (N' := 64) (a0 := (64, .inl (fun _ => 0))) hx hb (hts (.arrayClass .int) (by decide +kernel)) rfl hK hP hD hS hA (fun cA => rfl) (nI_pos (by decide)) (nI_clamp (by decide)) (by decide) (Nat.le_of_ble_eq_true rfl) (Nat.le_of_ble_eq_true rfl) dL_law_15 (fun g1 cA H hK2 hP hD hS => ?_)
  have hcA := K_ty hK2
  subst hcA
  refine lv_astore_n (lv' := [(3, .ref g1), (2, .ref g0), (1, .ref q), (0, .ref b)]) hx hb dL_law_17 rfl hl (by decide) rfl (fun ls hl => ?_)
  refine lv_bipush (v := nI 24) hx hb dL_law_18 (by decide) ?_
  refine va_newa (atype := ArrayType.int) (ty := .int) (N' := 24) (a0 := (24, .inl (fun _ => 0))) hx hb (hts (.arrayClass .int) (by decide +kernel)) rfl hK hP hD hS hA (fun cA => rfl) (nI_pos (by decide)) (nI_clamp (by decide)) (by decide) (Nat.le_of_ble_eq_true rfl) (Nat.le_of_ble_eq_true rfl) dL_law_20 (fun g2 cA H hK2 hP hD hS => ?_)
  have hcA := K_ty hK2
  subst hcA
  refine lv_astore (lv' := [(4, .ref g2), (3, .ref g1), (2, .ref g0), (1, .ref q), (0, .ref b)]) hx hb dL_law_22 hl (by decide) rfl (fun ls hl => ?_)
  refine lv_iconst (v := nI 3) hx hb dL_law_24 (by decide) ?_
  refine va_newa (atype := ArrayType.int) (ty := .int) (N' := 3) (a0 := (3, .inl (fun _ => 0))) hx hb (hts (.arrayClass .int) (by decide +kernel)) rfl hK hP hD hS hA (fun cA => rfl) (nI_pos (by decide)) (nI_clamp (by decide)) (by decide) (Nat.le_of_ble_eq_true rfl) (Nat.le_of_ble_eq_true rfl) dL_law_25 (fun g3 cA H hK2 hP hD hS => ?_)
  have hcA := K_ty hK2
  subst hcA
  refine lv_astore (lv' := [(5, .ref g3), (4, .ref g2), (3, .ref g1), (2, .ref g0), (1, .ref q), (0, .ref b)]) hx hb dL_law_27 hl (by decide) rfl (fun ls hl => ?_)
  obtain ⟨g, hg0, hg1, hg2, hg3⟩ : ∃ g : Nat → Nat, g 0 = g0 ∧ g 1 = g1 ∧ g 2 = g2 ∧ g 3 = g3 := ⟨(fun k => match k with | 0 => g0 | 1 => g1 | 2 => g2 | _ => g3), rfl, rfl, rfl, rfl⟩
  subst hg0 hg1 hg2 hg3
  have hP2 := hP.sub (ws' := oriW G q qr ql g f) [0, 1, 2, 23, 24, 25, 26, 3, 4, 5, 6, 7, 8, 9, 10, 11, 12, 13, 14, 15, 16, 17, 18, 19, 20, 21, 22] rfl
  have hD2 := hD.sub (ws' := oriW G q qr ql g f) [0, 1, 2, 23, 24, 25, 26, 3, 4, 5, 6, 7, 8, 9, 10, 11, 12, 13, 14, 15, 16, 17, 18, 19, 20, 21, 22] (by decide) rfl
  obtain ⟨hP3, hD3⟩ := ori_tgt hP2 hD2
  obtain ⟨hRc, hRr⟩ := tgt_R (G := G) (g := g) (f := f) (q := q) (qr := qr) (ql := ql)
  refine W.widen (k := 100) (n := 1000) (Nat.le_of_ble_eq_true rfl) (Nat.le_of_ble_eq_true rfl) ?_
  have k0 := c00_0 (G 70)
  exact law_main hlt hL hh0 hx hb hr hml hown hts hX hbl hlocks (Ev_GG (g := g) (f := f) (q := q) (qr := qr) (ql := ql) hE) (c00 (G 70)) b00 r00 0 (LI_00 _) (k0 20 1 (by decide)) (k0 20 3 (by decide)) (k0 20 6 (by decide)) H _ _ ls hRc hRr ⟨rfl, rfl, rfl⟩ hP3 hD3 hS hl
