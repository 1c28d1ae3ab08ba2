/-! THE JDK'S LIST GROWS -/
def ncap (c : Nat → Nat → Nat) : Nat := if c 36 0 = 0 then 10 else c 36 0 + max 1 (c 36 0 / 2)
theorem ncap_le (c : Nat → Nat → Nat) : c 36 0 < ncap c ∧ ncap c ≤ 2 * c 36 0 + 10 := by
  unfold ncap
  split
  · omega
  · rcases Nat.le_total 1 (c 36 0 / 2) with z | z
    · rw [Nat.max_eq_right z]; omega
    · rw [Nat.max_eq_left z]; omega
theorem up2_id (x : Nat → Nat → Nat) (a i : Nat) : up2 x a i (x a i) = x := by
  funext b j
  by_cases hz : b = a ∧ j = i
  · rw [hz.1, hz.2, up2_s]
  · exact up_off hz
theorem x_blen {p : Program} {l : Launch} {e : Env} {R : Room} {s : State} {m : MethodId} {args : Array Value} {below : List Frame} {meth : Method} {cd : Code} {H : Heap} {locs : List Loc} {cells slots : Nat} {Q : State → Prop} {cc : ByteArray} {pc : Nat} {ls : Array Slot} {rest : List Value} {D : va_G} {G : Nat → Nat} {h0 : Nat} {c : Nat → Nat → Nat} {wl : va_W}
    (hexec : p.tables.exec = Jvm.exec) (hb : cd.code = cc) (hK : va_K D vwCl (tyL G) s) (hP : va_P D vwCl wl H) (hE : Ev D G h0 s) (hS : va_S (fun q => h0 ≤ q) s.heap H locs) (hRc : Rc G c wl) (hdg : decode cc pc = .ok (.arraylength, 1))
    (kk : W p l e R s m args below meth cd H locs cells slots Q (F0 m (pc + 1) ls (.int (nI (c 36 0)) :: rest))) : W p l e R s m args below meth cd H locs cells slots Q (F0 m pc ls (.ref (c 35 0) :: rest)) := by
  rcases Nat.eq_zero_or_pos (c 36 0) with h | h
  · refine n_top (y := .ref (G 70)) (congrArg Value.ref (Q_0 hRc h).1) ?_
    exact va_tlen (v := nI (c 36 0)) hexec hb hE.2.2.2.2.1 hS (by rw [h]; rfl) hdg kk
  · obtain ⟨k, hk, hq⟩ := Q_b hRc h
    exact va_alen (v := nI (c 36 0)) hexec hb hK hP k 1 hq rfl rfl hdg kk
set_option maxHeartbeats 4000000 in
set_option maxRecDepth 100000 in
theorem k_Jx4a65c_grow_92f84 (l : Launch) (D : va_G) (G : Nat → Nat) (h0 : Nat) (c r : Nat → Nat → Nat) (o : Nat) (hn : c 30 0 = c 36 0) (hcap : c 36 0 ≤ 1200) : Met l yJx4a65c_grow_92f84 wsJx4a65c_grow_92f84 ({ frames := 3, cells := 1, slots := 2000, locals := 104 } : Room) (va_Pc [.ref (G 2), .int (nI (c 30 0 + 1))] (fun U => Pr D G h0 c r o U)) (va_Qr (fun (q9 : Nat) => True) (fun q9 a9 t => a9 = q9 ∧ Wr D G h0 (up2 (up2 c 35 0 q9) 36 0 (ncap c)) r o t) (fun q => h0 ≤ q)) 1 2000 (fun q => h0 ≤ q) := by
  refine Met.ofW (cc := cJx4a65c_grow_92f84) (maxL := 4) (ret := (some (.array (.object "java/lang/Object")))) (by decide) rfl ?_
  intro p e s m args below meth cd s₁ B hml hv
  obtain ⟨rfl, hE, wl, hRc, hRr, hRo, hP, hD⟩ := hv
  have hx := B.exec
  have hb := B.bytes
  have hr := B.returns
  have hts := atoms_spec (ws := wsJx4a65c_grow_92f84) B.pre
  have hown : s.vm.findClass RJx4a65c = some m.cls := findClass_of_methodNamed B.named
  have hlocks := B.notSynchronized
  have hK := hE.2.1
  have hS : va_S (fun q => h0 ≤ q) s.heap s.heap [] := va_S.rf
  have hA : ∀ q : Nat, s.heap.size ≤ q → h0 ≤ q := fun q h => Nat.le_trans hE.1 h
  have hl := lv_entry ([.ref (G 2), .int (nI (c 30 0 + 1))]) (n := 4) (Nat.le_of_ble_eq_true rfl)
  rw [lg_entry_eq]
  generalize (lg_sl ([.ref (G 2), .int (nI (c 30 0 + 1))]) ++ List.replicate (4 - (lg_sl ([.ref (G 2), .int (nI (c 30 0 + 1))])).length) Slot.unset).toArray = ls at hl ⊢
  have hl : lv_has ls 4 [(0, .ref (G 2)), (1, .int (nI (c 30 0 + 1)))] := hl
  have inL : ∀ w ∈ wsJx4a65c0, w ∈ wsJx4a65c_grow_92f84 := by decide +kernel
  refine lv_aload_n hx hb dJx4a65c_grow_92f84_0 rfl (lv_at hl 0 rfl) ?_
  refine va_get (D := D) (ci := 0) (v := .ref (c 35 0)) (C := RJx4a65c) (T := TJx4a65c) (N := 3) hx hb hts inL hown hK hP 2 (Q_l hRc) rfl 1 (by decide) (hts (.fieldLink RJx4a65c 9 "java/util/ArrayList" "elementData" "[Ljava/lang/Object;") (by decide +kernel)) (fun _ h9 => h9) rfl dJx4a65c_grow_92f84_1 ?_
  refine x_blen hx hb hK hP hE hS hRc dJx4a65c_grow_92f84_4 ?_
  refine lv_istore_n (lv' := [(2, .int (nI (c 36 0))), (0, .ref (G 2)), (1, .int (nI (c 30 0 + 1)))]) hx hb dJx4a65c_grow_92f84_5 rfl hl (by decide) rfl (fun ls hl => ?_)
  refine lv_iload_n hx hb dJx4a65c_grow_92f84_6 rfl (lv_at hl 0 rfl) ?_
  refine n_if_gt (tgt := 20) hx hb dJx4a65c_grow_92f84_7 (by decide) (by omega) (fun c_7 => ?_) (fun c_7 => ?_)
  · have hN : ncap c = c 36 0 + max 1 (c 36 0 / 2) := by unfold ncap; rw [if_neg (by omega)]
    have hN2 : c 36 0 < ncap c ∧ ncap c ≤ 2000 := by
      rw [hN]
      rcases Nat.le_total 1 (c 36 0 / 2) with z | z
      · rw [Nat.max_eq_right z]; omega
      · rw [Nat.max_eq_left z]; omega
    refine lv_iload_n hx hb dJx4a65c_grow_92f84_20 rfl (lv_at hl 0 rfl) ?_
    refine lv_iload_n hx hb dJx4a65c_grow_92f84_21 rfl (lv_at hl 2 rfl) ?_
    refine lv_iload_n hx hb dJx4a65c_grow_92f84_22 rfl (lv_at hl 0 rfl) ?_
    refine n_isub hx hb dJx4a65c_grow_92f84_23 (by omega) ?_
    refine n_top (y := .int (nI 1)) (by rw [show c 30 0 + 1 - c 36 0 = 1 by omega]) ?_
    refine lv_iload_n hx hb dJx4a65c_grow_92f84_24 rfl (lv_at hl 0 rfl) ?_
    refine lv_iconst (v := nI 1) hx hb dJx4a65c_grow_92f84_25 (by decide) ?_
    refine n_ishr hx hb dJx4a65c_grow_92f84_26 (by omega) (by decide) ?_
    refine n_top (y := .int (nI (c 36 0 / 2))) (by rw [Nat.pow_one]) ?_
    refine y_calli (va_runS (As := [.int (nI (c 36 0)), .int (nI 1), .int (nI (c 36 0 / 2))]) (rest := []) ⟨hx, hb, hml, hown, hts⟩ (k_J8_newLength_cabcc l D G h0 c r o (c 36 0) (c 36 0 / 2) (by omega) (by omega)) (va_cwS 3 hts gJx4a65c_grow_92f84_J8_newLength_cabcc rfl rfl rfl (by decide +kernel) ⟨(Nat.le_of_ble_eq_true rfl), (Nat.le_of_ble_eq_true rfl)⟩) ⟨fun a U g mk q => ⟨q.1, Pr_cg q.2⟩, fun U hU hW => ⟨rfl, Pr_mk hE hRc hRr hRo hP hD hS hU hW⟩⟩ rfl rfl hl.1 rfl (lv_room (Nat.le_of_ble_eq_true rfl)) dJx4a65c_grow_92f84_27 ⟨(Nat.le_of_ble_eq_true rfl), (Nat.le_of_ble_eq_true rfl)⟩) hS (fun v9 _ H locs wl hv9 hRc hRr hRo hP hD hS => ?_)
    refine n_top (y := .int (nI (ncap c))) (by rw [hN]; exact congrArg Value.int hv9) ?_
    refine lv_istore_n (lv' := [(3, .int (nI (ncap c))), (2, .int (nI (c 36 0))), (0, .ref (G 2)), (1, .int (nI (c 30 0 + 1)))]) hx hb dJx4a65c_grow_92f84_30 rfl hl (by decide) rfl (fun ls hl => ?_)
    refine lv_aload_n hx hb dJx4a65c_grow_92f84_31 rfl (lv_at hl 2 rfl) ?_
    refine lv_aload_n hx hb dJx4a65c_grow_92f84_32 rfl (lv_at hl 2 rfl) ?_
    refine va_get (D := D) (ci := 0) (v := .ref (c 35 0)) (C := RJx4a65c) (T := TJx4a65c) (N := 3) hx hb hts inL hown hK hP 2 (Q_l hRc) rfl 1 (by decide) (hts (.fieldLink RJx4a65c 9 "java/util/ArrayList" "elementData" "[Ljava/lang/Object;") (by decide +kernel)) (fun _ h9 => h9) rfl dJx4a65c_grow_92f84_33 ?_
    refine lv_iload_n hx hb dJx4a65c_grow_92f84_36 rfl (lv_at hl 0 rfl) ?_
    refine va_callr (va_runS (As := [.ref (c 35 0), .int (nI (ncap c))]) (rest := [.ref (G 2)]) ⟨hx, hb, hml, hown, hts⟩ (k_J7_copyOf_1904c l D G h0 c r o (ncap c) (by omega) (by omega) (by omega) (by omega)) (va_cwS 2 hts gJx4a65c_grow_92f84_J7_copyOf_1904c rfl rfl rfl (by decide +kernel) ⟨(Nat.le_of_ble_eq_true rfl), (Nat.le_of_ble_eq_true rfl)⟩) ⟨fun a U g mk q => ⟨q.1, Pr_cg q.2⟩, fun U hU hW => ⟨rfl, Pr_mk hE hRc hRr hRo hP hD hS hU hW⟩⟩ rfl rfl hl.1 rfl (lv_room (Nat.le_of_ble_eq_true rfl)) dJx4a65c_grow_92f84_37 ⟨(Nat.le_of_ble_eq_true rfl), (Nat.le_of_ble_eq_true rfl)⟩) hS (fun _ _ h => h) (fun _ h => h) (fun _ q9 t H locs ht hvm _ hB _ _ hS => ?_)
    obtain ⟨wl, hRc, hRr, hRo, hP, hD, i, hi, hq⟩ := hB
    rw [ht] at hP
    refine lv_dup_x1 hx hb dJx4a65c_grow_92f84_40 rfl rfl ?_
    refine x_put (D := D) (G := G) (ci := 0) (ty := .array (.object "java/lang/Object")) (C := RJx4a65c) (T := TJx4a65c) (N := 3) (Z := fun wl => Rc G (up2 (up2 c 35 0 q9) 36 0 (ncap c)) wl ∧ Rr G r wl ∧ Ro G o wl) hx hb hts inL tyJx4a65c tyJx4a65c_ok nmJx4a65c hown hK hP hD hS 2 (Q_l hRc) rfl 1 (by decide) (hts (.fieldLink RJx4a65c 9 "java/util/ArrayList" "elementData" "[Ljava/lang/Object;") (by decide +kernel)) (fun _ h9 => h9) rfl (by decide +kernel) rfl rfl (Nat.le_of_ble_eq_true rfl) dJx4a65c_grow_92f84_41 ⟨P_grow (by omega) hi hq hRc, Rr_fr hRr (by decide), Ro_fr hRo (by decide)⟩ (fun H locs wl hZ hP hD hS => ?_)
    obtain ⟨hRc, hRr, hRo⟩ := hZ
    exact W.aret (v := .ref q9) (rt := .array (.object "java/lang/Object")) hx hb hr (Or.inr ⟨_, rfl⟩) (Or.inr ⟨_, rfl⟩) (fun t ht hW => ⟨⟨q9, _, rfl, trivial, rfl, Wr_mk hRc hRr hRo hP hD ht⟩, hS.F ht⟩) hS.2.2 dJx4a65c_grow_92f84_44
  · have hN : ncap c = 10 := by unfold ncap; rw [if_pos c_7]
    have h70 := (Q_0 hRc c_7).1
    refine lv_aload_n hx hb dJx4a65c_grow_92f84_10 rfl (lv_at hl 1 rfl) ?_
    refine va_get (D := D) (ci := 0) (v := .ref (c 35 0)) (C := RJx4a65c) (T := TJx4a65c) (N := 3) hx hb hts inL hown hK hP 2 (Q_l hRc) rfl 1 (by decide) (hts (.fieldLink RJx4a65c 9 "java/util/ArrayList" "elementData" "[Ljava/lang/Object;") (by decide +kernel)) (fun _ h9 => h9) rfl dJx4a65c_grow_92f84_11 ?_
    refine va_gets hx hb hE.2.2.2.1 hS hown (hts (.fieldLink RJx4a65c 39 "java/util/ArrayList" "DEFAULTCAPACITY_EMPTY_ELEMENTDATA" "[Ljava/lang/Object;") (by decide +kernel)) (fun _ h9 => h9) dJx4a65c_grow_92f84_14 ?_
    refine lv_acmp_eq (rx := some (c 35 0)) (ry := some (G 70)) (tgt := 45) hx hb dJx4a65c_grow_92f84_17 (by decide) (fun _ => ?_) (fun c_17 => absurd (by rw [h70]) c_17)
    refine lv_aload_n hx hb dJx4a65c_grow_92f84_45 rfl (lv_at hl 1 rfl) ?_
    refine lv_bipush (v := nI 10) hx hb dJx4a65c_grow_92f84_46 (by decide) ?_
    refine lv_iload_n hx hb dJx4a65c_grow_92f84_48 rfl (lv_at hl 2 rfl) ?_
    refine va_mmax hx hb (hml.trans hl.1.symm) hown (hts (.methodLink RJx4a65c 79 Lib.Math.max.name) (by decide +kernel)) (hts (.static Lib.Math.max.name) (by decide +kernel)) (hts (.initialized "java/lang/Math") (by decide +kernel)) (hts (.code Lib.Math.max.name Lib.Math.max.code 2 (some .int)) (by decide +kernel)) (Nat.le_of_ble_eq_true rfl) (Nat.le_of_ble_eq_true rfl) (by first | exact (Nat.le_of_ble_eq_true rfl) | (simp only [Nat.zero_add]; omega)) (by first | exact (Nat.le_of_ble_eq_true rfl) | (show _ ≤ 2000; omega)) dJx4a65c_grow_92f84_49 ?_
    refine n_top (y := .int (nI 10)) (by rw [nI_max (by decide) (by omega), Nat.max_eq_left (by omega)]) ?_
    refine va_newq (C := "java/lang/Object") (N' := 10) hx hb hown (hts (.classLink RJx4a65c 7 "java/lang/Object") (by decide +kernel)) hE.2.2.2.2.2.1 hK hP hD hS hA (nI_pos (by decide)) (nI_clamp (by decide)) (by decide) (Nat.le_of_ble_eq_true rfl) (by show 0 + 10 ≤ 2000; decide) dJx4a65c_grow_92f84_52 (fun q9 cA H hK2 hP hD hS => ?_)
    have hcA := K_eq hK2
    subst hcA
    have ef : (fun _ : Nat => (none : Option Nat)) = (fun j => if j < c 30 0 then some (c 34 j) else none) := by
      funext j
      rw [if_neg (by omega)]
    rw [ef, ← hN] at hP hD
    have hqL : (wl ++ [(q9, (.inl (G 61, ncap c, .inr (.inr (.inr (.inr (fun j => if j < c 30 0 then some (c 34 j) else none))))) : va_E))])[wl.length]? = some (q9, .inl (G 61, ncap c, .inr (.inr (.inr (.inr (fun j => if j < c 30 0 then some (c 34 j) else none)))))) := by simp
    have h40 : 27 ≤ wl.length := by
      have := (List.getElem?_eq_some_iff.mp (Q_u hRc (show 19 < 20 by decide))).1
      omega
    refine W.widen (k := 1) (n := 2000) (Nat.le_of_ble_eq_true rfl) (by decide) ?_
    refine lv_dup_x1 hx hb dJx4a65c_grow_92f84_55 rfl rfl ?_
    refine x_put (D := D) (G := G) (ci := 0) (ty := .array (.object "java/lang/Object")) (C := RJx4a65c) (T := TJx4a65c) (N := 3) (Z := fun wl => Rc G (up2 (up2 c 35 0 q9) 36 0 (ncap c)) wl ∧ Rr G r wl ∧ Ro G o wl) hx hb hts inL tyJx4a65c tyJx4a65c_ok nmJx4a65c hown hK hP hD hS 2 (ws_ap (Q_l hRc)) rfl 1 (by decide) (hts (.fieldLink RJx4a65c 9 "java/util/ArrayList" "elementData" "[Ljava/lang/Object;") (by decide +kernel)) (fun _ h9 => h9) rfl (by decide +kernel) rfl rfl (Nat.le_of_ble_eq_true rfl) dJx4a65c_grow_92f84_56 ⟨P_grow (by omega) h40 hqL (Rc_ap hRc), Rr_fr (Rr_ap hRr) (by decide), Ro_fr (Ro_ap hRo) (by decide)⟩ (fun H locs wl hZ hP hD hS => ?_)
    obtain ⟨hRc, hRr, hRo⟩ := hZ
    exact W.aret (v := .ref q9) (rt := .array (.object "java/lang/Object")) hx hb hr (Or.inr ⟨_, rfl⟩) (Or.inr ⟨_, rfl⟩) (fun t ht hW => ⟨⟨q9, _, rfl, trivial, rfl, Wr_mk hRc hRr hRo hP hD ht⟩, hS.F ht⟩) hS.2.2 dJx4a65c_grow_92f84_59
set_option maxHeartbeats 4000000 in
set_option maxRecDepth 100000 in
theorem k_Jx4a65c_grow_d5877 (l : Launch) (D : va_G) (G : Nat → Nat) (h0 : Nat) (c r : Nat → Nat → Nat) (o : Nat) (hn : c 30 0 = c 36 0) (hcap : c 36 0 ≤ 1200) : Met l yJx4a65c_grow_d5877 wsJx4a65c_grow_d5877 ({ frames := 4, cells := 1, slots := 2000, locals := 127 } : Room) (va_Pc [.ref (G 2)] (fun U => Pr D G h0 c r o U)) (va_Qr (fun (q9 : Nat) => True) (fun q9 a9 t => a9 = q9 ∧ Wr D G h0 (up2 (up2 c 35 0 q9) 36 0 (ncap c)) r o t) (fun q => h0 ≤ q)) 1 2000 (fun q => h0 ≤ q) := by
  refine Met.ofW (cc := cJx4a65c_grow_d5877) (maxL := 1) (ret := (some (.array (.object "java/lang/Object")))) (by decide) rfl ?_
  intro p e s m args below meth cd s₁ B hml hv
  obtain ⟨rfl, hE, wl, hRc, hRr, hRo, hP, hD⟩ := hv
  have hx := B.exec
  have hb := B.bytes
  have hr := B.returns
  have hts := atoms_spec (ws := wsJx4a65c_grow_d5877) B.pre
  have hown : s.vm.findClass RJx4a65c = some m.cls := findClass_of_methodNamed B.named
  have hlocks := B.notSynchronized
  have hK := hE.2.1
  have hS : va_S (fun q => h0 ≤ q) s.heap s.heap [] := va_S.rf
  have hA : ∀ q : Nat, s.heap.size ≤ q → h0 ≤ q := fun q h => Nat.le_trans hE.1 h
  have hl := lv_entry ([.ref (G 2)]) (n := 1) (Nat.le_of_ble_eq_true rfl)
  rw [lg_entry_eq]
  generalize (lg_sl ([.ref (G 2)]) ++ List.replicate (1 - (lg_sl ([.ref (G 2)])).length) Slot.unset).toArray = ls at hl ⊢
  have hl : lv_has ls 1 [(0, .ref (G 2))] := hl
  have inL : ∀ w ∈ wsJx4a65c0, w ∈ wsJx4a65c_grow_d5877 := by decide +kernel
  refine lv_aload_n hx hb dJx4a65c_grow_d5877_0 rfl (lv_at hl 0 rfl) ?_
  refine lv_aload_n hx hb dJx4a65c_grow_d5877_1 rfl (lv_at hl 0 rfl) ?_
  refine va_get (D := D) (ci := 0) (v := .int (nI (c 30 0))) (C := RJx4a65c) (T := TJx4a65c) (N := 3) hx hb hts inL hown hK hP 2 (Q_l hRc) rfl 2 (by decide) (hts (.fieldLink RJx4a65c 48 "java/util/ArrayList" "size" "I") (by decide +kernel)) (fun _ h9 => h9) rfl dJx4a65c_grow_d5877_2 ?_
  refine lv_iconst (v := nI 1) hx hb dJx4a65c_grow_d5877_5 (by decide) ?_
  refine n_iadd hx hb dJx4a65c_grow_d5877_6 ?_
  refine y_callr (va_runV (As := [.int (nI (c 30 0 + 1))]) (rest := []) ⟨hx, hb, hml, hown, hts⟩ (k_Jx4a65c_grow_92f84 l D G h0 c r o hn hcap) (cwV 1 hts gJx4a65c_grow_d5877_Jx4a65c_grow_92f84 rfl rfl rfl (by decide +kernel) ⟨(Nat.le_of_ble_eq_true rfl), (Nat.le_of_ble_eq_true rfl)⟩) ⟨fun a U g mk q => ⟨q.1, Pr_cg q.2⟩, va_recv (ci := 0) (q0 := 2) hK hP rfl (Q_l hRc), fun U hU hW => ⟨rfl, Pr_mk hE hRc hRr hRo hP hD hS hU hW⟩⟩ rfl rfl hl.1 rfl (lv_room (Nat.le_of_ble_eq_true rfl)) dJx4a65c_grow_d5877_7 ⟨(Nat.le_of_ble_eq_true rfl), (Nat.le_of_ble_eq_true rfl)⟩) hS (fun q9 H locs wl _ hRc hRr hRo hP hD hS => ?_)
  exact W.aret (v := .ref q9) (rt := .array (.object "java/lang/Object")) hx hb hr (Or.inr ⟨_, rfl⟩) (Or.inr ⟨_, rfl⟩) (fun t ht hW => ⟨⟨q9, _, rfl, trivial, rfl, Wr_mk hRc hRr hRo hP hD ht⟩, hS.F ht⟩) hS.2.2 dJx4a65c_grow_d5877_10
set_option maxHeartbeats 4000000 in
set_option maxRecDepth 100000 in
theorem k_Jx4a65c_add_72be8 (l : Launch) (D : va_G) (G : Nat → Nat) (h0 : Nat) (c r : Nat → Nat → Nat) (o : Nat) (a b w : Nat) (hf : c 38 0 = 1) (ha : c 38 2 = a + 1) (hb2 : c 38 3 = b + 1) (hw : c 38 4 = w) (h1 : c 30 0 ≤ c 36 0) (h2 : c 36 0 ≤ 2 * c 30 0 + 10) (hcap : c 36 0 ≤ 1200) : Met l yJx4a65c_add_72be8 wsJx4a65c_add_72be8 ({ frames := 5, cells := 1, slots := 2000, locals := 147 } : Room) (va_Pc [.ref (G 2), .ref (c 38 1), .ref (c 35 0), .int (nI (c 30 0))] (fun U => Pr D G h0 c r o U)) (va_Qv (fun (u9 : Nat → Nat → Nat) => ∃ q N, u9 = c_app (up2 (up2 c 35 0 q) 36 0 N) a b w ∧ c 30 0 < N ∧ N ≤ 2 * (c 30 0 + 1) + 10) (fun u9 t => Wr D G h0 u9 r o t) (fun q => h0 ≤ q)) 1 2000 (fun q => h0 ≤ q) := by
  refine Met.ofW (cc := cJx4a65c_add_72be8) (maxL := 4) (ret := none) (by decide) rfl ?_
  intro p e s m args below meth cd s₁ B hml hv
  obtain ⟨rfl, hE, wl, hRc, hRr, hRo, hP, hD⟩ := hv
  have hx := B.exec
  have hb := B.bytes
  have hr := B.returns
  have hts := atoms_spec (ws := wsJx4a65c_add_72be8) B.pre
  have hown : s.vm.findClass RJx4a65c = some m.cls := findClass_of_methodNamed B.named
  have hlocks := B.notSynchronized
  have hK := hE.2.1
  have hS : va_S (fun q => h0 ≤ q) s.heap s.heap [] := va_S.rf
  have hA : ∀ q : Nat, s.heap.size ≤ q → h0 ≤ q := fun q h => Nat.le_trans hE.1 h
  have hl := lv_entry ([.ref (G 2), .ref (c 38 1), .ref (c 35 0), .int (nI (c 30 0))]) (n := 4) (Nat.le_of_ble_eq_true rfl)
  rw [lg_entry_eq]
  generalize (lg_sl ([.ref (G 2), .ref (c 38 1), .ref (c 35 0), .int (nI (c 30 0))]) ++ List.replicate (4 - (lg_sl ([.ref (G 2), .ref (c 38 1), .ref (c 35 0), .int (nI (c 30 0))])).length) Slot.unset).toArray = ls at hl ⊢
  have hl : lv_has ls 4 [(0, .ref (G 2)), (1, .ref (c 38 1)), (2, .ref (c 35 0)), (3, .int (nI (c 30 0)))] := hl
  have inL : ∀ w ∈ wsJx4a65c0, w ∈ wsJx4a65c_add_72be8 := by decide +kernel
  have tail : ∀ (cx : Nat → Nat → Nat) (q N cc ss : Nat), cx = up2 (up2 c 35 0 q) 36 0 N → c 30 0 < N → N ≤ 2 * (c 30 0 + 1) + 10 → cc ≤ 1 → ss ≤ 2000 → ∀ (H : Heap) (locs : List Loc) (wl : va_W) (ls : Array Slot), Rc G cx wl → Rr G r wl → Ro G o wl → va_P D vwCl wl H → va_D (fun q => h0 ≤ q) wl → va_S (fun q => h0 ≤ q) s.heap H locs → lv_has ls 4 [(2, .ref q), (0, .ref (G 2)), (1, .ref (c 38 1)), (3, .int (nI (c 30 0)))] → W p l e (headSpec wsJx4a65c_add_72be8 ({ frames := 5, cells := 1, slots := 2000, locals := 147 } : Room)).room s m ([.ref (G 2), .ref (c 38 1), .ref (c 35 0), .int (nI (c 30 0))] : List Value).toArray below meth cd H locs cc ss (MQ below (va_Qv (fun (u9 : Nat → Nat → Nat) => ∃ q N, u9 = c_app (up2 (up2 c 35 0 q) 36 0 N) a b w ∧ c 30 0 < N ∧ N ≤ 2 * (c 30 0 + 1) + 10) (fun u9 t => Wr D G h0 u9 r o t) (fun q => h0 ≤ q)) ([.ref (G 2), .ref (c 38 1), .ref (c 35 0), .int (nI (c 30 0))] : List Value).toArray s 1 2000 (fun q => h0 ≤ q)) (F0 m 11 ls []) := by
    intro cx q N cc ss ecx hN1 hN2 hcc hss H locs wl ls hRc hRr hRo hP hD hS hl
    have e30 : cx 30 0 = c 30 0 := by rw [ecx]; rfl
    have e35 : cx 35 0 = q := by rw [ecx]; simp [up2]
    have e36 : cx 36 0 = N := by rw [ecx]; simp [up2]
    have e38 : ∀ k, cx 38 k = c 38 k := fun k => by rw [ecx]; simp [up2]
    obtain ⟨k, hk, hq⟩ := Q_b hRc (by omega)
    obtain ⟨i, hi, hxq⟩ := Q_x hRc (by rw [e38]; exact hf)
    refine lv_aload_n hx hb dJx4a65c_add_72be8_11 rfl (lv_at hl 0 rfl) ?_
    refine lv_iload_n hx hb dJx4a65c_add_72be8_12 rfl (lv_at hl 3 rfl) ?_
    refine lv_aload_n hx hb dJx4a65c_add_72be8_13 rfl (lv_at hl 2 rfl) ?_
    rw [e35, e36] at hq
    rw [e38] at hxq
    refine va_astqM hx hb hK hP hD hS k 1 hq rfl (va_rAny hK hP hxq rfl (obj_asg hE.2.2.2.2.2.2.2.2.2.1)) (vp_in_nI hN1 (by omega)) dJx4a65c_add_72be8_14 (fun H locs hP hD hS => ?_)
    rw [nI_clamp (by omega)] at hP hD
    refine lv_aload_n hx hb dJx4a65c_add_72be8_15 rfl (lv_at hl 1 rfl) ?_
    refine lv_iload_n hx hb dJx4a65c_add_72be8_16 rfl (lv_at hl 3 rfl) ?_
    refine lv_iconst (v := nI 1) hx hb dJx4a65c_add_72be8_17 (by decide) ?_
    refine n_iadd hx hb dJx4a65c_add_72be8_18 ?_
    have hfin := P_fin (a := a) (b := b) (w := w) (k := k) (by rw [e38]; exact hf) (by rw [e38]; exact ha) (by rw [e38]; exact hb2) (by rw [e38]; exact hw) (by omega) hk (by rw [e35, e36]; exact hq) hRc
    rw [e30, e35, e36, e38] at hfin
    have hl2 : (wl.set k (q, (.inl (G 61, N, .inr (.inr (.inr (.inr (va_up (fun j => if j < cx 30 0 then some (cx 34 j) else none) (c 30 0) (some (c 38 1))))))) : va_E)))[2]? = some (G 2, .inr (0, lF cx)) := by rw [ws_ne (by omega)]; exact Q_l hRc
    rw [e30] at hl2 hP hD
    refine x_put (D := D) (G := G) (ci := 0) (ty := .int) (C := RJx4a65c) (T := TJx4a65c) (N := 3) (Z := fun wl => Rc G (c_app cx a b w) wl ∧ Rr G r wl ∧ Ro G o wl) hx hb hts inL tyJx4a65c tyJx4a65c_ok nmJx4a65c hown hK hP hD hS 2 hl2 rfl 2 (by decide) (hts (.fieldLink RJx4a65c 48 "java/util/ArrayList" "size" "I") (by decide +kernel)) (fun _ h9 => h9) rfl (by decide +kernel) rfl rfl (Nat.le_of_ble_eq_true rfl) dJx4a65c_add_72be8_19 ⟨hfin, Rr_fr (Rr_fr hRr (by omega)) (by decide), Ro_fr (Ro_fr hRo (by omega)) (by decide)⟩ (fun H locs wl hZ hP hD hS => ?_)
    obtain ⟨hRc, hRr, hRo⟩ := hZ
    refine W.widen (k := 1) (n := 2000) hcc hss ?_
    exact W.vret hx hb hr (fun t ht hW => ⟨⟨c_app cx a b w, rfl, ⟨q, N, by rw [ecx], hN1, hN2⟩, Wr_mk hRc hRr hRo hP hD ht⟩, hS.F ht⟩) hS.2.2 dJx4a65c_add_72be8_22
  refine lv_iload_n hx hb dJx4a65c_add_72be8_0 rfl (lv_at hl 3 rfl) ?_
  refine lv_aload_n hx hb dJx4a65c_add_72be8_1 rfl (lv_at hl 2 rfl) ?_
  refine x_blen hx hb hK hP hE hS hRc dJx4a65c_add_72be8_2 ?_
  refine n_icmp_ne (tgt := 11) hx hb dJx4a65c_add_72be8_3 (by decide) (by omega) (by omega) (fun c_3 => ?_) (fun c_3 => ?_)
  · exact tail c (c 35 0) (c 36 0) 0 0 (by rw [up2_id, up2_id]) (by omega) (by omega) (by decide) (by decide) _ _ _ _ hRc hRr hRo hP hD hS (lv_sub hl [2, 0, 1, 3] rfl)
  · refine lv_aload_n hx hb dJx4a65c_add_72be8_6 rfl (lv_at hl 0 rfl) ?_
    refine y_callr (va_runV (As := []) (rest := []) ⟨hx, hb, hml, hown, hts⟩ (k_Jx4a65c_grow_d5877 l D G h0 c r o c_3 hcap) (cwV 0 hts gJx4a65c_add_72be8_Jx4a65c_grow_d5877 rfl rfl rfl (by decide +kernel) ⟨(Nat.le_of_ble_eq_true rfl), (Nat.le_of_ble_eq_true rfl)⟩) ⟨fun a U g mk q => ⟨q.1, Pr_cg q.2⟩, va_recv (ci := 0) (q0 := 2) hK hP rfl (Q_l hRc), fun U hU hW => ⟨rfl, Pr_mk hE hRc hRr hRo hP hD hS hU hW⟩⟩ rfl rfl hl.1 rfl (lv_room (Nat.le_of_ble_eq_true rfl)) dJx4a65c_add_72be8_7 ⟨(Nat.le_of_ble_eq_true rfl), (Nat.le_of_ble_eq_true rfl)⟩) hS (fun q9 H locs wl _ hRc hRr hRo hP hD hS => ?_)
    refine lv_astore_n (lv' := [(2, .ref q9), (0, .ref (G 2)), (1, .ref (c 38 1)), (3, .int (nI (c 30 0)))]) hx hb dJx4a65c_add_72be8_10 rfl hl (by decide) rfl (fun ls hl => ?_)
    have hnc := ncap_le c
    exact tail _ q9 (ncap c) 1 2000 rfl (by omega) (by omega) (by decide) (by decide) _ _ _ _ hRc hRr hRo hP hD hS hl
set_option maxHeartbeats 4000000 in
set_option maxRecDepth 100000 in
theorem k_Jx4a65c_add_9ea2d (l : Launch) (D : va_G) (G : Nat → Nat) (h0 : Nat) (c r : Nat → Nat → Nat) (o : Nat) (a b w : Nat) (hf : c 38 0 = 1) (ha : c 38 2 = a + 1) (hb2 : c 38 3 = b + 1) (hw : c 38 4 = w) (h1 : c 30 0 ≤ c 36 0) (h2 : c 36 0 ≤ 2 * c 30 0 + 10) (hcap : c 36 0 ≤ 1200) : Met l yJx4a65c_add_9ea2d wsJx4a65c_add_9ea2d ({ frames := 6, cells := 1, slots := 2000, locals := 170 } : Room) (va_Pc [.ref (G 2), .ref (c 38 1)] (fun U => Pr D G h0 c r o U)) (va_Qi (fun (v9 : Int32) (u9 : Nat → Nat → Nat) => ∃ q N, u9 = c_app (up2 (up2 (up2 c 37 0 (c 37 0 + 1)) 35 0 q) 36 0 N) a b w ∧ c 30 0 < N ∧ N ≤ 2 * (c 30 0 + 1) + 10) (fun u9 t => Wr D G h0 u9 r o t) (fun q => h0 ≤ q)) 1 2000 (fun q => h0 ≤ q) := by
  refine Met.ofW (cc := cJx4a65c_add_9ea2d) (maxL := 2) (ret := (some .boolean)) (by decide) rfl ?_
  intro p e s m args below meth cd s₁ B hml hv
  obtain ⟨rfl, hE, wl, hRc, hRr, hRo, hP, hD⟩ := hv
  have hx := B.exec
  have hb := B.bytes
  have hr := B.returns
  have hts := atoms_spec (ws := wsJx4a65c_add_9ea2d) B.pre
  have hown : s.vm.findClass RJx4a65c = some m.cls := findClass_of_methodNamed B.named
  have hlocks := B.notSynchronized
  have hK := hE.2.1
  have hS : va_S (fun q => h0 ≤ q) s.heap s.heap [] := va_S.rf
  have hA : ∀ q : Nat, s.heap.size ≤ q → h0 ≤ q := fun q h => Nat.le_trans hE.1 h
  have hl := lv_entry ([.ref (G 2), .ref (c 38 1)]) (n := 2) (Nat.le_of_ble_eq_true rfl)
  rw [lg_entry_eq]
  generalize (lg_sl ([.ref (G 2), .ref (c 38 1)]) ++ List.replicate (2 - (lg_sl ([.ref (G 2), .ref (c 38 1)])).length) Slot.unset).toArray = ls at hl ⊢
  have hl : lv_has ls 2 [(0, .ref (G 2)), (1, .ref (c 38 1))] := hl
  have inL : ∀ w ∈ wsJx4a65c0, w ∈ wsJx4a65c_add_9ea2d := by decide +kernel
  refine lv_aload_n hx hb dJx4a65c_add_9ea2d_0 rfl (lv_at hl 0 rfl) ?_
  refine lv_dup hx hb dJx4a65c_add_9ea2d_1 rfl ?_
  refine va_get (D := D) (ci := 0) (v := .int (nI (c 37 0))) (C := RJx4a65c) (T := TJx4a65c) (N := 3) hx hb hts inL hown hK hP 2 (Q_l hRc) rfl 0 (by decide) (hts (.fieldLink RJx4a65c 63 "java/util/ArrayList" "modCount" "I") (by decide +kernel)) (fun x9 h9 => u_same (hts (.sameField "java/util/ArrayList" "java/util/AbstractList" "modCount" "I") (by decide +kernel)) x9 h9) rfl dJx4a65c_add_9ea2d_2 ?_
  refine lv_iconst (v := nI 1) hx hb dJx4a65c_add_9ea2d_5 (by decide) ?_
  refine n_iadd hx hb dJx4a65c_add_9ea2d_6 ?_
  refine x_put (D := D) (G := G) (ci := 0) (ty := .int) (C := RJx4a65c) (T := TJx4a65c) (N := 3) (Z := fun wl => Rc G (up2 c 37 0 (c 37 0 + 1)) wl ∧ Rr G r wl ∧ Ro G o wl) hx hb hts inL tyJx4a65c tyJx4a65c_ok nmJx4a65c hown hK hP hD hS 2 (Q_l hRc) rfl 0 (by decide) (hts (.fieldLink RJx4a65c 63 "java/util/ArrayList" "modCount" "I") (by decide +kernel)) (fun x9 h9 => u_same (hts (.sameField "java/util/ArrayList" "java/util/AbstractList" "modCount" "I") (by decide +kernel)) x9 h9) rfl (by decide +kernel) rfl rfl (Nat.le_of_ble_eq_true rfl) dJx4a65c_add_9ea2d_7 ⟨P_l0 (c 37 0 + 1) hRc, Rr_fr hRr (by decide), Ro_fr hRo (by decide)⟩ (fun H locs wl hZ hP hD hS => ?_)
  obtain ⟨hRc, hRr, hRo⟩ := hZ
  refine lv_aload_n hx hb dJx4a65c_add_9ea2d_10 rfl (lv_at hl 0 rfl) ?_
  refine lv_aload_n hx hb dJx4a65c_add_9ea2d_11 rfl (lv_at hl 1 rfl) ?_
  refine lv_aload_n hx hb dJx4a65c_add_9ea2d_12 rfl (lv_at hl 0 rfl) ?_
  refine va_get (D := D) (ci := 0) (v := .ref (c 35 0)) (C := RJx4a65c) (T := TJx4a65c) (N := 3) hx hb hts inL hown hK hP 2 (Q_l hRc) rfl 1 (by decide) (hts (.fieldLink RJx4a65c 9 "java/util/ArrayList" "elementData" "[Ljava/lang/Object;") (by decide +kernel)) (fun _ h9 => h9) rfl dJx4a65c_add_9ea2d_13 ?_
  refine lv_aload_n hx hb dJx4a65c_add_9ea2d_16 rfl (lv_at hl 0 rfl) ?_
  refine va_get (D := D) (ci := 0) (v := .int (nI (c 30 0))) (C := RJx4a65c) (T := TJx4a65c) (N := 3) hx hb hts inL hown hK hP 2 (Q_l hRc) rfl 2 (by decide) (hts (.fieldLink RJx4a65c 48 "java/util/ArrayList" "size" "I") (by decide +kernel)) (fun _ h9 => h9) rfl dJx4a65c_add_9ea2d_17 ?_
  refine y_callv (va_runV (As := [.ref (c 38 1), .ref (c 35 0), .int (nI (c 30 0))]) (rest := []) ⟨hx, hb, hml, hown, hts⟩ (k_Jx4a65c_add_72be8 l D G h0 (up2 c 37 0 (c 37 0 + 1)) r o a b w hf ha hb2 hw h1 h2 hcap) (cwV 3 hts gJx4a65c_add_9ea2d_Jx4a65c_add_72be8 rfl rfl rfl (by decide +kernel) ⟨(Nat.le_of_ble_eq_true rfl), (Nat.le_of_ble_eq_true rfl)⟩) ⟨fun a U g mk q => ⟨q.1, Pr_cg q.2⟩, va_recv (ci := 0) (q0 := 2) hK hP rfl (Q_l hRc), fun U hU hW => ⟨rfl, Pr_mk hE hRc hRr hRo hP hD hS hU hW⟩⟩ rfl rfl hl.1 rfl (lv_room (Nat.le_of_ble_eq_true rfl)) dJx4a65c_add_9ea2d_20 ⟨(Nat.le_of_ble_eq_true rfl), (Nat.le_of_ble_eq_true rfl)⟩) hS (fun u9 H locs wl hu hRc hRr hRo hP hD hS => ?_)
  refine lv_iconst (v := nI 1) hx hb dJx4a65c_add_9ea2d_23 (by decide) ?_
  exact W.zret (v := nI 1) (ty := .boolean) hx hb hr (nb_le (by decide)) (fun t ht hW => ⟨⟨_, u9, rfl, hu, Wr_mk hRc hRr hRo hP hD ht⟩, hS.F ht⟩) hS.2.2 dJx4a65c_add_9ea2d_24
