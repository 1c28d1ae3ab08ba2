abbrev uI (u : Nat) : List Value := [.int (nI u), .int (nI 1), .int (nI 0), .int (nI 10), .int (nI 0), .int (nI 0), .null, .int (nI 0), .int (nI 0), .int (nI 0), .int (nI 0), .int (nI 0), .int (nI 0)]
abbrev bW (q qr ql : Nat) (G : Nat → Nat) (f : Nat → Nat) (i : Nat) : va_W := [(q, .inr (3, [.ref qr, .int (nI 0), .ref ql, .int (nI 0), .int (nI 0), .int (nI 0), .int (nI 0)])), (qr, .inl (G 60, 20, .inr (.inr (.inr (.inr (fun j => if j < i then some (f j) else none)))))), (ql, .inr (0, [.int (nI 0), .ref (G 70), .int 0]))] ++ (List.range i).map (fun u => (f u, .inr (1, uI u)))
theorem K_equ {D : va_G} {G : Nat → Nat} {s : State} {cA : ClassId} (h : va_K D vwCl (tyL G ++ [(cA, .object "BootStage$Unit")]) s) : cA = G 60 := by
  obtain ⟨_, _, _, _, _, e1⟩ := (h.2 0 (G 60, .object "BootStage$Unit") rfl).2
  obtain ⟨_, _, _, _, _, e2⟩ := (h.2 3 (cA, .object "BootStage$Unit") rfl).2
  exact Option.some.inj (e2.symm.trans e1)
theorem set_last {w : va_W} {x y : Nat × va_E} : (w ++ [x]).set w.length y = w ++ [y] := by simp
theorem get_last {w : va_W} {x : Nat × va_E} : (w ++ [x])[w.length]? = some x := by simp
theorem bW_step {q qr ql qu i : Nat} {G f : Nat → Nat} (hi : i < 20) : (bW q qr ql G f i ++ [((qu, .inr (1, uI i)) : Nat × va_E)]).set 1 (qr, .inl (G 60, 20, .inr (.inr (.inr (.inr (va_up (fun j => if j < i then some (f j) else none) (nI i).toNatClampNeg (some qu))))))) = bW q qr ql G (fun j => if j = i then qu else f j) (i + 1) := by
  have e1 : va_up (fun j => if j < i then some (f j) else none) (nI i).toNatClampNeg (some qu) = (fun j => if j < i + 1 then some ((fun j => if j = i then qu else f j) j) else none) := by
    funext j
    unfold va_up
    rw [nI_clamp (by omega)]
    show (if j = i then some qu else if j < i then some (f j) else none) = (if j < i + 1 then some (if j = i then qu else f j) else none)
    by_cases h : j = i
    · rw [if_pos h, if_pos (by omega), if_pos h]
    · rw [if_neg h, if_neg h]
      by_cases h2 : j < i
      · rw [if_pos h2, if_pos (by omega)]
      · rw [if_neg h2, if_neg (by omega)]
  have e2 : (List.range i).map (fun u => ((f u, .inr (1, uI u)) : Nat × va_E)) = (List.range i).map (fun u => (((fun j => if j = i then qu else f j) u, .inr (1, uI u)) : Nat × va_E)) := by
    refine List.map_congr_left (fun u hu => ?_)
    have : u < i := List.mem_range.mp hu
    show (f u, _) = (if u = i then qu else f u, _)
    rw [if_neg (by omega)]
  unfold bW
  rw [e1, List.range_succ, List.map_append, ← e2]
  simp
set_option maxHeartbeats 8000000 in
set_option maxRecDepth 100000 in
theorem k_X2_init (l : Launch) (D : va_G) (G : Nat → Nat) (h0 q : Nat) : Met l yX2_init wsX2_init ({ frames := 4, cells := 22, slots := 283, locals := 100 } : Room) (va_Pc [.ref q] (fun U => Pw D G h0 [(q, .inr (3, [.null, .int 0, .null, .int 0, .int 0, .int 0, .int 0]))] U)) (va_Qv (fun (_ : Nat × Nat × (Nat → Nat)) => True) (fun z t => Ww D h0 (bW q z.1 z.2.1 G z.2.2 20) t) (fun q => h0 ≤ q)) 22 283 (fun q => h0 ≤ q) := by
  refine Met.ofW (cc := cX2_init) (maxL := 2) (ret := none) (by decide) rfl ?_
  intro p e s m args below meth cd s₁ B hml hv
  obtain ⟨rfl, hE, hP, hD⟩ := hv
  have hx := B.exec
  have hb := B.bytes
  have hr := B.returns
  have hts := atoms_spec (ws := wsX2_init) B.pre
  have hown : s.vm.findClass RX2 = some m.cls := findClass_of_methodNamed B.named
  have hlocks := B.notSynchronized
  have hK := hE.2.1
  have hin : meth.name = "<init>" := (name_of_methodNamed B.named B.method).1
  have hS : va_S (fun q => h0 ≤ q) s.heap s.heap [] := va_S.rf
  have hA : ∀ q : Nat, s.heap.size ≤ q → h0 ≤ q := fun q h => Nat.le_trans hE.1 h
  have hl := lv_entry ([.ref q]) (n := 2) (Nat.le_of_ble_eq_true rfl)
  rw [lg_entry_eq]
  generalize (lg_sl ([.ref q]) ++ List.replicate (2 - (lg_sl ([.ref q])).length) Slot.unset).toArray = ls at hl ⊢
  have hl : lv_has ls 2 [(0, .ref q)] := hl
  have inX2 : ∀ w ∈ wsX20, w ∈ wsX2_init := by decide +kernel
  have inX0 : ∀ w ∈ wsX00, w ∈ wsX2_init := by decide +kernel
  have inJx4a65c : ∀ w ∈ wsJx4a65c0, w ∈ wsX2_init := by decide +kernel
  obtain ⟨Q, hQ⟩ : ∃ Q, Q = MQ below (va_Qv (fun (_ : Nat × Nat × (Nat → Nat)) => True) (fun z t => Ww D h0 (bW q z.1 z.2.1 G z.2.2 20) t) (fun q => h0 ≤ q)) ([.ref q] : List Value).toArray s 22 283 (fun q => h0 ≤ q) := ⟨_, rfl⟩
  rw [← hQ]
  refine lv_aload_n hx hb dX2_init_0 rfl (lv_at hl 0 rfl) ?_
  refine W.objInit hx hb hown (hts (.methodLink RX2 1 objectInit) (by decide +kernel)) (hts (.instanceMethod objectInit) (by decide +kernel)) (hts (.code objectInit ⟨#[0xb1]⟩ 1 none) (by decide +kernel)) rfl (by rw [hml]; exact hl.1) rfl dX2_init_1 (Nat.le_of_ble_eq_true rfl) (Nat.le_of_ble_eq_true rfl) ?_
  refine W.eq (g2 := F0 m 4 ls []) rfl ?_
  refine lv_aload_n hx hb dX2_init_4 rfl (lv_at hl 0 rfl) ?_
  refine lv_bipush (v := nI 20) hx hb dX2_init_5 (by decide) ?_
  refine va_newq (C := "BootStage$Unit") (N' := 20) hx hb hown (hts (.classLink RX2 9 "BootStage$Unit") (by decide +kernel)) hE.2.2.2.2.2.2.1 hK hP hD hS hA (nI_pos (by decide)) (nI_clamp (by decide)) (by decide) (Nat.le_of_ble_eq_true rfl) (Nat.le_of_ble_eq_true rfl) dX2_init_7 (fun qr cA H hK2 hP hD hS => ?_)
  have hcA := K_equ hK2
  subst hcA
  refine x_putF (D := D) (ci := 3) (ty := .array (.object "BootStage$Unit")) (C := RX2) (T := TX2) (N := 7) (Z := fun w => w = [(q, .inr (3, [.ref qr, .int 0, .null, .int 0, .int 0, .int 0, .int 0])), (qr, .inl (G 60, 20, .inr (.inr (.inr (.inr (fun _ => none))))))]) hx hb hts inX2 tyX2 tyX2_ok nmX2 hown hK hP hD hS 0 rfl rfl 0 (by decide) (hts (.fieldLink RX2 11 "BootStage" "rows" "[LBootStage$Unit;") (by decide +kernel)) (fun _ h9 => h9) rfl hin rfl (by decide +kernel) rfl rfl (Nat.le_of_ble_eq_true rfl) dX2_init_10 rfl (fun H locs w9 hZ hP hD hS => ?_)
  subst hZ
  refine lv_aload_n hx hb dX2_init_13 rfl (lv_at hl 0 rfl) ?_
  refine lv_iconst (v := nI 0) hx hb dX2_init_14 (by decide) ?_
  refine x_put (D := D) (G := G) (ci := 3) (ty := .int) (C := RX2) (T := TX2) (N := 7) (Z := fun w => w = [(q, .inr (3, [.ref qr, .int (nI 0), .null, .int 0, .int 0, .int 0, .int 0])), (qr, .inl (G 60, 20, .inr (.inr (.inr (.inr (fun _ => none))))))]) hx hb hts inX2 tyX2 tyX2_ok nmX2 hown hK hP hD hS 0 rfl rfl 1 (by decide) (hts (.fieldLink RX2 15 "BootStage" "count" "I") (by decide +kernel)) (fun _ h9 => h9) rfl (by decide +kernel) rfl rfl (Nat.le_of_ble_eq_true rfl) dX2_init_15 rfl (fun H locs w9 hZ hP hD hS => ?_)
  subst hZ
  refine lv_aload_n hx hb dX2_init_18 rfl (lv_at hl 0 rfl) ?_
  refine va_new (ci := 0) (fs := [.int 0, .null, .int 0]) (C := RJx4a65c) (T := TJx4a65c) (N := 3) hx hb hts inJx4a65c tyJx4a65c tyJx4a65c_ok hown (hts (.classLink RX2 19 RJx4a65c) (by decide +kernel)) (hts (.instantiable RJx4a65c 3) (by decide +kernel)) (hts (.initialized RJx4a65c) (by decide +kernel)) hK hP hD hS hA rfl (fun j hj => by rcases (show j = 0 ∨ j = 1 ∨ j = 2 by omega) with rfl | rfl | rfl <;> rfl) (Nat.le_of_ble_eq_true rfl) (Nat.le_of_ble_eq_true rfl) dX2_init_19 (fun ql H hP hD hS => ?_)
  refine lv_dup hx hb dX2_init_22 rfl ?_
  have hP : va_P D vwCl [(q, .inr (3, [.ref qr, .int (nI 0), .null, .int 0, .int 0, .int 0, .int 0])), (qr, .inl (G 60, 20, .inr (.inr (.inr (.inr (fun _ => none)))))), (ql, .inr (0, [.int 0, .null, .int 0]))] H := hP
  have hD : va_D (fun q => h0 ≤ q) [(q, .inr (3, [.ref qr, .int (nI 0), .null, .int 0, .int 0, .int 0, .int 0])), (qr, .inl (G 60, 20, .inr (.inr (.inr (.inr (fun _ => none)))))), (ql, .inr (0, [.int 0, .null, .int 0]))] := hD
  refine w_callv (va_runI (As := []) (rest := [.ref ql, .ref q]) ⟨hx, hb, hml, hown, hts⟩ (k_JA_init l D G h0 [(q, .inr (3, [.ref qr, .int (nI 0), .null, .int 0, .int 0, .int 0, .int 0])), (qr, .inl (G 60, 20, .inr (.inr (.inr (.inr (fun _ => none)))))), (ql, .inr (0, [.int 0, .null, .int 0]))] 2 ql rfl) (cwI 0 hts gX2_init_Jx4a65c_init_da8c8 rfl rfl rfl (hts (.initialized RJx4a65c) (by decide +kernel)) (hts (.methodLink RX2 21 yJx4a65c_init_da8c8) (by decide +kernel)) (hts (.instanceMethod yJx4a65c_init_da8c8) (by decide +kernel)) rfl (by decide +kernel) ⟨(Nat.le_of_ble_eq_true rfl), (Nat.le_of_ble_eq_true rfl)⟩) ⟨fun a U g mk q => ⟨q.1, Pw_cg q.2⟩, fun U hU hW => ⟨rfl, Pw_mk hE hP hD hS hU hW⟩⟩ rfl rfl hl.1 rfl (lv_room (Nat.le_of_ble_eq_true rfl)) dX2_init_23 ⟨(Nat.le_of_ble_eq_true rfl), (Nat.le_of_ble_eq_true rfl)⟩) hS (fun H locs hP hD hS => ?_)
  have hP : va_P D vwCl [(q, .inr (3, [.ref qr, .int (nI 0), .null, .int 0, .int 0, .int 0, .int 0])), (qr, .inl (G 60, 20, .inr (.inr (.inr (.inr (fun _ => none)))))), (ql, .inr (0, [.int (nI 0), .ref (G 70), .int 0]))] H := hP
  have hD : va_D (fun q => h0 ≤ q) [(q, .inr (3, [.ref qr, .int (nI 0), .null, .int 0, .int 0, .int 0, .int 0])), (qr, .inl (G 60, 20, .inr (.inr (.inr (.inr (fun _ => none)))))), (ql, .inr (0, [.int (nI 0), .ref (G 70), .int 0]))] := hD
  refine x_putF (D := D) (ci := 3) (ty := .object "java/util/ArrayList") (C := RX2) (T := TX2) (N := 7) (Z := fun w => w = [(q, .inr (3, [.ref qr, .int (nI 0), .ref ql, .int 0, .int 0, .int 0, .int 0])), (qr, .inl (G 60, 20, .inr (.inr (.inr (.inr (fun _ => none)))))), (ql, .inr (0, [.int (nI 0), .ref (G 70), .int 0]))]) hx hb hts inX2 tyX2 tyX2_ok nmX2 hown hK hP hD hS 0 rfl rfl 2 (by decide) (hts (.fieldLink RX2 22 "BootStage" "wishes" "Ljava/util/ArrayList;") (by decide +kernel)) (fun _ h9 => h9) rfl hin rfl (by decide +kernel) rfl rfl (Nat.le_of_ble_eq_true rfl) dX2_init_26 rfl (fun H locs w9 hZ hP hD hS => ?_)
  subst hZ
  refine lv_aload_n hx hb dX2_init_29 rfl (lv_at hl 0 rfl) ?_
  refine lv_iconst (v := nI 0) hx hb dX2_init_30 (by decide) ?_
  refine x_put (D := D) (G := G) (ci := 3) (ty := .boolean) (C := RX2) (T := TX2) (N := 7) (Z := fun w => w = [(q, .inr (3, [.ref qr, .int (nI 0), .ref ql, .int (nI 0), .int 0, .int 0, .int 0])), (qr, .inl (G 60, 20, .inr (.inr (.inr (.inr (fun _ => none)))))), (ql, .inr (0, [.int (nI 0), .ref (G 70), .int 0]))]) hx hb hts inX2 tyX2 tyX2_ok nmX2 hown hK hP hD hS 0 rfl rfl 3 (by decide) (hts (.fieldLink RX2 26 "BootStage" "isGoingOn" "Z") (by decide +kernel)) (fun _ h9 => h9) rfl (by decide +kernel) (nb_le (by decide)) (nb_ft (by decide)) (Nat.le_of_ble_eq_true rfl) dX2_init_31 rfl (fun H locs w9 hZ hP hD hS => ?_)
  subst hZ
  refine lv_aload_n hx hb dX2_init_34 rfl (lv_at hl 0 rfl) ?_
  refine lv_iconst (v := nI 0) hx hb dX2_init_35 (by decide) ?_
  refine x_put (D := D) (G := G) (ci := 3) (ty := .int) (C := RX2) (T := TX2) (N := 7) (Z := fun w => w = [(q, .inr (3, [.ref qr, .int (nI 0), .ref ql, .int (nI 0), .int (nI 0), .int 0, .int 0])), (qr, .inl (G 60, 20, .inr (.inr (.inr (.inr (fun _ => none)))))), (ql, .inr (0, [.int (nI 0), .ref (G 70), .int 0]))]) hx hb hts inX2 tyX2 tyX2_ok nmX2 hown hK hP hD hS 0 rfl rfl 4 (by decide) (hts (.fieldLink RX2 30 "BootStage" "bound" "I") (by decide +kernel)) (fun _ h9 => h9) rfl (by decide +kernel) rfl rfl (Nat.le_of_ble_eq_true rfl) dX2_init_36 rfl (fun H locs w9 hZ hP hD hS => ?_)
  subst hZ
  refine lv_aload_n hx hb dX2_init_39 rfl (lv_at hl 0 rfl) ?_
  refine lv_iconst (v := nI 0) hx hb dX2_init_40 (by decide) ?_
  refine x_put (D := D) (G := G) (ci := 3) (ty := .int) (C := RX2) (T := TX2) (N := 7) (Z := fun w => w = [(q, .inr (3, [.ref qr, .int (nI 0), .ref ql, .int (nI 0), .int (nI 0), .int (nI 0), .int 0])), (qr, .inl (G 60, 20, .inr (.inr (.inr (.inr (fun _ => none)))))), (ql, .inr (0, [.int (nI 0), .ref (G 70), .int 0]))]) hx hb hts inX2 tyX2 tyX2_ok nmX2 hown hK hP hD hS 0 rfl rfl 5 (by decide) (hts (.fieldLink RX2 33 "BootStage" "total" "I") (by decide +kernel)) (fun _ h9 => h9) rfl (by decide +kernel) rfl rfl (Nat.le_of_ble_eq_true rfl) dX2_init_41 rfl (fun H locs w9 hZ hP hD hS => ?_)
  subst hZ
  refine lv_aload_n hx hb dX2_init_44 rfl (lv_at hl 0 rfl) ?_
  refine lv_iconst (v := nI 0) hx hb dX2_init_45 (by decide) ?_
  refine x_put (D := D) (G := G) (ci := 3) (ty := .int) (C := RX2) (T := TX2) (N := 7) (Z := fun w => w = [(q, .inr (3, [.ref qr, .int (nI 0), .ref ql, .int (nI 0), .int (nI 0), .int (nI 0), .int (nI 0)])), (qr, .inl (G 60, 20, .inr (.inr (.inr (.inr (fun _ => none)))))), (ql, .inr (0, [.int (nI 0), .ref (G 70), .int 0]))]) hx hb hts inX2 tyX2 tyX2_ok nmX2 hown hK hP hD hS 0 rfl rfl 6 (by decide) (hts (.fieldLink RX2 36 "BootStage" "reachedBar" "I") (by decide +kernel)) (fun _ h9 => h9) rfl (by decide +kernel) rfl rfl (Nat.le_of_ble_eq_true rfl) dX2_init_46 rfl (fun H locs w9 hZ hP hD hS => ?_)
  subst hZ
  refine lv_iconst (v := nI 0) hx hb dX2_init_49 (by decide) ?_
  refine lv_istore_n (lv' := [(1, .int (nI 0)), (0, .ref q)]) hx hb dX2_init_50 rfl hl (by decide) rfl (fun ls hl => ?_)
  have LP : ∀ (n i : Nat) (f : Nat → Nat), i ≤ 20 → 20 < i + n → ∀ (H : Heap) (locs : List Loc) (ls : Array Slot), va_P D vwCl (bW q qr ql G f i) H → va_D (fun q => h0 ≤ q) (bW q qr ql G f i) → va_S (fun q => h0 ≤ q) s.heap H locs → lv_has ls 2 [(1, .int (nI i)), (0, .ref q)] → W p l e (headSpec wsX2_init ({ frames := 4, cells := 22, slots := 283, locals := 100 } : Room)).room s m ([.ref q] : List Value).toArray below meth cd H locs (2 + i) (23 + 13 * i) Q (F0 m 51 ls []) := by
    intro n
    induction n with
    | zero => intro i f h1 h2; exact absurd h2 (by omega)
    | succ n ih =>
      intro i f hi hin2 H locs ls hP hD hS hl
      refine lv_iload_n hx hb dX2_init_51 rfl (lv_at hl 0 rfl) ?_
      refine lv_bipush (v := nI 20) hx hb dX2_init_52 (by decide) ?_
      refine n_icmp_ge (tgt := 77) hx hb dX2_init_54 (by decide) (by omega) (by decide) (fun c0 => ?_) (fun c0 => ?_)
      · have hi20 : i = 20 := by omega
        subst hi20
        rw [hQ]
        exact W.vret hx hb hr (fun t ht hW => ⟨⟨(qr, ql, f), rfl, trivial, Ww_mk hP hD ht⟩, hS.F ht⟩) hS.2.2 dX2_init_77
      · refine lv_aload_n hx hb dX2_init_57 rfl (lv_at hl 1 rfl) ?_
        refine va_get (D := D) (ci := 3) (v := .ref qr) (C := RX2) (T := TX2) (N := 7) hx hb hts inX2 hown hK hP 0 rfl rfl 0 (by decide) (hts (.fieldLink RX2 11 "BootStage" "rows" "[LBootStage$Unit;") (by decide +kernel)) (fun _ h9 => h9) rfl dX2_init_58 ?_
        refine lv_iload_n hx hb dX2_init_61 rfl (lv_at hl 0 rfl) ?_
        refine va_new (ci := 1) (fs := [.int 0, .int 0, .int 0, .int 0, .int 0, .int 0, .null, .int 0, .int 0, .int 0, .int 0, .int 0, .int 0]) (C := RX0) (T := TX0) (N := 13) hx hb hts inX0 tyX0 tyX0_ok hown (hts (.classLink RX2 9 RX0) (by decide +kernel)) (hts (.instantiable RX0 13) (by decide +kernel)) (hts (.initialized RX0) (by decide +kernel)) hK hP hD hS hA rfl (fun j hj => by rcases (show j = 0 ∨ j = 1 ∨ j = 2 ∨ j = 3 ∨ j = 4 ∨ j = 5 ∨ j = 6 ∨ j = 7 ∨ j = 8 ∨ j = 9 ∨ j = 10 ∨ j = 11 ∨ j = 12 by omega) with rfl | rfl | rfl | rfl | rfl | rfl | rfl | rfl | rfl | rfl | rfl | rfl | rfl <;> rfl) (show 2 + i + 1 ≤ 22 by omega) (show 23 + 13 * i + 13 ≤ 283 by omega) dX2_init_62 (fun qu H hP hD hS => ?_)
        refine lv_dup hx hb dX2_init_65 rfl ?_
        refine lv_iload_n hx hb dX2_init_66 rfl (lv_at hl 0 rfl) ?_
        refine w_callv (va_runI (As := [.int (nI i)]) (rest := [.ref qu, .int (nI i), .ref qr]) ⟨hx, hb, hml, hown, hts⟩ (k_X0_init l D G h0 (bW q qr ql G f i ++ [(qu, .inr (1, [.int 0, .int 0, .int 0, .int 0, .int 0, .int 0, .null, .int 0, .int 0, .int 0, .int 0, .int 0, .int 0]))]) (bW q qr ql G f i).length qu i get_last) (cwI 1 hts gX2_init_X0_init rfl rfl rfl (hts (.initialized RX0) (by decide +kernel)) (hts (.methodLink RX2 39 yX0_init) (by decide +kernel)) (hts (.instanceMethod yX0_init) (by decide +kernel)) rfl (by decide +kernel) ⟨(Nat.le_of_ble_eq_true rfl), (Nat.le_of_ble_eq_true rfl)⟩) ⟨fun a U g mk q => ⟨q.1, Pw_cg q.2⟩, fun U hU hW => ⟨rfl, Pw_mk hE hP hD hS hU hW⟩⟩ rfl rfl hl.1 rfl (lv_room (Nat.le_of_ble_eq_true rfl)) dX2_init_67 ⟨(show 2 + i + 1 + 0 ≤ 22 by omega), (show 23 + 13 * i + 13 + 0 ≤ 283 by omega)⟩) hS (fun H locs hP hD hS => ?_)
        rw [set_last] at hP hD
        refine va_astq hx hb hK hP hD hS 1 0 (bW q qr ql G f i).length 1 (r := (RX0, TX0, 13)) rfl rfl get_last rfl (vp_in_nI (by omega) (by decide)) dX2_init_70 (fun H locs hP hD hS => ?_)
        rw [bW_step (by omega)] at hP hD
        refine lv_iinc (v := nI (i + 1)) (lv' := [(1, .int (nI (i + 1))), (0, .ref q)]) hx hb dX2_init_71 hl (k := 0) rfl (nI_add i 1) (by decide) rfl (fun ls hl => ?_)
        refine lv_goto (tgt := 51) hx hb dX2_init_74 (by decide) ?_
        refine W.widen (k := 2 + (i + 1)) (n := 23 + 13 * (i + 1)) (by omega) (by omega) ?_
        exact ih (i + 1) _ (by omega) (by omega) H locs ls hP hD hS hl
  have e0 : (fun _ : Nat => (none : Option Nat)) = (fun j => if j < 0 then some ((fun _ : Nat => (0 : Nat)) j) else none) := by
    funext j
    rw [if_neg (Nat.not_lt_zero j)]
  rw [e0] at hP hD
  exact LP 21 0 (fun _ => 0) (by omega) (by omega) H locs ls hP hD hS hl
