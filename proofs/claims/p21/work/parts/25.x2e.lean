set_option maxHeartbeats 4000000 in
set_option maxRecDepth 100000 in
theorem k_X1_init (l : Launch) (D : va_G) (G : Nat → Nat) (h0 : Nat) (c r : Nat → Nat → Nat) (o : Nat) (a b w : Nat) (hf : c 38 0 = 1) : Met l yX1_init wsX1_init ({ frames := 1, cells := 0, slots := 0, locals := 12 } : Room) (va_Pc [.ref (c 38 1), .ref (G (20 + a)), .ref (G (20 + b)), .int (nI w)] (fun U => Pr D G h0 c r o U)) (va_Qv (fun (_ : Unit) => True) (fun _ t => Wr D G h0 (up2 (up2 (up2 c 38 2 (a + 1)) 38 3 (b + 1)) 38 4 w) r o t) (fun q => h0 ≤ q)) 0 0 (fun q => h0 ≤ q) := by
  refine Met.ofW (cc := cX1_init) (maxL := 4) (ret := none) (by decide) rfl ?_
  intro p e s m args below meth cd s₁ B hml hv
  obtain ⟨rfl, hE, wl, hRc, hRr, hRo, hP, hD⟩ := hv
  have hx := B.exec
  have hb := B.bytes
  have hr := B.returns
  have hts := atoms_spec (ws := wsX1_init) B.pre
  have hown : s.vm.findClass RX1 = some m.cls := findClass_of_methodNamed B.named
  have hlocks := B.notSynchronized
  have hK := hE.2.1
  have hS : va_S (fun q => h0 ≤ q) s.heap s.heap [] := va_S.rf
  have hA : ∀ q : Nat, s.heap.size ≤ q → h0 ≤ q := fun q h => Nat.le_trans hE.1 h
  have hl := lv_entry ([.ref (c 38 1), .ref (G (20 + a)), .ref (G (20 + b)), .int (nI w)]) (n := 4) (Nat.le_of_ble_eq_true rfl)
  rw [lg_entry_eq]
  generalize (lg_sl ([.ref (c 38 1), .ref (G (20 + a)), .ref (G (20 + b)), .int (nI w)]) ++ List.replicate (4 - (lg_sl ([.ref (c 38 1), .ref (G (20 + a)), .ref (G (20 + b)), .int (nI w)])).length) Slot.unset).toArray = ls at hl ⊢
  have hl : lv_has ls 4 [(0, .ref (c 38 1)), (1, .ref (G (20 + a))), (2, .ref (G (20 + b))), (3, .int (nI w))] := hl
  have hin : meth.name = "<init>" := (name_of_methodNamed B.named B.method).1
  have inX1 : ∀ w ∈ wsX10, w ∈ wsX1_init := by decide +kernel
  refine lv_aload_n hx hb dX1_init_0 rfl (lv_at hl 0 rfl) ?_
  refine W.objInit hx hb hown (hts (.methodLink RX1 1 objectInit) (by decide +kernel)) (hts (.instanceMethod objectInit) (by decide +kernel)) (hts _ (List.mem_cons_of_mem _ (List.mem_append_left _ (List.mem_of_getElem? (i := 2) rfl)))) rfl (by rw [hml]; exact hl.1) rfl dX1_init_1 (Nat.le_of_ble_eq_true rfl) (Nat.le_of_ble_eq_true rfl) ?_
  refine W.eq (g2 := F0 m 4 ls []) rfl ?_
  refine lv_aload_n hx hb dX1_init_4 rfl (lv_at hl 0 rfl) ?_
  refine lv_aload_n hx hb dX1_init_5 rfl (lv_at hl 1 rfl) ?_
  obtain ⟨i, hi, hq⟩ := Q_x hRc (show _ = 1 from hf)
  refine x_putF (D := D) (ci := 2) (ty := .object "BootStage$Unit") (C := RX1) (T := TX1) (N := 3) (Z := fun wl => Rc G (up2 c 38 2 (a + 1)) wl ∧ Rr G r wl ∧ Ro G o wl) hx hb hts inX1 tyX1 tyX1_ok nmX1 hown hK hP hD hS i hq rfl 0 (by decide) (hts (.fieldLink RX1 7 "BootStage$Wish" "wishing" "LBootStage$Unit;") (by decide +kernel)) (fun _ h9 => h9) rfl hin rfl (by decide +kernel) rfl rfl (Nat.le_of_ble_eq_true rfl) dX1_init_6 ⟨P_x (v := a + 1) (Or.inl rfl) (fun _ => (sbV_s G rfl).symm) (fun z => by cases z) hf hi hq hRc, Rr_fr hRr (by omega), Ro_fr hRo (by omega)⟩ (fun H locs wl hZ hP hD hS => ?_)
  obtain ⟨hRc, hRr, hRo⟩ := hZ
  refine lv_aload_n hx hb dX1_init_9 rfl (lv_at hl 0 rfl) ?_
  refine lv_aload_n hx hb dX1_init_10 rfl (lv_at hl 2 rfl) ?_
  obtain ⟨i, hi, hq⟩ := Q_x hRc (show _ = 1 from hf)
  refine x_putF (D := D) (ci := 2) (ty := .object "BootStage$Unit") (C := RX1) (T := TX1) (N := 3) (Z := fun wl => Rc G (up2 (up2 c 38 2 (a + 1)) 38 3 (b + 1)) wl ∧ Rr G r wl ∧ Ro G o wl) hx hb hts inX1 tyX1 tyX1_ok nmX1 hown hK hP hD hS i hq rfl 1 (by decide) (hts (.fieldLink RX1 13 "BootStage$Wish" "wished" "LBootStage$Unit;") (by decide +kernel)) (fun _ h9 => h9) rfl hin rfl (by decide +kernel) rfl rfl (Nat.le_of_ble_eq_true rfl) dX1_init_11 ⟨P_x (v := b + 1) (Or.inr (Or.inl rfl)) (fun _ => (sbV_s G rfl).symm) (fun z => by cases z) hf hi hq hRc, Rr_fr hRr (by omega), Ro_fr hRo (by omega)⟩ (fun H locs wl hZ hP hD hS => ?_)
  obtain ⟨hRc, hRr, hRo⟩ := hZ
  refine lv_aload_n hx hb dX1_init_14 rfl (lv_at hl 0 rfl) ?_
  refine lv_iload_n hx hb dX1_init_15 rfl (lv_at hl 3 rfl) ?_
  obtain ⟨i, hi, hq⟩ := Q_x hRc (show _ = 1 from hf)
  refine x_put (D := D) (G := G) (ci := 2) (ty := .int) (C := RX1) (T := TX1) (N := 3) (Z := fun wl => Rc G (up2 (up2 (up2 c 38 2 (a + 1)) 38 3 (b + 1)) 38 4 w) wl ∧ Rr G r wl ∧ Ro G o wl) hx hb hts inX1 tyX1 tyX1_ok nmX1 hown hK hP hD hS i hq rfl 2 (by decide) (hts (.fieldLink RX1 16 "BootStage$Wish" "weight" "I") (by decide +kernel)) (fun _ h9 => h9) rfl (by decide +kernel) rfl rfl (Nat.le_of_ble_eq_true rfl) dX1_init_16 ⟨P_x (v := w) (Or.inr (Or.inr rfl)) (fun z => by omega) (fun _ => rfl) hf hi hq hRc, Rr_fr hRr (by omega), Ro_fr hRo (by omega)⟩ (fun H locs wl hZ hP hD hS => ?_)
  obtain ⟨hRc, hRr, hRo⟩ := hZ
  exact W.vret hx hb hr (fun t ht hW => ⟨⟨(), rfl, trivial, Wr_mk hRc hRr hRo hP hD ht⟩, hS.F ht⟩) hS.2.2 dX1_init_19
set_option maxHeartbeats 4000000 in
set_option maxRecDepth 100000 in
theorem k_X2_findWish (l : Launch) (D : va_G) (G : Nat → Nat) (h0 : Nat) (c r : Nat → Nat → Nat) (o : Nat) (hI : IC c) (hW5 : c 30 0 ≤ 512) (a b : Nat) (ha : a < 20) (hb2 : b < 20) : Met l yX2_findWish wsX2_findWish ({ frames := 3, cells := 0, slots := 0, locals := 64 } : Room) (va_Pc [.ref (G 0), .ref (G (20 + a)), .ref (G (20 + b))] (fun U => Pr D G h0 c r o U)) (va_Qq (fun (v9 : Option Nat) (_ : Unit) => v9 = wsO c (wfK c a b)) (fun _ t => Wr D G h0 c r o t) (fun q => h0 ≤ q)) 0 0 (fun q => h0 ≤ q) := by
  refine Met.ofW (cc := cX2_findWish) (maxL := 5) (ret := (some (.object "BootStage$Wish"))) (by decide) rfl ?_
  intro p e s m args below meth cd s₁ B hml hv
  obtain ⟨rfl, hE, wl, hRc, hRr, hRo, hP, hD⟩ := hv
  have hx := B.exec
  have hb := B.bytes
  have hr := B.returns
  have hts := atoms_spec (ws := wsX2_findWish) B.pre
  have hown : s.vm.findClass RX2 = some m.cls := findClass_of_methodNamed B.named
  have hlocks := B.notSynchronized
  have hK := hE.2.1
  have hS : va_S (fun q => h0 ≤ q) s.heap s.heap [] := va_S.rf
  have hl := lv_entry ([.ref (G 0), .ref (G (20 + a)), .ref (G (20 + b))]) (n := 5) (Nat.le_of_ble_eq_true rfl)
  rw [lg_entry_eq]
  generalize (lg_sl ([.ref (G 0), .ref (G (20 + a)), .ref (G (20 + b))]) ++ List.replicate (5 - (lg_sl ([.ref (G 0), .ref (G (20 + a)), .ref (G (20 + b))])).length) Slot.unset).toArray = ls at hl ⊢
  have hl : lv_has ls 5 [(0, .ref (G 0)), (1, .ref (G (20 + a))), (2, .ref (G (20 + b)))] := hl
  have inX1 : ∀ w ∈ wsX10, w ∈ wsX2_findWish := by decide +kernel
  have inX2 : ∀ w ∈ wsX20, w ∈ wsX2_findWish := by decide +kernel
  obtain ⟨Q, hQ⟩ : ∃ Q, Q = MQ below (va_Qq (fun (v9 : Option Nat) (_ : Unit) => v9 = wsO c (wfK c a b)) (fun _ t => Wr D G h0 c r o t) (fun q => h0 ≤ q)) ([.ref (G 0), .ref (G (20 + a)), .ref (G (20 + b))] : List Value).toArray s 0 0 (fun q => h0 ≤ q) := ⟨_, rfl⟩
  rw [← hQ]
  have hB := IC_B hI
  have hn := IC_n hI
  have hs := IC_s hI
  refine lv_iconst (v := nI 0) hx hb dX2_findWish_0 (by decide) ?_
  refine lv_istore_n (lv' := [(3, .int (nI 0)), (0, .ref (G 0)), (1, .ref (G (20 + a))), (2, .ref (G (20 + b)))]) hx hb dX2_findWish_1 rfl hl (by decide) rfl (fun ls hl => ?_)
  have L2 : ∀ (d i : Nat), c 30 0 - i < d → i ≤ c 30 0 → (fP (fun j => c 31 j = a ∧ c 32 j = b) i = 0) → ∀ (H : Heap) (locs : List Loc) (wl : va_W) (ls : Array Slot), Rc G c wl → Rr G r wl → Ro G o wl → va_P D vwCl wl H → va_D (fun q => h0 ≤ q) wl → va_S (fun q => h0 ≤ q) s.heap H locs → lv_has ls 5 [(3, .int (nI i)), (0, .ref (G 0)), (1, .ref (G (20 + a))), (2, .ref (G (20 + b)))] → W p l e (headSpec wsX2_findWish ({ frames := 3, cells := 0, slots := 0, locals := 64 } : Room)).room s m ([.ref (G 0), .ref (G (20 + a)), .ref (G (20 + b))] : List Value).toArray below meth cd H locs 0 0 Q (F0 m 2 ls []) := by
    intro d2
    induction d2 with
    | zero => intro i hd; exact absurd hd (Nat.not_lt_zero _)
    | succ d2 ih2 =>
      intro i hd hi hf0 H locs wl ls hRc hRr hRo hP hD hS hl
      refine lv_iload_n hx hb dX2_findWish_2 rfl (lv_at hl 0 rfl) ?_
      refine lv_aload_n hx hb dX2_findWish_3 rfl (lv_at hl 1 rfl) ?_
      refine va_get (D := D) (ci := 3) (v := .ref (G 2)) (C := RX2) (T := TX2) (N := 7) hx hb hts inX2 hown hK hP 0 (Q_o hRc) rfl 2 (by decide) (hts (.fieldLink RX2 22 "BootStage" "wishes" "Ljava/util/ArrayList;") (by decide +kernel)) (fun _ h9 => h9) rfl dX2_findWish_4 ?_
      refine y_calli (va_runV (As := []) (rest := [.int (nI i)]) ⟨hx, hb, hml, hown, hts⟩ (k_Jx4a65c_size_8abf5 l D G h0 c r o ) (cwV 0 hts gX2_findWish_Jx4a65c_size_8abf5 rfl rfl rfl (by decide +kernel) ⟨Nat.le_of_ble_eq_true rfl, Nat.le_of_ble_eq_true rfl⟩) ⟨fun a U g mk q => ⟨q.1, Pr_cg q.2⟩, va_recv (ci := 0) (q0 := 2) hK hP rfl (Q_l hRc), fun U hU hW => ⟨rfl, Pr_mk hE hRc hRr hRo hP hD hS hU hW⟩⟩ rfl rfl hl.1 rfl (lv_room (Nat.le_of_ble_eq_true rfl)) dX2_findWish_7 ⟨Nat.le_of_ble_eq_true rfl, Nat.le_of_ble_eq_true rfl⟩) hS (fun v9 _ H locs wl hv9 hRc hRr hRo hP hD hS => ?_)
      refine n_top (y := .int (nI (c 30 0))) (congrArg Value.int hv9) ?_
      clear hv9 v9
      refine n_icmp_ge (tgt := 53) hx hb dX2_findWish_10 (by decide) (by omega) (hB _ _ (by decide)) (fun c_10 => ?_) (fun c_10 => ?_)
      · refine lv_null hx hb dX2_findWish_53 ?_
        rw [hQ]
        exact W.aret (v := va_rf none) (rt := .object "BootStage$Wish") hx hb hr (Or.inl ⟨_, rfl⟩) (va_rf_or _) (fun t ht hW => ⟨⟨none, (), rfl, (show none = wsO c (wfK c a b) from by exact (wsO_0 c (show wfK c a b = 0 by unfold wfK; rw [show c 30 0 = i by omega]; exact hf0)).symm), Wr_mk hRc hRr hRo hP hD ht⟩, hS.F ht⟩) hS.2.2 dX2_findWish_54
      · have hwj := IC_W hI i (by omega)
        refine lv_aload_n hx hb dX2_findWish_13 rfl (lv_at hl 1 rfl) ?_
        refine va_get (D := D) (ci := 3) (v := .ref (G 2)) (C := RX2) (T := TX2) (N := 7) hx hb hts inX2 hown hK hP 0 (Q_o hRc) rfl 2 (by decide) (hts (.fieldLink RX2 22 "BootStage" "wishes" "Ljava/util/ArrayList;") (by decide +kernel)) (fun _ h9 => h9) rfl dX2_findWish_14 ?_
        refine lv_iload_n hx hb dX2_findWish_17 rfl (lv_at hl 0 rfl) ?_
        refine y_callr (va_runV (As := [.int (nI i)]) (rest := []) ⟨hx, hb, hml, hown, hts⟩ (k_Jx4a65c_get_915e3 l D G h0 c r o i (by omega) (IC_L hI).1 (by have h9 := (IC_L hI).2; omega)) (cwV 1 hts gX2_findWish_Jx4a65c_get_915e3 rfl rfl rfl (by decide +kernel) ⟨Nat.le_of_ble_eq_true rfl, Nat.le_of_ble_eq_true rfl⟩) ⟨fun a U g mk q => ⟨q.1, Pr_cg q.2⟩, va_recv (ci := 0) (q0 := 2) hK hP rfl (Q_l hRc), fun U hU hW => ⟨rfl, Pr_mk hE hRc hRr hRo hP hD hS hU hW⟩⟩ rfl rfl hl.1 rfl (lv_room (Nat.le_of_ble_eq_true rfl)) dX2_findWish_18 ⟨Nat.le_of_ble_eq_true rfl, Nat.le_of_ble_eq_true rfl⟩) hS (fun _ H locs wl _ hRc hRr hRo hP hD hS => ?_)
        obtain ⟨kw, hkw, hqw⟩ := Q_w hRc (show i < c 30 0 by first | omega | decide | assumption)
        refine va_castY (C := RX1) (nm := RX1) hx hb hown (hts (.classLink RX2 94 RX1) (by decide +kernel)) hE.2.2.2.2.2.2.2.2.2.2.1 (va_recv (ci := 2) (q0 := kw) hK hP rfl hqw) dX2_findWish_21 ?_
        refine lv_astore (lv' := [(4, .ref (c 34 i)), (3, .int (nI i)), (0, .ref (G 0)), (1, .ref (G (20 + a))), (2, .ref (G (20 + b)))]) hx hb dX2_findWish_24 hl (by decide) rfl (fun ls hl => ?_)
        refine lv_aload hx hb dX2_findWish_26 (lv_at hl 0 rfl) ?_
        obtain ⟨kw, hkw, hqw⟩ := Q_w hRc (show i < c 30 0 by first | omega | decide | assumption)
        refine va_get (D := D) (ci := 2) (v := .ref (G (20 + (c 31 i)))) (C := RX1) (T := TX1) (N := 3) hx hb hts inX1 hown hK hP kw hqw rfl 0 (by decide) (hts (.fieldLink RX2 171 "BootStage$Wish" "wishing" "LBootStage$Unit;") (by decide +kernel)) (fun _ h9 => h9) rfl dX2_findWish_28 ?_
        refine lv_aload_n hx hb dX2_findWish_31 rfl (lv_at hl 3 rfl) ?_
        refine lv_acmp_ne (rx := (some (G (20 + (c 31 i))))) (ry := (some (G (20 + a)))) (tgt := 47) hx hb dX2_findWish_32 (by decide) (fun c_32 => ?_) (fun c_32 => ?_)
        · have e_32 : c 31 i ≠ a := fun z => c_32 (by rw [z])
          refine lv_iinc (v := nI (i + 1)) (lv' := [(3, .int (nI (i + 1))), (4, .ref (c 34 i)), (0, .ref (G 0)), (1, .ref (G (20 + a))), (2, .ref (G (20 + b)))]) hx hb dX2_findWish_47 hl (k := 1) rfl (nI_add i 1) (by decide) rfl (fun ls hl => ?_)
          refine lv_goto (tgt := 2) hx hb dX2_findWish_50 (by decide) ?_
          exact ih2 (i + 1) (by omega) (by omega)  (by exact fP_miss hf0 (fun z => e_32 z.1)) _ _ _ _ hRc hRr hRo hP hD hS (lv_sub hl [0, 2, 3, 4] rfl)
        · have e_32 : c 31 i = a := G_u hRc hD (by omega) ha (Option.some.inj c_32)
          refine lv_aload hx hb dX2_findWish_35 (lv_at hl 0 rfl) ?_
          obtain ⟨kw, hkw, hqw⟩ := Q_w hRc (show i < c 30 0 by first | omega | decide | assumption)
          refine va_get (D := D) (ci := 2) (v := .ref (G (20 + (c 32 i)))) (C := RX1) (T := TX1) (N := 3) hx hb hts inX1 hown hK hP kw hqw rfl 1 (by decide) (hts (.fieldLink RX2 174 "BootStage$Wish" "wished" "LBootStage$Unit;") (by decide +kernel)) (fun _ h9 => h9) rfl dX2_findWish_37 ?_
          refine lv_aload_n hx hb dX2_findWish_40 rfl (lv_at hl 4 rfl) ?_
          refine lv_acmp_ne (rx := (some (G (20 + (c 32 i))))) (ry := (some (G (20 + b)))) (tgt := 47) hx hb dX2_findWish_41 (by decide) (fun c_41 => ?_) (fun c_41 => ?_)
          · have e_41 : c 32 i ≠ b := fun z => c_41 (by rw [z])
            refine lv_iinc (v := nI (i + 1)) (lv' := [(3, .int (nI (i + 1))), (4, .ref (c 34 i)), (0, .ref (G 0)), (1, .ref (G (20 + a))), (2, .ref (G (20 + b)))]) hx hb dX2_findWish_47 hl (k := 1) rfl (nI_add i 1) (by decide) rfl (fun ls hl => ?_)
            refine lv_goto (tgt := 2) hx hb dX2_findWish_50 (by decide) ?_
            exact ih2 (i + 1) (by omega) (by omega)  (by exact fP_miss hf0 (fun z => e_41 z.2)) _ _ _ _ hRc hRr hRo hP hD hS (lv_sub hl [0, 2, 3, 4] rfl)
          · have e_41 : c 32 i = b := G_u hRc hD (by omega) hb2 (Option.some.inj c_41)
            refine lv_aload hx hb dX2_findWish_44 (lv_at hl 0 rfl) ?_
            rw [hQ]
            exact W.aret (v := va_rf (some (c 34 i))) (rt := .object "BootStage$Wish") hx hb hr (Or.inl ⟨_, rfl⟩) (va_rf_or _) (fun t ht hW => ⟨⟨(some (c 34 i)), (), rfl, (show (some (c 34 i)) = wsO c (wfK c a b) from by exact (wsO_s c (show wfK c a b = i + 1 from fP_hit hf0 ⟨e_32, e_41⟩ (by omega))).symm), Wr_mk hRc hRr hRo hP hD ht⟩, hS.F ht⟩) hS.2.2 dX2_findWish_46
  exact L2 _ 0 (Nat.lt_succ_self _) (by omega)  (by rfl) _ _ _ _ hRc hRr hRo hP hD hS (lv_sub hl [0, 1, 2, 3] rfl)
set_option maxHeartbeats 4000000 in
set_option maxRecDepth 100000 in
theorem k_X2_keepAllWishes (l : Launch) (D : va_G) (G : Nat → Nat) (h0 : Nat) (c r : Nat → Nat → Nat) (o : Nat) (hI : IC c) (hW5 : c 30 0 ≤ 512) : Met l yX2_keepAllWishes wsX2_keepAllWishes ({ frames := 3, cells := 0, slots := 0, locals := 64 } : Room) (va_Pc [.ref (G 0)] (fun U => Pr D G h0 c r o U)) (va_Qv (fun (_ : Unit) => True) (fun _ t => Wr D G h0 (c_kaI c (c 30 0)) r o t) (fun q => h0 ≤ q)) 0 0 (fun q => h0 ≤ q) := by
  refine Met.ofW (cc := cX2_keepAllWishes) (maxL := 3) (ret := none) (by decide) rfl ?_
  intro p e s m args below meth cd s₁ B hml hv
  obtain ⟨rfl, hE, wl, hRc, hRr, hRo, hP, hD⟩ := hv
  have hx := B.exec
  have hb := B.bytes
  have hr := B.returns
  have hts := atoms_spec (ws := wsX2_keepAllWishes) B.pre
  have hown : s.vm.findClass RX2 = some m.cls := findClass_of_methodNamed B.named
  have hlocks := B.notSynchronized
  have hK := hE.2.1
  have hS : va_S (fun q => h0 ≤ q) s.heap s.heap [] := va_S.rf
  have hl := lv_entry ([.ref (G 0)]) (n := 3) (Nat.le_of_ble_eq_true rfl)
  rw [lg_entry_eq]
  generalize (lg_sl ([.ref (G 0)]) ++ List.replicate (3 - (lg_sl ([.ref (G 0)])).length) Slot.unset).toArray = ls at hl ⊢
  have hl : lv_has ls 3 [(0, .ref (G 0))] := hl
  have inX0 : ∀ w ∈ wsX00, w ∈ wsX2_keepAllWishes := by decide +kernel
  have inX1 : ∀ w ∈ wsX10, w ∈ wsX2_keepAllWishes := by decide +kernel
  have inX2 : ∀ w ∈ wsX20, w ∈ wsX2_keepAllWishes := by decide +kernel
  obtain ⟨Q, hQ⟩ : ∃ Q, Q = MQ below (va_Qv (fun (_ : Unit) => True) (fun _ t => Wr D G h0 (c_kaI c (c 30 0)) r o t) (fun q => h0 ≤ q)) ([.ref (G 0)] : List Value).toArray s 0 0 (fun q => h0 ≤ q) := ⟨_, rfl⟩
  rw [← hQ]
  have hB := IC_B hI
  have hn := IC_n hI
  have hs := IC_s hI
  refine lv_iconst (v := nI 0) hx hb dX2_keepAllWishes_0 (by decide) ?_
  refine lv_istore_n (lv' := [(1, .int (nI 0)), (0, .ref (G 0))]) hx hb dX2_keepAllWishes_1 rfl hl (by decide) rfl (fun ls hl => ?_)
  have L2 : ∀ (d i : Nat), c 30 0 - i < d → i ≤ c 30 0 → ∀ (c1 : Nat → Nat → Nat), (c1 = c_kaI c i) → ∀ (H : Heap) (locs : List Loc) (wl : va_W) (ls : Array Slot), Rc G c1 wl → Rr G r wl → Ro G o wl → va_P D vwCl wl H → va_D (fun q => h0 ≤ q) wl → va_S (fun q => h0 ≤ q) s.heap H locs → lv_has ls 3 [(1, .int (nI i)), (0, .ref (G 0))] → W p l e (headSpec wsX2_keepAllWishes ({ frames := 3, cells := 0, slots := 0, locals := 64 } : Room)).room s m ([.ref (G 0)] : List Value).toArray below meth cd H locs 0 0 Q (F0 m 2 ls []) := by
    intro d2
    induction d2 with
    | zero => intro i hd; exact absurd hd (Nat.not_lt_zero _)
    | succ d2 ih2 =>
      intro i hd hi c1  hc1 H locs wl ls hRc hRr hRo hP hD hS hl
      have hI1 : IC c1 := by rw [hc1]; exact IC_kaI hI i hi
      have hB1 := IC_B hI1
      have hn1 := IC_n hI1
      have hk1 : ∀ a q, a ≠ 8 → c1 a q = c a q := fun a q h => by rw [hc1]; exact kaI_n c a q h i
      have e30 := hk1 30 0 (by decide)
      refine lv_iload_n hx hb dX2_keepAllWishes_2 rfl (lv_at hl 0 rfl) ?_
      refine lv_aload_n hx hb dX2_keepAllWishes_3 rfl (lv_at hl 1 rfl) ?_
      refine va_get (D := D) (ci := 3) (v := .ref (G 2)) (C := RX2) (T := TX2) (N := 7) hx hb hts inX2 hown hK hP 0 (Q_o hRc) rfl 2 (by decide) (hts (.fieldLink RX2 22 "BootStage" "wishes" "Ljava/util/ArrayList;") (by decide +kernel)) (fun _ h9 => h9) rfl dX2_keepAllWishes_4 ?_
      refine y_calli (va_runV (As := []) (rest := [.int (nI i)]) ⟨hx, hb, hml, hown, hts⟩ (k_Jx4a65c_size_8abf5 l D G h0 c1 r o ) (cwV 0 hts gX2_keepAllWishes_Jx4a65c_size_8abf5 rfl rfl rfl (by decide +kernel) ⟨Nat.le_of_ble_eq_true rfl, Nat.le_of_ble_eq_true rfl⟩) ⟨fun a U g mk q => ⟨q.1, Pr_cg q.2⟩, va_recv (ci := 0) (q0 := 2) hK hP rfl (Q_l hRc), fun U hU hW => ⟨rfl, Pr_mk hE hRc hRr hRo hP hD hS hU hW⟩⟩ rfl rfl hl.1 rfl (lv_room (Nat.le_of_ble_eq_true rfl)) dX2_keepAllWishes_7 ⟨Nat.le_of_ble_eq_true rfl, Nat.le_of_ble_eq_true rfl⟩) hS (fun v9 _ H locs wl hv9 hRc hRr hRo hP hD hS => ?_)
      refine n_top (y := .int (nI (c1 30 0))) (congrArg Value.int hv9) ?_
      clear hv9 v9
      refine n_icmp_ge (tgt := 50) hx hb dX2_keepAllWishes_10 (by decide) (by omega) (hB1 _ _ (by decide)) (fun c_10 => ?_) (fun c_10 => ?_)
      · rw [hQ]
        exact W.vret hx hb hr (fun t ht hW => ⟨⟨(), rfl, trivial, Wr_mk (show Rc G (c_kaI c (c 30 0)) wl from by rw [show (c_kaI c (c 30 0)) = c1 from by rw [hc1, show i = c 30 0 by omega]]; exact hRc) hRr hRo hP hD ht⟩, hS.F ht⟩) hS.2.2 dX2_keepAllWishes_50
      · have hwj := IC_W hI1 i (by omega)
        refine lv_aload_n hx hb dX2_keepAllWishes_13 rfl (lv_at hl 1 rfl) ?_
        refine va_get (D := D) (ci := 3) (v := .ref (G 2)) (C := RX2) (T := TX2) (N := 7) hx hb hts inX2 hown hK hP 0 (Q_o hRc) rfl 2 (by decide) (hts (.fieldLink RX2 22 "BootStage" "wishes" "Ljava/util/ArrayList;") (by decide +kernel)) (fun _ h9 => h9) rfl dX2_keepAllWishes_14 ?_
        refine lv_iload_n hx hb dX2_keepAllWishes_17 rfl (lv_at hl 0 rfl) ?_
        refine y_callr (va_runV (As := [.int (nI i)]) (rest := []) ⟨hx, hb, hml, hown, hts⟩ (k_Jx4a65c_get_915e3 l D G h0 c1 r o i (by omega) (IC_L hI1).1 (by have h9 := (IC_L hI1).2; omega)) (cwV 1 hts gX2_keepAllWishes_Jx4a65c_get_915e3 rfl rfl rfl (by decide +kernel) ⟨Nat.le_of_ble_eq_true rfl, Nat.le_of_ble_eq_true rfl⟩) ⟨fun a U g mk q => ⟨q.1, Pr_cg q.2⟩, va_recv (ci := 0) (q0 := 2) hK hP rfl (Q_l hRc), fun U hU hW => ⟨rfl, Pr_mk hE hRc hRr hRo hP hD hS hU hW⟩⟩ rfl rfl hl.1 rfl (lv_room (Nat.le_of_ble_eq_true rfl)) dX2_keepAllWishes_18 ⟨Nat.le_of_ble_eq_true rfl, Nat.le_of_ble_eq_true rfl⟩) hS (fun _ H locs wl _ hRc hRr hRo hP hD hS => ?_)
        obtain ⟨kw, hkw, hqw⟩ := Q_w hRc (show i < c1 30 0 by first | omega | decide | assumption)
        refine va_castY (C := RX1) (nm := RX1) hx hb hown (hts (.classLink RX2 94 RX1) (by decide +kernel)) hE.2.2.2.2.2.2.2.2.2.2.1 (va_recv (ci := 2) (q0 := kw) hK hP rfl hqw) dX2_keepAllWishes_21 ?_
        refine lv_astore_n (lv' := [(2, .ref (c1 34 i)), (1, .int (nI i)), (0, .ref (G 0))]) hx hb dX2_keepAllWishes_24 rfl hl (by decide) rfl (fun ls hl => ?_)
        refine lv_aload_n hx hb dX2_keepAllWishes_25 rfl (lv_at hl 0 rfl) ?_
        obtain ⟨kw, hkw, hqw⟩ := Q_w hRc (show i < c1 30 0 by first | omega | decide | assumption)
        refine va_get (D := D) (ci := 2) (v := .ref (G (20 + (c1 31 i)))) (C := RX1) (T := TX1) (N := 3) hx hb hts inX1 hown hK hP kw hqw rfl 0 (by decide) (hts (.fieldLink RX2 171 "BootStage$Wish" "wishing" "LBootStage$Unit;") (by decide +kernel)) (fun _ h9 => h9) rfl dX2_keepAllWishes_26 ?_
        refine lv_dup hx hb dX2_keepAllWishes_29 rfl ?_
        refine va_get (D := D) (ci := 1) (v := .int (nI (c1 8 (c1 31 i)))) (C := RX0) (T := TX0) (N := 13) hx hb hts inX0 hown hK hP (7 + (c1 31 i)) (Q_u hRc (by first | omega | decide | assumption)) rfl 8 (by decide) (hts (.fieldLink RX2 103 "BootStage$Unit" "keptWishes" "I") (by decide +kernel)) (fun _ h9 => h9) rfl dX2_keepAllWishes_30 ?_
        refine lv_aload_n hx hb dX2_keepAllWishes_33 rfl (lv_at hl 0 rfl) ?_
        obtain ⟨kw, hkw, hqw⟩ := Q_w hRc (show i < c1 30 0 by first | omega | decide | assumption)
        refine va_get (D := D) (ci := 2) (v := .ref (G (20 + (c1 32 i)))) (C := RX1) (T := TX1) (N := 3) hx hb hts inX1 hown hK hP kw hqw rfl 1 (by decide) (hts (.fieldLink RX2 174 "BootStage$Wish" "wished" "LBootStage$Unit;") (by decide +kernel)) (fun _ h9 => h9) rfl dX2_keepAllWishes_34 ?_
        refine y_calli (va_runV (As := []) (rest := [.int (nI (c1 8 (c1 31 i))), .ref (G (20 + (c1 31 i)))]) ⟨hx, hb, hml, hown, hts⟩ (k_X0_bit l D G h0 c1 r o (c1 32 i) (by first | omega | assumption)) (cwV 0 hts gX2_keepAllWishes_X0_bit rfl rfl rfl (by decide +kernel) ⟨Nat.le_of_ble_eq_true rfl, Nat.le_of_ble_eq_true rfl⟩) ⟨fun a U g mk q => ⟨q.1, Pr_cg q.2⟩, va_recv (ci := 1) (q0 := 7 + (c1 32 i)) hK hP rfl (Q_u hRc (by first | omega | decide | assumption)), fun U hU hW => ⟨rfl, Pr_mk hE hRc hRr hRo hP hD hS hU hW⟩⟩ rfl rfl hl.1 rfl (lv_room (Nat.le_of_ble_eq_true rfl)) dX2_keepAllWishes_37 ⟨Nat.le_of_ble_eq_true rfl, Nat.le_of_ble_eq_true rfl⟩) hS (fun v9 _ H locs wl hv9 hRc hRr hRo hP hD hS => ?_)
        refine n_top (y := .int (nI (2 ^ (c1 32 i)))) (congrArg Value.int hv9) ?_
        clear hv9 v9
        refine n_ior hx hb dX2_keepAllWishes_40 ?_
        refine x_put (D := D) (G := G) (ci := 1) (ty := .int) (C := RX0) (T := TX0) (N := 13) (Z := fun wl => Rc G (up2 c1 8 (c1 31 i) ((c1 8 (c1 31 i)) ||| (2 ^ (c1 32 i)))) wl ∧ Rr G r wl ∧ Ro G o wl) hx hb hts inX0 tyX0 tyX0_ok nmX0 hown hK hP hD hS (7 + (c1 31 i)) (Q_u hRc (by first | omega | decide | assumption)) rfl 8 (by decide) (hts (.fieldLink RX2 103 "BootStage$Unit" "keptWishes" "I") (by decide +kernel)) (fun _ h9 => h9) rfl (by decide +kernel) rfl rfl (Nat.le_of_ble_eq_true rfl) dX2_keepAllWishes_41 ⟨P_u8 (u := c1 31 i) ((c1 8 (c1 31 i)) ||| (2 ^ (c1 32 i))) (by first | omega | decide | assumption) hRc, Rr_fr hRr (by omega), Ro_fr hRo (by omega)⟩ (fun H locs wl hZ hP hD hS => ?_)
        obtain ⟨hRc, hRr, hRo⟩ := hZ
        refine lv_iinc (v := nI (i + 1)) (lv' := [(1, .int (nI (i + 1))), (2, .ref (c1 34 i)), (0, .ref (G 0))]) hx hb dX2_keepAllWishes_44 hl (k := 1) rfl (nI_add i 1) (by decide) rfl (fun ls hl => ?_)
        refine lv_goto (tgt := 2) hx hb dX2_keepAllWishes_47 (by decide) ?_
        exact ih2 (i + 1) (by omega) (by omega) (up2 c1 8 (c1 31 i) ((c1 8 (c1 31 i)) ||| (2 ^ (c1 32 i)))) (by show _ = c_ka1 (c_kaI c i) i; rw [← hc1]; rfl) _ _ _ _ hRc hRr hRo hP hD hS (lv_sub hl [0, 2] rfl)
  exact L2 _ 0 (Nat.lt_succ_self _) (by omega) (c) (by rfl) _ _ _ _ hRc hRr hRo hP hD hS (lv_sub hl [0, 1] rfl)
set_option maxHeartbeats 4000000 in
set_option maxRecDepth 100000 in
theorem k_X2_cutLoops (l : Launch) (D : va_G) (G : Nat → Nat) (h0 : Nat) (c r : Nat → Nat → Nat) (o : Nat) (hI : IC c) (hW5 : c 30 0 ≤ 512) : Met l yX2_cutLoops wsX2_cutLoops ({ frames := 4, cells := 0, slots := 0, locals := 86 } : Room) (va_Pc [.ref (G 0)] (fun U => Pr D G h0 c r o U)) (va_Qi (fun (v9 : Int32) (_ : Unit) => v9 = nI (cutC c).2) (fun _ t => Wr D G h0 ((cutC c).1) r o t) (fun q => h0 ≤ q)) 0 0 (fun q => h0 ≤ q) := by
  refine Met.ofW (cc := cX2_cutLoops) (maxL := 5) (ret := (some .int)) (by decide) rfl ?_
  intro p e s m args below meth cd s₁ B hml hv
  obtain ⟨rfl, hE, wl, hRc, hRr, hRo, hP, hD⟩ := hv
  have hx := B.exec
  have hb := B.bytes
  have hr := B.returns
  have hts := atoms_spec (ws := wsX2_cutLoops) B.pre
  have hown : s.vm.findClass RX2 = some m.cls := findClass_of_methodNamed B.named
  have hlocks := B.notSynchronized
  have hK := hE.2.1
  have hS : va_S (fun q => h0 ≤ q) s.heap s.heap [] := va_S.rf
  have hl := lv_entry ([.ref (G 0)]) (n := 5) (Nat.le_of_ble_eq_true rfl)
  rw [lg_entry_eq]
  generalize (lg_sl ([.ref (G 0)]) ++ List.replicate (5 - (lg_sl ([.ref (G 0)])).length) Slot.unset).toArray = ls at hl ⊢
  have hl : lv_has ls 5 [(0, .ref (G 0))] := hl
  have inX0 : ∀ w ∈ wsX00, w ∈ wsX2_cutLoops := by decide +kernel
  have inX1 : ∀ w ∈ wsX10, w ∈ wsX2_cutLoops := by decide +kernel
  have inX2 : ∀ w ∈ wsX20, w ∈ wsX2_cutLoops := by decide +kernel
  obtain ⟨Q, hQ⟩ : ∃ Q, Q = MQ below (va_Qi (fun (v9 : Int32) (_ : Unit) => v9 = nI (cutC c).2) (fun _ t => Wr D G h0 ((cutC c).1) r o t) (fun q => h0 ≤ q)) ([.ref (G 0)] : List Value).toArray s 0 0 (fun q => h0 ≤ q) := ⟨_, rfl⟩
  rw [← hQ]
  have hB := IC_B hI
  have hn := IC_n hI
  have hs := IC_s hI
  refine lv_aload_n hx hb dX2_cutLoops_0 rfl (lv_at hl 0 rfl) ?_
  refine y_callv (va_runV (As := []) (rest := []) ⟨hx, hb, hml, hown, hts⟩ (k_X2_keepAllWishes l D G h0 c r o hI hW5) (cwV 0 hts gX2_cutLoops_X2_keepAllWishes rfl rfl rfl (by decide +kernel) ⟨Nat.le_of_ble_eq_true rfl, Nat.le_of_ble_eq_true rfl⟩) ⟨fun a U g mk q => ⟨q.1, Pr_cg q.2⟩, va_recv (ci := 3) (q0 := 0) hK hP rfl (Q_o hRc), fun U hU hW => ⟨rfl, Pr_mk hE hRc hRr hRo hP hD hS hU hW⟩⟩ rfl rfl hl.1 rfl (lv_room (Nat.le_of_ble_eq_true rfl)) dX2_cutLoops_1 ⟨Nat.le_of_ble_eq_true rfl, Nat.le_of_ble_eq_true rfl⟩) hS (fun _ H locs wl _ hRc hRr hRo hP hD hS => ?_)
  refine lv_iconst (v := nI 0) hx hb dX2_cutLoops_4 (by decide) ?_
  refine lv_istore_n (lv' := [(1, .int (nI 0)), (0, .ref (G 0))]) hx hb dX2_cutLoops_5 rfl hl (by decide) rfl (fun ls hl => ?_)
  refine lv_iconst (v := nI 1) hx hb dX2_cutLoops_6 (by decide) ?_
  refine lv_istore_n (lv' := [(2, .int (nI 1)), (1, .int (nI 0)), (0, .ref (G 0))]) hx hb dX2_cutLoops_7 rfl hl (by decide) rfl (fun ls hl => ?_)
  have L8 : ∀ (d i : Nat), 100 - i < d → i ≤ 100 → ∀ (c1 : Nat → Nat → Nat) (k1 : Nat), (ctW (c 30 0) (c_kaI c (c 30 0), 0) i = (c1, k1)) → ∀ (H : Heap) (locs : List Loc) (wl : va_W) (ls : Array Slot), Rc G c1 wl → Rr G r wl → Ro G o wl → va_P D vwCl wl H → va_D (fun q => h0 ≤ q) wl → va_S (fun q => h0 ≤ q) s.heap H locs → lv_has ls 5 [(2, .int (nI (i + 1))), (1, .int (nI k1)), (0, .ref (G 0))] → W p l e (headSpec wsX2_cutLoops ({ frames := 4, cells := 0, slots := 0, locals := 86 } : Room)).room s m ([.ref (G 0)] : List Value).toArray below meth cd H locs 0 0 Q (F0 m 8 ls []) := by
    intro d8
    induction d8 with
    | zero => intro i hd; exact absurd hd (Nat.not_lt_zero _)
    | succ d8 ih8 =>
      intro i hd hi c1  k1  hc1 H locs wl ls hRc hRr hRo hP hD hS hl
      have hI1 : IC c1 := by have h9 := IC_ctW (n := c 30 0) (x := (c_kaI c (c 30 0), 0)) (IC_kaI hI _ (Nat.le_refl _)) i; rw [hc1] at h9; exact h9
      have hk1 : ∀ a q, a ≠ 8 → c1 a q = c a q := fun a q h => by have h9 := ctW_n (c 30 0) (c_kaI c (c 30 0), 0) a q h i; rw [hc1] at h9; exact h9.trans (kaI_n c a q h _)
      refine lv_iload_n hx hb dX2_cutLoops_8 rfl (lv_at hl 0 rfl) ?_
      refine lv_bipush (v := nI 100) hx hb dX2_cutLoops_9 (by decide) ?_
      refine n_icmp_gt (tgt := 105) hx hb dX2_cutLoops_11 (by decide) (by omega) (by decide) (fun c_11 => ?_) (fun c_11 => ?_)
      · have hcut : cutC c = (c1, k1) := by unfold cutC; rw [← hc1, show i = 100 by omega]
        refine lv_iload_n hx hb dX2_cutLoops_105 rfl (lv_at hl 1 rfl) ?_
        rw [hQ]
        exact W.iret (v := nI k1) hx hb hr (fun t ht hW => ⟨⟨_, (), rfl, (show nI k1 = nI (cutC c).2 from by rw [hcut]), Wr_mk (show Rc G ((cutC c).1) wl from by rw [show ((cutC c).1) = c1 from by rw [hcut]]; exact hRc) hRr hRo hP hD ht⟩, hS.F ht⟩) hS.2.2 dX2_cutLoops_106
      · refine lv_iconst (v := nI 0) hx hb dX2_cutLoops_14 (by decide) ?_
        refine lv_istore_n (lv' := [(3, .int (nI 0)), (2, .int (nI (i + 1))), (1, .int (nI k1)), (0, .ref (G 0))]) hx hb dX2_cutLoops_15 rfl hl (by decide) rfl (fun ls hl => ?_)
        have L16 : ∀ (d j : Nat), c 30 0 - j < d → j ≤ c 30 0 → ∀ (c2 : Nat → Nat → Nat) (k2 : Nat), (ctJ (i + 1) (c1, k1) j = (c2, k2)) → ∀ (H : Heap) (locs : List Loc) (wl : va_W) (ls : Array Slot), Rc G c2 wl → Rr G r wl → Ro G o wl → va_P D vwCl wl H → va_D (fun q => h0 ≤ q) wl → va_S (fun q => h0 ≤ q) s.heap H locs → lv_has ls 5 [(3, .int (nI j)), (1, .int (nI k2)), (0, .ref (G 0)), (2, .int (nI (i + 1)))] → W p l e (headSpec wsX2_cutLoops ({ frames := 4, cells := 0, slots := 0, locals := 86 } : Room)).room s m ([.ref (G 0)] : List Value).toArray below meth cd H locs 0 0 Q (F0 m 16 ls []) := by
          intro d16
          induction d16 with
          | zero => intro j hd; exact absurd hd (Nat.not_lt_zero _)
          | succ d16 ih16 =>
            intro j hd hi c2  k2  hc2 H locs wl ls hRc hRr hRo hP hD hS hl
            have hI2 : IC c2 := by have h9 := IC_ctJ (wt := i + 1) (x := (c1, k1)) hI1 j; rw [hc2] at h9; exact h9
            have hB2 := IC_B hI2
            have hn2 := IC_n hI2
            have hk2 : ∀ a q, a ≠ 8 → c2 a q = c a q := fun a q h => by have h9 := ctJ_n (i + 1) (c1, k1) a q h j; rw [hc2] at h9; exact h9.trans (hk1 a q h)
            have e30 := hk2 30 0 (by decide)
            refine lv_iload_n hx hb dX2_cutLoops_16 rfl (lv_at hl 0 rfl) ?_
            refine lv_aload_n hx hb dX2_cutLoops_17 rfl (lv_at hl 2 rfl) ?_
            refine va_get (D := D) (ci := 3) (v := .ref (G 2)) (C := RX2) (T := TX2) (N := 7) hx hb hts inX2 hown hK hP 0 (Q_o hRc) rfl 2 (by decide) (hts (.fieldLink RX2 22 "BootStage" "wishes" "Ljava/util/ArrayList;") (by decide +kernel)) (fun _ h9 => h9) rfl dX2_cutLoops_18 ?_
            refine y_calli (va_runV (As := []) (rest := [.int (nI j)]) ⟨hx, hb, hml, hown, hts⟩ (k_Jx4a65c_size_8abf5 l D G h0 c2 r o ) (cwV 0 hts gX2_cutLoops_Jx4a65c_size_8abf5 rfl rfl rfl (by decide +kernel) ⟨Nat.le_of_ble_eq_true rfl, Nat.le_of_ble_eq_true rfl⟩) ⟨fun a U g mk q => ⟨q.1, Pr_cg q.2⟩, va_recv (ci := 0) (q0 := 2) hK hP rfl (Q_l hRc), fun U hU hW => ⟨rfl, Pr_mk hE hRc hRr hRo hP hD hS hU hW⟩⟩ rfl rfl hl.1 rfl (lv_room (Nat.le_of_ble_eq_true rfl)) dX2_cutLoops_21 ⟨Nat.le_of_ble_eq_true rfl, Nat.le_of_ble_eq_true rfl⟩) hS (fun v9 _ H locs wl hv9 hRc hRr hRo hP hD hS => ?_)
            refine n_top (y := .int (nI (c2 30 0))) (congrArg Value.int hv9) ?_
            clear hv9 v9
            refine n_icmp_ge (tgt := 99) hx hb dX2_cutLoops_24 (by decide) (by omega) (hB2 _ _ (by decide)) (fun c_24 => ?_) (fun c_24 => ?_)
            · refine lv_iinc (v := nI ((i + 1) + 1)) (lv' := [(2, .int (nI ((i + 1) + 1))), (3, .int (nI j)), (1, .int (nI k2)), (0, .ref (G 0))]) hx hb dX2_cutLoops_99 hl (k := 3) rfl (nI_add (i + 1) 1) (by decide) rfl (fun ls hl => ?_)
              refine lv_goto (tgt := 8) hx hb dX2_cutLoops_102 (by decide) ?_
              exact ih8 (i + 1) (by omega) (by omega) (c2) (k2) (by show ctJ (i + 1) (ctW (c 30 0) _ i) (c 30 0) = _; rw [hc1, show c 30 0 = j by omega]; exact hc2) _ _ _ _ hRc hRr hRo hP hD hS (lv_sub hl [0, 2, 3] rfl)
            · have hwj := IC_W hI2 j (by omega)
              refine lv_aload_n hx hb dX2_cutLoops_27 rfl (lv_at hl 2 rfl) ?_
              refine va_get (D := D) (ci := 3) (v := .ref (G 2)) (C := RX2) (T := TX2) (N := 7) hx hb hts inX2 hown hK hP 0 (Q_o hRc) rfl 2 (by decide) (hts (.fieldLink RX2 22 "BootStage" "wishes" "Ljava/util/ArrayList;") (by decide +kernel)) (fun _ h9 => h9) rfl dX2_cutLoops_28 ?_
              refine lv_iload_n hx hb dX2_cutLoops_31 rfl (lv_at hl 0 rfl) ?_
              refine y_callr (va_runV (As := [.int (nI j)]) (rest := []) ⟨hx, hb, hml, hown, hts⟩ (k_Jx4a65c_get_915e3 l D G h0 c2 r o j (by omega) (IC_L hI2).1 (by have h9 := (IC_L hI2).2; omega)) (cwV 1 hts gX2_cutLoops_Jx4a65c_get_915e3 rfl rfl rfl (by decide +kernel) ⟨Nat.le_of_ble_eq_true rfl, Nat.le_of_ble_eq_true rfl⟩) ⟨fun a U g mk q => ⟨q.1, Pr_cg q.2⟩, va_recv (ci := 0) (q0 := 2) hK hP rfl (Q_l hRc), fun U hU hW => ⟨rfl, Pr_mk hE hRc hRr hRo hP hD hS hU hW⟩⟩ rfl rfl hl.1 rfl (lv_room (Nat.le_of_ble_eq_true rfl)) dX2_cutLoops_32 ⟨Nat.le_of_ble_eq_true rfl, Nat.le_of_ble_eq_true rfl⟩) hS (fun _ H locs wl _ hRc hRr hRo hP hD hS => ?_)
              obtain ⟨kw, hkw, hqw⟩ := Q_w hRc (show j < c2 30 0 by first | omega | decide | assumption)
              refine va_castY (C := RX1) (nm := RX1) hx hb hown (hts (.classLink RX2 94 RX1) (by decide +kernel)) hE.2.2.2.2.2.2.2.2.2.2.1 (va_recv (ci := 2) (q0 := kw) hK hP rfl hqw) dX2_cutLoops_35 ?_
              refine lv_astore (lv' := [(4, .ref (c2 34 j)), (3, .int (nI j)), (1, .int (nI k2)), (0, .ref (G 0)), (2, .int (nI (i + 1)))]) hx hb dX2_cutLoops_38 hl (by decide) rfl (fun ls hl => ?_)
              refine lv_aload hx hb dX2_cutLoops_40 (lv_at hl 0 rfl) ?_
              obtain ⟨kw, hkw, hqw⟩ := Q_w hRc (show j < c2 30 0 by first | omega | decide | assumption)
              refine va_get (D := D) (ci := 2) (v := .int (nI (c2 33 j))) (C := RX1) (T := TX1) (N := 3) hx hb hts inX1 hown hK hP kw hqw rfl 2 (by decide) (hts (.fieldLink RX2 106 "BootStage$Wish" "weight" "I") (by decide +kernel)) (fun _ h9 => h9) rfl dX2_cutLoops_42 ?_
              refine lv_iload_n hx hb dX2_cutLoops_45 rfl (lv_at hl 4 rfl) ?_
              refine n_icmp_ne (tgt := 93) hx hb dX2_cutLoops_46 (by decide) (hB2 _ _ (by decide)) (by omega) (fun c_46 => ?_) (fun c_46 => ?_)
              · refine lv_iinc (v := nI (j + 1)) (lv' := [(3, .int (nI (j + 1))), (4, .ref (c2 34 j)), (1, .int (nI k2)), (0, .ref (G 0)), (2, .int (nI (i + 1)))]) hx hb dX2_cutLoops_93 hl (k := 1) rfl (nI_add j 1) (by decide) rfl (fun ls hl => ?_)
                refine lv_goto (tgt := 16) hx hb dX2_cutLoops_96 (by decide) ?_
                exact ih16 (j + 1) (by omega) (by omega) (c2) (k2) (by show ct1 (i + 1) (ctJ (i + 1) (c1, k1) j) j = _; rw [hc2]; exact ct1_f (fun z => c_46 z.1)) _ _ _ _ hRc hRr hRo hP hD hS (lv_sub hl [0, 2, 3, 4] rfl)
              · refine lv_aload_n hx hb dX2_cutLoops_49 rfl (lv_at hl 3 rfl) ?_
                refine lv_aload hx hb dX2_cutLoops_50 (lv_at hl 0 rfl) ?_
                obtain ⟨kw, hkw, hqw⟩ := Q_w hRc (show j < c2 30 0 by first | omega | decide | assumption)
                refine va_get (D := D) (ci := 2) (v := .ref (G (20 + (c2 32 j)))) (C := RX1) (T := TX1) (N := 3) hx hb hts inX1 hown hK hP kw hqw rfl 1 (by decide) (hts (.fieldLink RX2 174 "BootStage$Wish" "wished" "LBootStage$Unit;") (by decide +kernel)) (fun _ h9 => h9) rfl dX2_cutLoops_52 ?_
                refine lv_aload hx hb dX2_cutLoops_55 (lv_at hl 0 rfl) ?_
                obtain ⟨kw, hkw, hqw⟩ := Q_w hRc (show j < c2 30 0 by first | omega | decide | assumption)
                refine va_get (D := D) (ci := 2) (v := .ref (G (20 + (c2 31 j)))) (C := RX1) (T := TX1) (N := 3) hx hb hts inX1 hown hK hP kw hqw rfl 0 (by decide) (hts (.fieldLink RX2 171 "BootStage$Wish" "wishing" "LBootStage$Unit;") (by decide +kernel)) (fun _ h9 => h9) rfl dX2_cutLoops_57 ?_
                refine lv_iconst (v := nI 1) hx hb dX2_cutLoops_60 (by decide) ?_
                refine y_calli (va_runV (As := [.ref (G (20 + (c2 32 j))), .ref (G (20 + (c2 31 j))), .int (nI 1)]) (rest := []) ⟨hx, hb, hml, hown, hts⟩ (k_X2_reaches l D G h0 c2 r o hI2 (c2 32 j) (c2 31 j) 1 (by omega) (by omega) (by decide)) (cwV 3 hts gX2_cutLoops_X2_reaches rfl rfl rfl (by decide +kernel) ⟨Nat.le_of_ble_eq_true rfl, Nat.le_of_ble_eq_true rfl⟩) ⟨fun a U g mk q => ⟨q.1, Pr_cg q.2⟩, va_recv (ci := 3) (q0 := 0) hK hP rfl (Q_o hRc), fun U hU hW => ⟨rfl, Pr_mk hE hRc hRr hRo hP hD hS hU hW⟩⟩ rfl rfl hl.1 rfl (lv_room (Nat.le_of_ble_eq_true rfl)) dX2_cutLoops_61 ⟨Nat.le_of_ble_eq_true rfl, Nat.le_of_ble_eq_true rfl⟩) hS (fun v9 _ H locs wl hv9 hRc hRr hRo hP hD hS => ?_)
                refine n_top (y := .int (nI (bN (Rch (eC c2 1) (c2 32 j) (c2 31 j))))) (congrArg Value.int hv9) ?_
                clear hv9 v9
                refine n_ifb_eq (tgt := 93) hx hb dX2_cutLoops_64 (by decide) (fun c_64 => ?_) (fun c_64 => ?_)
                · refine lv_iinc (v := nI (j + 1)) (lv' := [(3, .int (nI (j + 1))), (4, .ref (c2 34 j)), (1, .int (nI k2)), (0, .ref (G 0)), (2, .int (nI (i + 1)))]) hx hb dX2_cutLoops_93 hl (k := 1) rfl (nI_add j 1) (by decide) rfl (fun ls hl => ?_)
                  refine lv_goto (tgt := 16) hx hb dX2_cutLoops_96 (by decide) ?_
                  exact ih16 (j + 1) (by omega) (by omega) (c2) (k2) (by show ct1 (i + 1) (ctJ (i + 1) (c1, k1) j) j = _; rw [hc2]; exact ct1_f (fun z => c_64 z.2)) _ _ _ _ hRc hRr hRo hP hD hS (lv_sub hl [0, 2, 3, 4] rfl)
                · refine lv_aload hx hb dX2_cutLoops_67 (lv_at hl 0 rfl) ?_
                  obtain ⟨kw, hkw, hqw⟩ := Q_w hRc (show j < c2 30 0 by first | omega | decide | assumption)
                  refine va_get (D := D) (ci := 2) (v := .ref (G (20 + (c2 31 j)))) (C := RX1) (T := TX1) (N := 3) hx hb hts inX1 hown hK hP kw hqw rfl 0 (by decide) (hts (.fieldLink RX2 171 "BootStage$Wish" "wishing" "LBootStage$Unit;") (by decide +kernel)) (fun _ h9 => h9) rfl dX2_cutLoops_69 ?_
                  refine lv_dup hx hb dX2_cutLoops_72 rfl ?_
                  refine va_get (D := D) (ci := 1) (v := .int (nI (c2 8 (c2 31 j)))) (C := RX0) (T := TX0) (N := 13) hx hb hts inX0 hown hK hP (7 + (c2 31 j)) (Q_u hRc (by first | omega | decide | assumption)) rfl 8 (by decide) (hts (.fieldLink RX2 103 "BootStage$Unit" "keptWishes" "I") (by decide +kernel)) (fun _ h9 => h9) rfl dX2_cutLoops_73 ?_
                  refine lv_aload hx hb dX2_cutLoops_76 (lv_at hl 0 rfl) ?_
                  obtain ⟨kw, hkw, hqw⟩ := Q_w hRc (show j < c2 30 0 by first | omega | decide | assumption)
                  refine va_get (D := D) (ci := 2) (v := .ref (G (20 + (c2 32 j)))) (C := RX1) (T := TX1) (N := 3) hx hb hts inX1 hown hK hP kw hqw rfl 1 (by decide) (hts (.fieldLink RX2 174 "BootStage$Wish" "wished" "LBootStage$Unit;") (by decide +kernel)) (fun _ h9 => h9) rfl dX2_cutLoops_78 ?_
                  refine y_calli (va_runV (As := []) (rest := [.int (nI (c2 8 (c2 31 j))), .ref (G (20 + (c2 31 j)))]) ⟨hx, hb, hml, hown, hts⟩ (k_X0_bit l D G h0 c2 r o (c2 32 j) (by first | omega | assumption)) (cwV 0 hts gX2_cutLoops_X0_bit rfl rfl rfl (by decide +kernel) ⟨Nat.le_of_ble_eq_true rfl, Nat.le_of_ble_eq_true rfl⟩) ⟨fun a U g mk q => ⟨q.1, Pr_cg q.2⟩, va_recv (ci := 1) (q0 := 7 + (c2 32 j)) hK hP rfl (Q_u hRc (by first | omega | decide | assumption)), fun U hU hW => ⟨rfl, Pr_mk hE hRc hRr hRo hP hD hS hU hW⟩⟩ rfl rfl hl.1 rfl (lv_room (Nat.le_of_ble_eq_true rfl)) dX2_cutLoops_81 ⟨Nat.le_of_ble_eq_true rfl, Nat.le_of_ble_eq_true rfl⟩) hS (fun v9 _ H locs wl hv9 hRc hRr hRo hP hD hS => ?_)
                  refine n_top (y := .int (nI (2 ^ (c2 32 j)))) (congrArg Value.int hv9) ?_
                  clear hv9 v9
                  refine lv_iconst (v := (-1)) hx hb dX2_cutLoops_84 (by decide) ?_
                  refine lv_ixor hx hb dX2_cutLoops_85 ?_
                  refine n_nand hx hb dX2_cutLoops_86 ?_
                  refine x_put (D := D) (G := G) (ci := 1) (ty := .int) (C := RX0) (T := TX0) (N := 13) (Z := fun wl => Rc G (up2 c2 8 (c2 31 j) (anN (c2 8 (c2 31 j)) (2 ^ (c2 32 j)))) wl ∧ Rr G r wl ∧ Ro G o wl) hx hb hts inX0 tyX0 tyX0_ok nmX0 hown hK hP hD hS (7 + (c2 31 j)) (Q_u hRc (by first | omega | decide | assumption)) rfl 8 (by decide) (hts (.fieldLink RX2 103 "BootStage$Unit" "keptWishes" "I") (by decide +kernel)) (fun _ h9 => h9) rfl (by decide +kernel) rfl rfl (Nat.le_of_ble_eq_true rfl) dX2_cutLoops_87 ⟨P_u8 (u := c2 31 j) (anN (c2 8 (c2 31 j)) (2 ^ (c2 32 j))) (by first | omega | decide | assumption) hRc, Rr_fr hRr (by omega), Ro_fr hRo (by omega)⟩ (fun H locs wl hZ hP hD hS => ?_)
                  obtain ⟨hRc, hRr, hRo⟩ := hZ
                  refine lv_iinc (v := nI (k2 + 1)) (lv' := [(1, .int (nI (k2 + 1))), (4, .ref (c2 34 j)), (3, .int (nI j)), (0, .ref (G 0)), (2, .int (nI (i + 1)))]) hx hb dX2_cutLoops_90 hl (k := 2) rfl (nI_add k2 1) (by decide) rfl (fun ls hl => ?_)
                  refine lv_iinc (v := nI (j + 1)) (lv' := [(3, .int (nI (j + 1))), (1, .int (nI (k2 + 1))), (4, .ref (c2 34 j)), (0, .ref (G 0)), (2, .int (nI (i + 1)))]) hx hb dX2_cutLoops_93 hl (k := 2) rfl (nI_add j 1) (by decide) rfl (fun ls hl => ?_)
                  refine lv_goto (tgt := 16) hx hb dX2_cutLoops_96 (by decide) ?_
                  exact ih16 (j + 1) (by omega) (by omega) (up2 c2 8 (c2 31 j) (anN (c2 8 (c2 31 j)) (2 ^ (c2 32 j)))) (k2 + 1) (by show ct1 (i + 1) (ctJ (i + 1) (c1, k1) j) j = _; rw [hc2]; exact ct1_t ⟨c_46, c_64⟩) _ _ _ _ hRc hRr hRo hP hD hS (lv_sub hl [0, 1, 3, 4] rfl)
        exact L16 _ 0 (Nat.lt_succ_self _) (by omega) (c1) (k1) (by rfl) _ _ _ _ hRc hRr hRo hP hD hS (lv_sub hl [0, 2, 3, 1] rfl)
  exact L8 _ 0 (Nat.lt_succ_self _) (by omega) (c_kaI c (c 30 0)) (0) (by rfl) _ _ _ _ hRc hRr hRo hP hD hS (show lv_has ls 5 [(2, .int (nI (0 + 1))), (1, .int (nI 0)), (0, .ref (G 0))] from by rw [show ((.int (nI (0 + 1)) : Value)) = .int (nI 1) from by rfl]; exact lv_sub hl [0, 1, 2] rfl)
set_option maxHeartbeats 4000000 in
set_option maxRecDepth 100000 in
theorem k_X2_begin (l : Launch) (hlt : l.stackTraces = false) (D : va_G) (G : Nat → Nat) (h0 : Nat) (c r : Nat → Nat → Nat) (o : Nat) (x : Int32) (hI : IC c) (hW5 : c 30 0 ≤ 512) : vx_Met l yX2_begin wsX2_begin ({ frames := 7, cells := 2, slots := 12, locals := 110 } : Room) (va_Pc [.ref (G 0), .int x] (fun U => Pr D G h0 c r o U)) (va_Qi (fun (v9 : Int32) (u9 : Nat → Nat → Nat) => ∃ b, (1 ≤ b ∧ b ≤ 20) ∧ x = nI b ∧ c 20 3 = 0 ∧ v9 = nI (cutC (up2 c 20 4 b)).2 ∧ u9 = c_begin c b) (fun (u9 : Nat → Nat → Nat) t => Wr D G h0 u9 r o t) (fun q => h0 ≤ q)) (xw D G h0 c r o (fun E => (E = exA ∧ ¬ inR x 1 20) ∨ (E = exS ∧ inR x 1 20 ∧ c 20 3 ≠ 0))) 2 12 (fun q => h0 ≤ q) := by
  refine vx_ofW (cc := cX2_begin) (maxL := 4) (ret := (some .int)) (by decide) rfl ?_
  intro p e s m args below meth cd s₁ B hml htab hv
  obtain ⟨rfl, hE, wl, hRc, hRr, hRo, hP, hD⟩ := hv
  have hx := B.exec
  have hb := B.bytes
  have hr := B.returns
  have hts := atoms_spec (ws := wsX2_begin) B.pre
  have hown : s.vm.findClass RX2 = some m.cls := findClass_of_methodNamed B.named
  have hlocks := B.notSynchronized
  have hK := hE.2.1
  have hS : va_S (fun q => h0 ≤ q) s.heap s.heap [] := va_S.rf
  have hl := lv_entry ([.ref (G 0), .int x]) (n := 4) (Nat.le_of_ble_eq_true rfl)
  rw [lg_entry_eq]
  generalize (lg_sl ([.ref (G 0), .int x]) ++ List.replicate (4 - (lg_sl ([.ref (G 0), .int x])).length) Slot.unset).toArray = ls at hl ⊢
  have hl : lv_has ls 4 [(0, .ref (G 0)), (1, .int x)] := hl
  have inX2 : ∀ w ∈ wsX20, w ∈ wsX2_begin := by decide +kernel
  have hB := IC_B hI
  have hn := IC_n hI
  have hs := IC_s hI
  refine lv_aload_n hx hb dX2_begin_0 rfl (lv_at hl 0 rfl) ?_
  refine lv_iload_n hx hb dX2_begin_1 rfl (lv_at hl 1 rfl) ?_
  refine lv_iconst (v := nI 1) hx hb dX2_begin_2 (by decide) ?_
  refine lv_bipush (v := nI 20) hx hb dX2_begin_3 (by decide) ?_
  refine yx_callv (vx_runV (As := [.int x, .int (nI 1), .int (nI 20)]) (rest := []) ⟨hx, hb, hml, hown, hts⟩ (k_X2_checkRange l hlt D G h0 c r o x 1 20) (cwV 3 hts gX2_begin_X2_checkRange rfl rfl rfl (by decide +kernel) ⟨Nat.le_of_ble_eq_true rfl, Nat.le_of_ble_eq_true rfl⟩) ⟨fun a U g mk q => ⟨q.1, Pr_cg q.2⟩, va_recv (ci := 3) (q0 := 0) hK hP rfl (Q_o hRc), fun U hU hW => ⟨rfl, Pr_mk hE hRc hRr hRo hP hD hS hU hW⟩⟩ rfl rfl hl.1 rfl (lv_room (Nat.le_of_ble_eq_true rfl)) dX2_begin_5 ⟨Nat.le_of_ble_eq_true rfl, Nat.le_of_ble_eq_true rfl⟩) hS htab hlocks (fun E h => by exact Or.inl h) (Nat.le_of_ble_eq_true rfl) (Nat.le_of_ble_eq_true rfl) (fun u9 H locs wl hp9 hRc hRr hRo hP hD hS => ?_)
  have hr_5 : inR x 1 20 := hp9
  obtain ⟨t_5, ht_5, hxt_5⟩ := inR_nI hr_5 (by decide) (by decide)
  refine lv_aload_n hx hb dX2_begin_8 rfl (lv_at hl 0 rfl) ?_
  refine yx_callv (vx_runV (As := []) (rest := []) ⟨hx, hb, hml, hown, hts⟩ (k_X2_checkNoStart l hlt D G h0 c r o (hB _ _ (by decide))) (cwV 0 hts gX2_begin_X2_checkNoStart rfl rfl rfl (by decide +kernel) ⟨Nat.le_of_ble_eq_true rfl, Nat.le_of_ble_eq_true rfl⟩) ⟨fun a U g mk q => ⟨q.1, Pr_cg q.2⟩, va_recv (ci := 3) (q0 := 0) hK hP rfl (Q_o hRc), fun U hU hW => ⟨rfl, Pr_mk hE hRc hRr hRo hP hD hS hU hW⟩⟩ rfl rfl hl.1 rfl (lv_room (Nat.le_of_ble_eq_true rfl)) dX2_begin_9 ⟨Nat.le_of_ble_eq_true rfl, Nat.le_of_ble_eq_true rfl⟩) hS htab hlocks (fun E h => by exact Or.inr ⟨h.1, hr_5, h.2⟩) (Nat.le_of_ble_eq_true rfl) (Nat.le_of_ble_eq_true rfl) (fun u9 H locs wl hp9 hRc hRr hRo hP hD hS => ?_)
  have hg_9 : c 20 3 = 0 := hp9
  refine lv_aload_n hx hb dX2_begin_12 rfl (lv_at hl 0 rfl) ?_
  refine lv_iload_n hx hb dX2_begin_13 rfl (lv_at hl 1 rfl) ?_
  refine n_top (y := .int (nI t_5)) (congrArg Value.int hxt_5) ?_
  refine x_put (D := D) (G := G) (ci := 3) (ty := .int) (C := RX2) (T := TX2) (N := 7) (Z := fun wl => Rc G (up2 c 20 4 t_5) wl ∧ Rr G r wl ∧ Ro G o wl) hx hb hts inX2 tyX2 tyX2_ok nmX2 hown hK hP hD hS 0 (Q_o hRc) rfl 4 (by decide) (hts (.fieldLink RX2 30 "BootStage" "bound" "I") (by decide +kernel)) (fun _ h9 => h9) rfl (by decide +kernel) rfl rfl (Nat.le_of_ble_eq_true rfl) dX2_begin_14 ⟨P_o4 t_5 hRc, Rr_fr hRr (by decide), Ro_fr hRo (by decide)⟩ (fun H locs wl hZ hP hD hS => ?_)
  obtain ⟨hRc, hRr, hRo⟩ := hZ
  refine lv_aload_n hx hb dX2_begin_17 rfl (lv_at hl 0 rfl) ?_
  refine y_calli (va_runV (As := []) (rest := []) ⟨hx, hb, hml, hown, hts⟩ (k_X2_cutLoops l D G h0 (up2 c 20 4 t_5) r o (IC_obj hI (Or.inr (Or.inl ⟨rfl, by omega⟩))) hW5) (cwV 0 hts gX2_begin_X2_cutLoops rfl rfl rfl (by decide +kernel) ⟨Nat.le_of_ble_eq_true rfl, Nat.le_of_ble_eq_true rfl⟩) ⟨fun a U g mk q => ⟨q.1, Pr_cg q.2⟩, va_recv (ci := 3) (q0 := 0) hK hP rfl (Q_o hRc), fun U hU hW => ⟨rfl, Pr_mk hE hRc hRr hRo hP hD hS hU hW⟩⟩ rfl rfl hl.1 rfl (lv_room (Nat.le_of_ble_eq_true rfl)) dX2_begin_18 ⟨Nat.le_of_ble_eq_true rfl, Nat.le_of_ble_eq_true rfl⟩) hS (fun v9 _ H locs wl hv9 hRc hRr hRo hP hD hS => ?_)
  refine n_top (y := .int (nI ((cutC (up2 c 20 4 t_5)).2))) (congrArg Value.int hv9) ?_
  clear hv9 v9
  refine lv_istore_n (lv' := [(2, .int (nI ((cutC (up2 c 20 4 t_5)).2))), (0, .ref (G 0)), (1, .int x)]) hx hb dX2_begin_21 rfl hl (by decide) rfl (fun ls hl => ?_)
  refine lv_aload_n hx hb dX2_begin_22 rfl (lv_at hl 1 rfl) ?_
  refine lv_iconst (v := nI 0) hx hb dX2_begin_23 (by decide) ?_
  refine x_put (D := D) (G := G) (ci := 3) (ty := .int) (C := RX2) (T := TX2) (N := 7) (Z := fun wl => Rc G (up2 ((cutC (up2 c 20 4 t_5)).1) 20 5 0) wl ∧ Rr G r wl ∧ Ro G o wl) hx hb hts inX2 tyX2 tyX2_ok nmX2 hown hK hP hD hS 0 (Q_o hRc) rfl 5 (by decide) (hts (.fieldLink RX2 33 "BootStage" "total" "I") (by decide +kernel)) (fun _ h9 => h9) rfl (by decide +kernel) rfl rfl (Nat.le_of_ble_eq_true rfl) dX2_begin_24 ⟨P_o5 0 hRc, Rr_fr hRr (by decide), Ro_fr hRo (by decide)⟩ (fun H locs wl hZ hP hD hS => ?_)
  obtain ⟨hRc, hRr, hRo⟩ := hZ
  refine lv_iconst (v := nI 0) hx hb dX2_begin_27 (by decide) ?_
  refine lv_istore_n (lv' := [(3, .int (nI 0)), (2, .int (nI ((cutC (up2 c 20 4 t_5)).2))), (0, .ref (G 0)), (1, .int x)]) hx hb dX2_begin_28 rfl hl (by decide) rfl (fun ls hl => ?_)
  have L29 : ∀ (d i : Nat), c 20 1 - i < d → i ≤ c 20 1 → ∀ (c1 : Nat → Nat → Nat), (c1 = c_bgI (c_bg0 c t_5) i) → ∀ (H : Heap) (locs : List Loc) (wl : va_W) (ls : Array Slot), Rc G c1 wl → Rr G r wl → Ro G o wl → va_P D vwCl wl H → va_D (fun q => h0 ≤ q) wl → va_S (fun q => h0 ≤ q) s.heap H locs → lv_has ls 4 [(3, .int (nI i)), (2, .int (nI ((cutC (up2 c 20 4 t_5)).2))), (0, .ref (G 0))] → W p l e (headSpec wsX2_begin ({ frames := 7, cells := 2, slots := 12, locals := 110 } : Room)).room s m ([.ref (G 0), .int x] : List Value).toArray below meth cd H locs 2 12 (vx_MQ below (va_Qi (fun (v9 : Int32) (u9 : Nat → Nat → Nat) => ∃ b, (1 ≤ b ∧ b ≤ 20) ∧ x = nI b ∧ c 20 3 = 0 ∧ v9 = nI (cutC (up2 c 20 4 b)).2 ∧ u9 = c_begin c b) (fun (u9 : Nat → Nat → Nat) t => Wr D G h0 u9 r o t) (fun q => h0 ≤ q)) (xw D G h0 c r o (fun E => (E = exA ∧ ¬ inR x 1 20) ∨ (E = exS ∧ inR x 1 20 ∧ c 20 3 ≠ 0))) ([.ref (G 0), .int x] : List Value).toArray s 2 12 (fun q => h0 ≤ q)) (F0 m 29 ls []) := by
    intro d29
    induction d29 with
    | zero => intro i hd; exact absurd hd (Nat.not_lt_zero _)
    | succ d29 ih29 =>
      intro i hd hi c1  hc1 H locs wl ls hRc hRr hRo hP hD hS hl
      have h01 : (c_bg0 c t_5) 20 1 = c 20 1 := (up2_i (by decide)).trans ((cutC_n _ 20 1 (by decide)).trans (up2_i (by decide)))
      have hI1 : IC c1 := by rw [hc1]; exact (IC_bgI (IC_bg0 hI (by omega)) (up2_s ..) i (by omega)).1
      have hB1 := IC_B hI1
      have hn1 := IC_n hI1
      have hk1 : c1 20 1 = c 20 1 := by rw [hc1]; exact (bgI_n (c_bg0 c t_5) 20 1 (by omega) i).trans h01
      refine lv_iload_n hx hb dX2_begin_29 rfl (lv_at hl 0 rfl) ?_
      refine lv_aload_n hx hb dX2_begin_30 rfl (lv_at hl 2 rfl) ?_
      refine va_get (D := D) (ci := 3) (v := .int (nI (c1 20 1))) (C := RX2) (T := TX2) (N := 7) hx hb hts inX2 hown hK hP 0 (Q_o hRc) rfl 1 (by decide) (hts (.fieldLink RX2 15 "BootStage" "count" "I") (by decide +kernel)) (fun _ h9 => h9) rfl dX2_begin_31 ?_
      refine n_icmp_ge (tgt := 61) hx hb dX2_begin_34 (by decide) (by omega) (hB1 _ _ (by decide)) (fun c_34 => ?_) (fun c_34 => ?_)
      · have hIN : IC (up2 (up2 c1 20 3 1) 20 6 0) := by have h9 := IC_bgN (b := t_5) hI (by omega); rw [h01, show c 20 1 = i by omega, ← hc1] at h9; exact h9
        refine lv_aload_n hx hb dX2_begin_61 rfl (lv_at hl 2 rfl) ?_
        refine lv_iconst (v := nI 1) hx hb dX2_begin_62 (by decide) ?_
        refine x_put (D := D) (G := G) (ci := 3) (ty := .boolean) (C := RX2) (T := TX2) (N := 7) (Z := fun wl => Rc G (up2 c1 20 3 1) wl ∧ Rr G r wl ∧ Ro G o wl) hx hb hts inX2 tyX2 tyX2_ok nmX2 hown hK hP hD hS 0 (Q_o hRc) rfl 3 (by decide) (hts (.fieldLink RX2 26 "BootStage" "isGoingOn" "Z") (by decide +kernel)) (fun _ h9 => h9) rfl (by decide +kernel) (nb_le (by first | exact bN_le _ | decide | omega | assumption)) (nb_ft (by first | exact bN_le _ | decide | omega | assumption)) (Nat.le_of_ble_eq_true rfl) dX2_begin_63 ⟨P_o3 1 hRc, Rr_fr hRr (by decide), Ro_fr hRo (by decide)⟩ (fun H locs wl hZ hP hD hS => ?_)
        obtain ⟨hRc, hRr, hRo⟩ := hZ
        refine lv_aload_n hx hb dX2_begin_66 rfl (lv_at hl 2 rfl) ?_
        refine lv_iconst (v := nI 0) hx hb dX2_begin_67 (by decide) ?_
        refine x_put (D := D) (G := G) (ci := 3) (ty := .int) (C := RX2) (T := TX2) (N := 7) (Z := fun wl => Rc G (up2 (up2 c1 20 3 1) 20 6 0) wl ∧ Rr G r wl ∧ Ro G o wl) hx hb hts inX2 tyX2 tyX2_ok nmX2 hown hK hP hD hS 0 (Q_o hRc) rfl 6 (by decide) (hts (.fieldLink RX2 36 "BootStage" "reachedBar" "I") (by decide +kernel)) (fun _ h9 => h9) rfl (by decide +kernel) rfl rfl (Nat.le_of_ble_eq_true rfl) dX2_begin_68 ⟨P_o6 0 hRc, Rr_fr hRr (by decide), Ro_fr hRo (by decide)⟩ (fun H locs wl hZ hP hD hS => ?_)
        obtain ⟨hRc, hRr, hRo⟩ := hZ
        refine lv_aload_n hx hb dX2_begin_71 rfl (lv_at hl 2 rfl) ?_
        refine y_callv (va_runV (As := []) (rest := []) ⟨hx, hb, hml, hown, hts⟩ (k_X2_raiseBar l D G h0 (up2 (up2 c1 20 3 1) 20 6 0) r o hIN) (cwV 0 hts gX2_begin_X2_raiseBar rfl rfl rfl (by decide +kernel) ⟨Nat.le_of_ble_eq_true rfl, Nat.le_of_ble_eq_true rfl⟩) ⟨fun a U g mk q => ⟨q.1, Pr_cg q.2⟩, va_recv (ci := 3) (q0 := 0) hK hP rfl (Q_o hRc), fun U hU hW => ⟨rfl, Pr_mk hE hRc hRr hRo hP hD hS hU hW⟩⟩ rfl rfl hl.1 rfl (lv_room (Nat.le_of_ble_eq_true rfl)) dX2_begin_72 ⟨Nat.le_of_ble_eq_true rfl, Nat.le_of_ble_eq_true rfl⟩) hS (fun _ H locs wl _ hRc hRr hRo hP hD hS => ?_)
        refine lv_iload_n hx hb dX2_begin_75 rfl (lv_at hl 1 rfl) ?_
        refine vx_ret ?_
        refine W.widen (k := 2) (n := 12) (Nat.le_of_ble_eq_true rfl) (Nat.le_of_ble_eq_true rfl) ?_
        have hrel : (fun (v9 : Int32) (u9 : Nat → Nat → Nat) => ∃ b, (1 ≤ b ∧ b ≤ 20) ∧ x = nI b ∧ c 20 3 = 0 ∧ v9 = nI (cutC (up2 c 20 4 b)).2 ∧ u9 = c_begin c b) (nI ((cutC (up2 c 20 4 t_5)).2)) (c_bar (up2 (up2 c1 20 3 1) 20 6 0)) := by exact ⟨t_5, ht_5, hxt_5, hg_9, rfl, by unfold c_begin; rw [h01, show c 20 1 = i by omega, ← hc1]⟩
        exact W.iret (v := nI ((cutC (up2 c 20 4 t_5)).2)) hx hb hr (fun t ht hW => ⟨⟨_, (c_bar (up2 (up2 c1 20 3 1) 20 6 0)), rfl, hrel, Wr_mk hRc hRr hRo hP hD ht⟩, hS.F ht⟩) hS.2.2 dX2_begin_76
      · refine lv_aload_n hx hb dX2_begin_37 rfl (lv_at hl 2 rfl) ?_
        refine lv_dup hx hb dX2_begin_38 rfl ?_
        refine va_get (D := D) (ci := 3) (v := .int (nI (c1 20 5))) (C := RX2) (T := TX2) (N := 7) hx hb hts inX2 hown hK hP 0 (Q_o hRc) rfl 5 (by decide) (hts (.fieldLink RX2 33 "BootStage" "total" "I") (by decide +kernel)) (fun _ h9 => h9) rfl dX2_begin_39 ?_
        refine lv_aload_n hx hb dX2_begin_42 rfl (lv_at hl 2 rfl) ?_
        refine va_get (D := D) (ci := 3) (v := .ref (G 1)) (C := RX2) (T := TX2) (N := 7) hx hb hts inX2 hown hK hP 0 (Q_o hRc) rfl 0 (by decide) (hts (.fieldLink RX2 11 "BootStage" "rows" "[LBootStage$Unit;") (by decide +kernel)) (fun _ h9 => h9) rfl dX2_begin_43 ?_
        refine lv_iload_n hx hb dX2_begin_46 rfl (lv_at hl 0 rfl) ?_
        refine x_row hx hb hK hP hRc (by first | omega | decide | assumption) dX2_begin_47 ?_
        refine y_calli (va_runV (As := []) (rest := [.int (nI (c1 20 5)), .ref (G 0)]) ⟨hx, hb, hml, hown, hts⟩ (k_X0_resetForStart l D G h0 c1 r o i (by first | omega | assumption) hB1) (cwV 0 hts gX2_begin_X0_resetForStart rfl rfl rfl (by decide +kernel) ⟨Nat.le_of_ble_eq_true rfl, Nat.le_of_ble_eq_true rfl⟩) ⟨fun a U g mk q => ⟨q.1, Pr_cg q.2⟩, va_recv (ci := 1) (q0 := 7 + i) hK hP rfl (Q_u hRc (by first | omega | decide | assumption)), fun U hU hW => ⟨rfl, Pr_mk hE hRc hRr hRo hP hD hS hU hW⟩⟩ rfl rfl hl.1 rfl (lv_room (Nat.le_of_ble_eq_true rfl)) dX2_begin_48 ⟨Nat.le_of_ble_eq_true rfl, Nat.le_of_ble_eq_true rfl⟩) hS (fun v9 _ H locs wl hv9 hRc hRr hRo hP hD hS => ?_)
        refine n_top (y := .int (nI (if c1 5 i = 0 then c1 3 i else 0))) (congrArg Value.int hv9) ?_
        clear hv9 v9
        refine n_iadd hx hb dX2_begin_51 ?_
        refine x_put (D := D) (G := G) (ci := 3) (ty := .int) (C := RX2) (T := TX2) (N := 7) (Z := fun wl => Rc G (up2 (c_reset c1 i) 20 5 ((c1 20 5) + (if c1 5 i = 0 then c1 3 i else 0))) wl ∧ Rr G r wl ∧ Ro G o wl) hx hb hts inX2 tyX2 tyX2_ok nmX2 hown hK hP hD hS 0 (Q_o hRc) rfl 5 (by decide) (hts (.fieldLink RX2 33 "BootStage" "total" "I") (by decide +kernel)) (fun _ h9 => h9) rfl (by decide +kernel) rfl rfl (Nat.le_of_ble_eq_true rfl) dX2_begin_52 ⟨P_o5 ((c1 20 5) + (if c1 5 i = 0 then c1 3 i else 0)) hRc, Rr_fr hRr (by decide), Ro_fr hRo (by decide)⟩ (fun H locs wl hZ hP hD hS => ?_)
        obtain ⟨hRc, hRr, hRo⟩ := hZ
        refine lv_iinc (v := nI (i + 1)) (lv' := [(3, .int (nI (i + 1))), (2, .int (nI ((cutC (up2 c 20 4 t_5)).2))), (0, .ref (G 0))]) hx hb dX2_begin_55 hl (k := 0) rfl (nI_add i 1) (by decide) rfl (fun ls hl => ?_)
        refine lv_goto (tgt := 29) hx hb dX2_begin_58 (by decide) ?_
        exact ih29 (i + 1) (by omega) (by omega) (up2 (c_reset c1 i) 20 5 ((c1 20 5) + (if c1 5 i = 0 then c1 3 i else 0))) (by show _ = c_bg1 (c_bgI (c_bg0 c t_5) i) i; rw [← hc1]; rfl) _ _ _ _ hRc hRr hRo hP hD hS (lv_sub hl [0, 1, 2] rfl)
  exact L29 _ 0 (Nat.lt_succ_self _) (by omega) (up2 ((cutC (up2 c 20 4 t_5)).1) 20 5 0) (by rfl) _ _ _ _ hRc hRr hRo hP hD hS (lv_sub hl [0, 1, 2] rfl)
set_option maxHeartbeats 4000000 in
set_option maxRecDepth 100000 in
theorem k_X2_wish (l : Launch) (hlt : l.stackTraces = false) (D : va_G) (G : Nat → Nat) (h0 : Nat) (c r : Nat → Nat → Nat) (o : Nat) (x y z : Int32) (hI : IC c) (hW5 : c 30 0 ≤ 512) : vx_Met l yX2_wish wsX2_wish ({ frames := 7, cells := 7, slots := 2033, locals := 191 } : Room) (va_Pc [.ref (G 0), .int x, .int y, .int z] (fun U => Pr D G h0 c r o U)) (va_Qi (fun (v9 : Int32) (u9 : Nat → Nat → Nat) => ∃ a b t, a < c 20 1 ∧ b < c 20 1 ∧ x = nI a ∧ y = nI b ∧ a ≠ b ∧ (1 ≤ t ∧ t ≤ 100) ∧ z = nI t ∧ c 20 3 = 0 ∧ ((wfK c a b = 0 ∧ v9 = nI 0 ∧ ∃ q p N ca, ca = c_app (up2 (up2 (up2 (up2 (up2 (up2 (c_raw c q) 38 2 (a + 1)) 38 3 (b + 1)) 38 4 t) 37 0 (c 37 0 + 1)) 35 0 p) 36 0 N) a b t ∧ c 30 0 < N ∧ N ≤ 2 * (c 30 0 + 1) + 10 ∧ u9 = up2 ca 8 a (ca 8 a ||| 2 ^ b)) ∨ (∃ j, wfK c a b = j + 1 ∧ v9 = nI (c 33 j) ∧ u9 = up2 c 33 j t))) (fun (u9 : Nat → Nat → Nat) t => Wr D G h0 u9 r o t) (fun q => h0 ≤ q)) (xw D G h0 c r o (fun E => (E = exO ∧ ¬ (okU c x ∧ okU c y)) ∨ (E = exA ∧ okU c x ∧ okU c y ∧ ¬ (inR z 1 100 ∧ x ≠ y)) ∨ (E = exS ∧ okU c x ∧ okU c y ∧ (inR z 1 100 ∧ x ≠ y) ∧ c 20 3 ≠ 0))) 7 2033 (fun q => h0 ≤ q) := by
  refine vx_ofW (cc := cX2_wish) (maxL := 8) (ret := (some .int)) (by decide) rfl ?_
  intro p e s m args below meth cd s₁ B hml htab hv
  obtain ⟨rfl, hE, wl, hRc, hRr, hRo, hP, hD⟩ := hv
  have hx := B.exec
  have hb := B.bytes
  have hr := B.returns
  have hts := atoms_spec (ws := wsX2_wish) B.pre
  have hown : s.vm.findClass RX2 = some m.cls := findClass_of_methodNamed B.named
  have hlocks := B.notSynchronized
  have hK := hE.2.1
  have hS : va_S (fun q => h0 ≤ q) s.heap s.heap [] := va_S.rf
  have hl := lv_entry ([.ref (G 0), .int x, .int y, .int z]) (n := 8) (Nat.le_of_ble_eq_true rfl)
  rw [lg_entry_eq]
  generalize (lg_sl ([.ref (G 0), .int x, .int y, .int z]) ++ List.replicate (8 - (lg_sl ([.ref (G 0), .int x, .int y, .int z])).length) Slot.unset).toArray = ls at hl ⊢
  have hl : lv_has ls 8 [(0, .ref (G 0)), (1, .int x), (2, .int y), (3, .int z)] := hl
  have inX0 : ∀ w ∈ wsX00, w ∈ wsX2_wish := by decide +kernel
  have inX1 : ∀ w ∈ wsX10, w ∈ wsX2_wish := by decide +kernel
  have inX2 : ∀ w ∈ wsX20, w ∈ wsX2_wish := by decide +kernel
  have hB := IC_B hI
  have hn := IC_n hI
  have hs := IC_s hI
  have hA : ∀ q : Nat, s.heap.size ≤ q → h0 ≤ q := fun q h => Nat.le_trans hE.1 h
  refine lv_aload_n hx hb dX2_wish_0 rfl (lv_at hl 0 rfl) ?_
  refine lv_iload_n hx hb dX2_wish_1 rfl (lv_at hl 1 rfl) ?_
  refine yx_callr (vx_runV (As := [.int x]) (rest := []) ⟨hx, hb, hml, hown, hts⟩ (k_X2_unitAt l hlt D G h0 c r o x hn) (cwV 1 hts gX2_wish_X2_unitAt rfl rfl rfl (by decide +kernel) ⟨Nat.le_of_ble_eq_true rfl, Nat.le_of_ble_eq_true rfl⟩) ⟨fun a U g mk q => ⟨q.1, Pr_cg q.2⟩, va_recv (ci := 3) (q0 := 0) hK hP rfl (Q_o hRc), fun U hU hW => ⟨rfl, Pr_mk hE hRc hRr hRo hP hD hS hU hW⟩⟩ rfl rfl hl.1 rfl (lv_room (Nat.le_of_ble_eq_true rfl)) dX2_wish_2 ⟨Nat.le_of_ble_eq_true rfl, Nat.le_of_ble_eq_true rfl⟩) hS htab hlocks (fun E h => by exact Or.inl ⟨h.1, fun z => h.2 z.1⟩) (Nat.le_of_ble_eq_true rfl) (Nat.le_of_ble_eq_true rfl) (fun u9 H locs wl hp9 hRc hRr hRo hP hD hS => ?_)
  obtain ⟨hj_2, hxj_2⟩ : u9 < c 20 1 ∧ x = nI u9 := hp9
  obtain ⟨j_2, hju_2⟩ : ∃ z, z = u9 := ⟨_, rfl⟩
  rw [← hju_2] at hj_2 hxj_2 ⊢
  refine lv_astore (lv' := [(4, .ref (G (20 + j_2))), (0, .ref (G 0)), (1, .int x), (2, .int y), (3, .int z)]) hx hb dX2_wish_5 hl (by decide) rfl (fun ls hl => ?_)
  refine lv_aload_n hx hb dX2_wish_7 rfl (lv_at hl 1 rfl) ?_
  refine lv_iload_n hx hb dX2_wish_8 rfl (lv_at hl 3 rfl) ?_
  refine yx_callr (vx_runV (As := [.int y]) (rest := []) ⟨hx, hb, hml, hown, hts⟩ (k_X2_unitAt l hlt D G h0 c r o y hn) (cwV 1 hts gX2_wish_X2_unitAt rfl rfl rfl (by decide +kernel) ⟨Nat.le_of_ble_eq_true rfl, Nat.le_of_ble_eq_true rfl⟩) ⟨fun a U g mk q => ⟨q.1, Pr_cg q.2⟩, va_recv (ci := 3) (q0 := 0) hK hP rfl (Q_o hRc), fun U hU hW => ⟨rfl, Pr_mk hE hRc hRr hRo hP hD hS hU hW⟩⟩ rfl rfl hl.1 rfl (lv_room (Nat.le_of_ble_eq_true rfl)) dX2_wish_9 ⟨Nat.le_of_ble_eq_true rfl, Nat.le_of_ble_eq_true rfl⟩) hS htab hlocks (fun E h => by exact Or.inl ⟨h.1, fun z => h.2 z.2⟩) (Nat.le_of_ble_eq_true rfl) (Nat.le_of_ble_eq_true rfl) (fun u9 H locs wl hp9 hRc hRr hRo hP hD hS => ?_)
  obtain ⟨hj_9, hxj_9⟩ : u9 < c 20 1 ∧ y = nI u9 := hp9
  obtain ⟨j_9, hju_9⟩ : ∃ z, z = u9 := ⟨_, rfl⟩
  rw [← hju_9] at hj_9 hxj_9 ⊢
  refine lv_astore (lv' := [(5, .ref (G (20 + j_9))), (4, .ref (G (20 + j_2))), (0, .ref (G 0)), (1, .int x), (2, .int y), (3, .int z)]) hx hb dX2_wish_12 hl (by decide) rfl (fun ls hl => ?_)
  refine lv_aload_n hx hb dX2_wish_14 rfl (lv_at hl 2 rfl) ?_
  refine lv_iload_n hx hb dX2_wish_15 rfl (lv_at hl 5 rfl) ?_
  refine lv_iconst (v := nI 1) hx hb dX2_wish_16 (by decide) ?_
  refine lv_bipush (v := nI 100) hx hb dX2_wish_17 (by decide) ?_
  refine yx_callv (vx_runV (As := [.int z, .int (nI 1), .int (nI 100)]) (rest := []) ⟨hx, hb, hml, hown, hts⟩ (k_X2_checkRange l hlt D G h0 c r o z 1 100) (cwV 3 hts gX2_wish_X2_checkRange rfl rfl rfl (by decide +kernel) ⟨Nat.le_of_ble_eq_true rfl, Nat.le_of_ble_eq_true rfl⟩) ⟨fun a U g mk q => ⟨q.1, Pr_cg q.2⟩, va_recv (ci := 3) (q0 := 0) hK hP rfl (Q_o hRc), fun U hU hW => ⟨rfl, Pr_mk hE hRc hRr hRo hP hD hS hU hW⟩⟩ rfl rfl hl.1 rfl (lv_room (Nat.le_of_ble_eq_true rfl)) dX2_wish_19 ⟨Nat.le_of_ble_eq_true rfl, Nat.le_of_ble_eq_true rfl⟩) hS htab hlocks (fun E h => by exact Or.inr (Or.inl ⟨h.1, ⟨j_2, hj_2, hxj_2⟩, ⟨j_9, hj_9, hxj_9⟩, fun z => h.2 z.1⟩)) (Nat.le_of_ble_eq_true rfl) (Nat.le_of_ble_eq_true rfl) (fun u9 H locs wl hp9 hRc hRr hRo hP hD hS => ?_)
  have hr_19 : inR z 1 100 := hp9
  obtain ⟨t_19, ht_19, hxt_19⟩ := inR_nI hr_19 (by decide) (by decide)
  refine lv_aload_n hx hb dX2_wish_22 rfl (lv_at hl 2 rfl) ?_
  refine lv_aload hx hb dX2_wish_23 (lv_at hl 1 rfl) ?_
  refine lv_aload hx hb dX2_wish_25 (lv_at hl 0 rfl) ?_
  refine yx_callv (vx_runV (As := [.ref (G (20 + j_2)), .ref (G (20 + j_9))]) (rest := []) ⟨hx, hb, hml, hown, hts⟩ (k_X2_checkDifferent l hlt D G h0 c r o j_2 j_9 (by first | omega | assumption) (by first | omega | assumption)) (cwV 2 hts gX2_wish_X2_checkDifferent rfl rfl rfl (by decide +kernel) ⟨Nat.le_of_ble_eq_true rfl, Nat.le_of_ble_eq_true rfl⟩) ⟨fun a U g mk q => ⟨q.1, Pr_cg q.2⟩, va_recv (ci := 3) (q0 := 0) hK hP rfl (Q_o hRc), fun U hU hW => ⟨rfl, Pr_mk hE hRc hRr hRo hP hD hS hU hW⟩⟩ rfl rfl hl.1 rfl (lv_room (Nat.le_of_ble_eq_true rfl)) dX2_wish_27 ⟨Nat.le_of_ble_eq_true rfl, Nat.le_of_ble_eq_true rfl⟩) hS htab hlocks (fun E h => by exact Or.inr (Or.inl ⟨h.1, ⟨j_2, hj_2, hxj_2⟩, ⟨j_9, hj_9, hxj_9⟩, fun z => z.2 (by rw [hxj_2, hxj_9, h.2])⟩)) (Nat.le_of_ble_eq_true rfl) (Nat.le_of_ble_eq_true rfl) (fun u9 H locs wl hp9 hRc hRr hRo hP hD hS => ?_)
  have hd_27 : j_2 ≠ j_9 := hp9
  refine lv_aload_n hx hb dX2_wish_30 rfl (lv_at hl 2 rfl) ?_
  refine yx_callv (vx_runV (As := []) (rest := []) ⟨hx, hb, hml, hown, hts⟩ (k_X2_checkNoStart l hlt D G h0 c r o (hB _ _ (by decide))) (cwV 0 hts gX2_wish_X2_checkNoStart rfl rfl rfl (by decide +kernel) ⟨Nat.le_of_ble_eq_true rfl, Nat.le_of_ble_eq_true rfl⟩) ⟨fun a U g mk q => ⟨q.1, Pr_cg q.2⟩, va_recv (ci := 3) (q0 := 0) hK hP rfl (Q_o hRc), fun U hU hW => ⟨rfl, Pr_mk hE hRc hRr hRo hP hD hS hU hW⟩⟩ rfl rfl hl.1 rfl (lv_room (Nat.le_of_ble_eq_true rfl)) dX2_wish_31 ⟨Nat.le_of_ble_eq_true rfl, Nat.le_of_ble_eq_true rfl⟩) hS htab hlocks (fun E h => by exact Or.inr (Or.inr ⟨h.1, ⟨j_2, hj_2, hxj_2⟩, ⟨j_9, hj_9, hxj_9⟩, ⟨hr_19, by rw [hxj_2, hxj_9]; exact fun z => hd_27 ((nI_eq (by omega) (by omega)).mp z)⟩, h.2⟩)) (Nat.le_of_ble_eq_true rfl) (Nat.le_of_ble_eq_true rfl) (fun u9 H locs wl hp9 hRc hRr hRo hP hD hS => ?_)
  have hg_31 : c 20 3 = 0 := hp9
  refine lv_aload_n hx hb dX2_wish_34 rfl (lv_at hl 2 rfl) ?_
  refine lv_aload hx hb dX2_wish_35 (lv_at hl 1 rfl) ?_
  refine lv_aload hx hb dX2_wish_37 (lv_at hl 0 rfl) ?_
  refine y_callq (va_runV (As := [.ref (G (20 + j_2)), .ref (G (20 + j_9))]) (rest := []) ⟨hx, hb, hml, hown, hts⟩ (k_X2_findWish l D G h0 c r o hI hW5 j_2 j_9 (by first | omega | assumption) (by first | omega | assumption)) (cwV 2 hts gX2_wish_X2_findWish rfl rfl rfl (by decide +kernel) ⟨Nat.le_of_ble_eq_true rfl, Nat.le_of_ble_eq_true rfl⟩) ⟨fun a U g mk q => ⟨q.1, Pr_cg q.2⟩, va_recv (ci := 3) (q0 := 0) hK hP rfl (Q_o hRc), fun U hU hW => ⟨rfl, Pr_mk hE hRc hRr hRo hP hD hS hU hW⟩⟩ rfl rfl hl.1 rfl (lv_room (Nat.le_of_ble_eq_true rfl)) dX2_wish_39 ⟨Nat.le_of_ble_eq_true rfl, Nat.le_of_ble_eq_true rfl⟩) hS (fun v9 _ H locs wl hv9 hRc hRr hRo hP hD hS => ?_)
  have hv9 : v9 = wsO c (wfK c j_2 j_9) := hv9
  subst hv9
  rcases (show wfK c j_2 j_9 = 0 ∨ ∃ w, wfK c j_2 j_9 = w + 1 from by cases h9 : wfK c j_2 j_9 with | zero => exact Or.inl rfl | succ w => exact Or.inr ⟨w, rfl⟩) with hz_39 | ⟨w_39, hz_39⟩
  · refine n_top (y := .null) (congrArg va_rf (wsO_0 c hz_39)) ?_
    refine lv_astoreN (lv' := [(6, .null), (5, .ref (G (20 + j_9))), (4, .ref (G (20 + j_2))), (0, .ref (G 0)), (1, .int x), (2, .int y), (3, .int z)]) hx hb dX2_wish_42 hl (by decide) rfl (fun ls hl => ?_)
    refine lv_aloadN hx hb dX2_wish_44 (lv_at hl 0 rfl) ?_
    refine lv_ifnonnullN hx hb dX2_wish_46 ?_
    refine lv_aload_n hx hb dX2_wish_49 rfl (lv_at hl 3 rfl) ?_
    refine va_get (D := D) (ci := 3) (v := .ref (G 2)) (C := RX2) (T := TX2) (N := 7) hx hb hts inX2 hown hK hP 0 (Q_o hRc) rfl 2 (by decide) (hts (.fieldLink RX2 22 "BootStage" "wishes" "Ljava/util/ArrayList;") (by decide +kernel)) (fun _ h9 => h9) rfl dX2_wish_50 ?_
    refine va_new (ci := 2) (fs := [.null, .null, .int 0]) (C := RX1) (T := TX1) (N := 3) hx hb hts inX1 tyX1 tyX1_ok hown (hts (.classLink RX2 94 RX1) (by decide +kernel)) (hts (.instantiable RX1 3) (by decide +kernel)) (hts (.initialized RX1) (by decide +kernel)) hK hP hD hS hA rfl (fun j hj => by rcases (show j = 0 ∨ j = 1 ∨ j = 2 by omega) with rfl | rfl | rfl <;> rfl) (Nat.le_of_ble_eq_true rfl) (Nat.le_of_ble_eq_true rfl) dX2_wish_53 (fun q9 H hP hD hS => ?_)
    have hRc := P_new hD hRc
    have hRr := Rr_ap (l := [(q9, (.inr (2, [.null, .null, .int 0]) : va_E))]) hRr
    have hRo := Ro_ap (l := [(q9, (.inr (2, [.null, .null, .int 0]) : va_E))]) hRo
    refine lv_dup hx hb dX2_wish_56 rfl ?_
    refine lv_aload hx hb dX2_wish_57 (lv_at hl 2 rfl) ?_
    refine lv_aload hx hb dX2_wish_59 (lv_at hl 1 rfl) ?_
    refine lv_iload_n hx hb dX2_wish_61 rfl (lv_at hl 6 rfl) ?_
    refine n_top (y := .int (nI t_19)) (congrArg Value.int hxt_19) ?_
    refine y_callv (va_runI (As := [.ref (G (20 + j_2)), .ref (G (20 + j_9)), .int (nI t_19)]) (rest := [.ref q9, .ref (G 2)]) ⟨hx, hb, hml, hown, hts⟩ (k_X1_init l D G h0 (c_raw c q9) r o j_2 j_9 t_19 rfl) (cwI 3 hts gX2_wish_X1_init rfl rfl rfl (hts (.initialized RX1) (by decide +kernel)) (hts (.methodLink RX2 96 yX1_init) (by decide +kernel)) (hts (.instanceMethod yX1_init) (by decide +kernel)) rfl (by decide +kernel) ⟨(Nat.le_of_ble_eq_true rfl), (Nat.le_of_ble_eq_true rfl)⟩) ⟨fun a U g mk q => ⟨q.1, Pr_cg q.2⟩, fun U hU hW => ⟨rfl, Pr_mk hE hRc hRr hRo hP hD hS hU hW⟩⟩ rfl rfl hl.1 rfl (lv_room (Nat.le_of_ble_eq_true rfl)) dX2_wish_62 ⟨(Nat.le_of_ble_eq_true rfl), (Nat.le_of_ble_eq_true rfl)⟩) hS (fun _ H locs wl _ hRc hRr hRo hP hD hS => ?_)
    have hLc := IC_L hI
    refine y_calli (va_runV (As := [.ref q9]) (rest := []) ⟨hx, hb, hml, hown, hts⟩ (k_Jx4a65c_add_9ea2d l D G h0 (up2 (up2 (up2 (c_raw c q9) 38 2 (j_2 + 1)) 38 3 (j_9 + 1)) 38 4 t_19) r o j_2 j_9 t_19 rfl rfl rfl rfl hLc.1 hLc.2 (show c 36 0 ≤ 1200 by omega)) (cwV 1 hts gX2_wish_Jx4a65c_add_9ea2d rfl rfl rfl (by decide +kernel) ⟨(Nat.le_of_ble_eq_true rfl), (Nat.le_of_ble_eq_true rfl)⟩) ⟨fun a U g mk q => ⟨q.1, Pr_cg q.2⟩, va_recv (ci := 0) (q0 := 2) hK hP rfl (Q_l hRc), fun U hU hW => ⟨rfl, Pr_mk hE hRc hRr hRo hP hD hS hU hW⟩⟩ rfl rfl hl.1 rfl (lv_room (Nat.le_of_ble_eq_true rfl)) dX2_wish_65 ⟨(Nat.le_of_ble_eq_true rfl), (Nat.le_of_ble_eq_true rfl)⟩) hS (fun v9 ca H locs wl hv9 hRc hRr hRo hP hD hS => ?_)
    obtain ⟨pb, nb, hca, hnb1, hnb2⟩ := hv9
    refine lv_pop hx hb dX2_wish_68 rfl ?_
    refine lv_aload hx hb dX2_wish_69 (lv_at hl 2 rfl) ?_
    refine lv_dup hx hb dX2_wish_71 rfl ?_
    refine va_get (D := D) (ci := 1) (v := .int (nI (ca 8 j_2))) (C := RX0) (T := TX0) (N := 13) hx hb hts inX0 hown hK hP (7 + j_2) (Q_u hRc (by first | omega | decide | assumption)) rfl 8 (by decide) (hts (.fieldLink RX2 103 "BootStage$Unit" "keptWishes" "I") (by decide +kernel)) (fun _ h9 => h9) rfl dX2_wish_72 ?_
    refine lv_aload hx hb dX2_wish_75 (lv_at hl 1 rfl) ?_
    refine y_calli (va_runV (As := []) (rest := [.int (nI (ca 8 j_2)), .ref (G (20 + j_2))]) ⟨hx, hb, hml, hown, hts⟩ (k_X0_bit l D G h0 ca r o j_9 (by first | omega | assumption)) (cwV 0 hts gX2_wish_X0_bit rfl rfl rfl (by decide +kernel) ⟨Nat.le_of_ble_eq_true rfl, Nat.le_of_ble_eq_true rfl⟩) ⟨fun a U g mk q => ⟨q.1, Pr_cg q.2⟩, va_recv (ci := 1) (q0 := 7 + j_9) hK hP rfl (Q_u hRc (by first | omega | decide | assumption)), fun U hU hW => ⟨rfl, Pr_mk hE hRc hRr hRo hP hD hS hU hW⟩⟩ rfl rfl hl.1 rfl (lv_room (Nat.le_of_ble_eq_true rfl)) dX2_wish_77 ⟨Nat.le_of_ble_eq_true rfl, Nat.le_of_ble_eq_true rfl⟩) hS (fun v9 _ H locs wl hv9 hRc hRr hRo hP hD hS => ?_)
    refine n_top (y := .int (nI (2 ^ j_9))) (congrArg Value.int hv9) ?_
    clear hv9 v9
    refine n_ior hx hb dX2_wish_80 ?_
    refine x_put (D := D) (G := G) (ci := 1) (ty := .int) (C := RX0) (T := TX0) (N := 13) (Z := fun wl => Rc G (up2 ca 8 j_2 ((ca 8 j_2) ||| (2 ^ j_9))) wl ∧ Rr G r wl ∧ Ro G o wl) hx hb hts inX0 tyX0 tyX0_ok nmX0 hown hK hP hD hS (7 + j_2) (Q_u hRc (by first | omega | decide | assumption)) rfl 8 (by decide) (hts (.fieldLink RX2 103 "BootStage$Unit" "keptWishes" "I") (by decide +kernel)) (fun _ h9 => h9) rfl (by decide +kernel) rfl rfl (Nat.le_of_ble_eq_true rfl) dX2_wish_81 ⟨P_u8 (u := j_2) ((ca 8 j_2) ||| (2 ^ j_9)) (by first | omega | decide | assumption) hRc, Rr_fr hRr (by omega), Ro_fr hRo (by omega)⟩ (fun H locs wl hZ hP hD hS => ?_)
    obtain ⟨hRc, hRr, hRo⟩ := hZ
    refine lv_iconst (v := nI 0) hx hb dX2_wish_84 (by decide) ?_
    refine vx_ret ?_
    refine W.widen (k := 7) (n := 2033) (Nat.le_of_ble_eq_true rfl) (Nat.le_of_ble_eq_true rfl) ?_
    have hrel : (fun (v9 : Int32) (u9 : Nat → Nat → Nat) => ∃ a b t, a < c 20 1 ∧ b < c 20 1 ∧ x = nI a ∧ y = nI b ∧ a ≠ b ∧ (1 ≤ t ∧ t ≤ 100) ∧ z = nI t ∧ c 20 3 = 0 ∧ ((wfK c a b = 0 ∧ v9 = nI 0 ∧ ∃ q p N ca, ca = c_app (up2 (up2 (up2 (up2 (up2 (up2 (c_raw c q) 38 2 (a + 1)) 38 3 (b + 1)) 38 4 t) 37 0 (c 37 0 + 1)) 35 0 p) 36 0 N) a b t ∧ c 30 0 < N ∧ N ≤ 2 * (c 30 0 + 1) + 10 ∧ u9 = up2 ca 8 a (ca 8 a ||| 2 ^ b)) ∨ (∃ j, wfK c a b = j + 1 ∧ v9 = nI (c 33 j) ∧ u9 = up2 c 33 j t))) (nI 0) (up2 ca 8 j_2 ((ca 8 j_2) ||| (2 ^ j_9))) := by exact ⟨j_2, j_9, t_19, hj_2, hj_9, hxj_2, hxj_9, hd_27, ht_19, hxt_19, hg_31, Or.inl ⟨hz_39, rfl, q9, pb, nb, ca, hca, hnb1, hnb2, rfl⟩⟩
    exact W.iret (v := nI 0) hx hb hr (fun t ht hW => ⟨⟨_, (up2 ca 8 j_2 ((ca 8 j_2) ||| (2 ^ j_9))), rfl, hrel, Wr_mk hRc hRr hRo hP hD ht⟩, hS.F ht⟩) hS.2.2 dX2_wish_85
  · refine n_top (y := .ref (c 34 w_39)) (congrArg va_rf (wsO_s c hz_39)) ?_
    have hlt_w_39 := fP_lt hz_39
    refine lv_astore (lv' := [(6, .ref (c 34 w_39)), (5, .ref (G (20 + j_9))), (4, .ref (G (20 + j_2))), (0, .ref (G 0)), (1, .int x), (2, .int y), (3, .int z)]) hx hb dX2_wish_42 hl (by decide) rfl (fun ls hl => ?_)
    refine lv_aload hx hb dX2_wish_44 (lv_at hl 0 rfl) ?_
    refine lv_ifnonnull (tgt := 86) hx hb dX2_wish_46 (by decide) ?_
    refine lv_aload hx hb dX2_wish_86 (lv_at hl 0 rfl) ?_
    obtain ⟨kw, hkw, hqw⟩ := Q_w hRc (show w_39 < c 30 0 by first | omega | decide | assumption)
    refine va_get (D := D) (ci := 2) (v := .int (nI (c 33 w_39))) (C := RX1) (T := TX1) (N := 3) hx hb hts inX1 hown hK hP kw hqw rfl 2 (by decide) (hts (.fieldLink RX2 106 "BootStage$Wish" "weight" "I") (by decide +kernel)) (fun _ h9 => h9) rfl dX2_wish_88 ?_
    refine lv_istore (lv' := [(7, .int (nI (c 33 w_39))), (6, .ref (c 34 w_39)), (5, .ref (G (20 + j_9))), (4, .ref (G (20 + j_2))), (0, .ref (G 0)), (1, .int x), (2, .int y), (3, .int z)]) hx hb dX2_wish_91 hl (by decide) rfl (fun ls hl => ?_)
    refine lv_aload hx hb dX2_wish_93 (lv_at hl 1 rfl) ?_
    refine lv_iload_n hx hb dX2_wish_95 rfl (lv_at hl 7 rfl) ?_
    refine n_top (y := .int (nI t_19)) (congrArg Value.int hxt_19) ?_
    obtain ⟨kw, hkw, hqw⟩ := Q_w hRc (show w_39 < c 30 0 by first | omega | decide | assumption)
    refine x_put (D := D) (G := G) (ci := 2) (ty := .int) (C := RX1) (T := TX1) (N := 3) (Z := fun wl => Rc G (up2 c 33 w_39 t_19) wl ∧ Rr G r wl ∧ Ro G o wl) hx hb hts inX1 tyX1 tyX1_ok nmX1 hown hK hP hD hS kw hqw rfl 2 (by decide) (hts (.fieldLink RX2 106 "BootStage$Wish" "weight" "I") (by decide +kernel)) (fun _ h9 => h9) rfl (by decide +kernel) rfl rfl (Nat.le_of_ble_eq_true rfl) dX2_wish_96 ⟨P_w t_19 hD (by first | omega | decide | assumption) hkw hqw hRc, Rr_fr hRr (by omega), Ro_fr hRo (by omega)⟩ (fun H locs wl hZ hP hD hS => ?_)
    obtain ⟨hRc, hRr, hRo⟩ := hZ
    refine lv_iload hx hb dX2_wish_99 (lv_at hl 0 rfl) ?_
    refine vx_ret ?_
    refine W.widen (k := 7) (n := 2033) (Nat.le_of_ble_eq_true rfl) (Nat.le_of_ble_eq_true rfl) ?_
    have hrel : (fun (v9 : Int32) (u9 : Nat → Nat → Nat) => ∃ a b t, a < c 20 1 ∧ b < c 20 1 ∧ x = nI a ∧ y = nI b ∧ a ≠ b ∧ (1 ≤ t ∧ t ≤ 100) ∧ z = nI t ∧ c 20 3 = 0 ∧ ((wfK c a b = 0 ∧ v9 = nI 0 ∧ ∃ q p N ca, ca = c_app (up2 (up2 (up2 (up2 (up2 (up2 (c_raw c q) 38 2 (a + 1)) 38 3 (b + 1)) 38 4 t) 37 0 (c 37 0 + 1)) 35 0 p) 36 0 N) a b t ∧ c 30 0 < N ∧ N ≤ 2 * (c 30 0 + 1) + 10 ∧ u9 = up2 ca 8 a (ca 8 a ||| 2 ^ b)) ∨ (∃ j, wfK c a b = j + 1 ∧ v9 = nI (c 33 j) ∧ u9 = up2 c 33 j t))) (nI (c 33 w_39)) (up2 c 33 w_39 t_19) := by exact ⟨j_2, j_9, t_19, hj_2, hj_9, hxj_2, hxj_9, hd_27, ht_19, hxt_19, hg_31, Or.inr ⟨w_39, hz_39, rfl, rfl⟩⟩
    exact W.iret (v := nI (c 33 w_39)) hx hb hr (fun t ht hW => ⟨⟨_, (up2 c 33 w_39 t_19), rfl, hrel, Wr_mk hRc hRr hRo hP hD ht⟩, hS.F ht⟩) hS.2.2 dX2_wish_101
