set_option maxHeartbeats 4000000 in
set_option maxRecDepth 100000 in
theorem k_X2_checkRange (l : Launch) (hlt : l.stackTraces = false) (D : va_G) (G : Nat → Nat) (h0 : Nat) (c r : Nat → Nat → Nat) (o : Nat) (x : Int32) (lo hi : Nat) : vx_Met l yX2_checkRange wsX2_checkRange ({ frames := 6, cells := 1, slots := 6, locals := 82 } : Room) (va_Pc [.ref (G 0), .int x, .int (nI lo), .int (nI hi)] (fun U => Pr D G h0 c r o U)) (va_Qv (fun (_ : Unit) => inR x lo hi) (fun _ t => Wr D G h0 c r o t) (fun q => h0 ≤ q)) (xw D G h0 c r o (fun E => E = exA ∧ ¬ inR x lo hi)) 1 6 (fun q => h0 ≤ q) := by
  refine vx_ofW (cc := cX2_checkRange) (maxL := 4) (ret := none) (by decide) rfl ?_
  intro p e s m args below meth cd s₁ B hml htab hv
  obtain ⟨rfl, hE, wl, hRc, hRr, hRo, hP, hD⟩ := hv
  have hx := B.exec
  have hb := B.bytes
  have hr := B.returns
  have hts := atoms_spec (ws := wsX2_checkRange) B.pre
  have hown : s.vm.findClass RX2 = some m.cls := findClass_of_methodNamed B.named
  have hlocks := B.notSynchronized
  have hK := hE.2.1
  have hS : va_S (fun q => h0 ≤ q) s.heap s.heap [] := va_S.rf
  have hl := lv_entry ([.ref (G 0), .int x, .int (nI lo), .int (nI hi)]) (n := 4) (Nat.le_of_ble_eq_true rfl)
  rw [lg_entry_eq]
  generalize (lg_sl ([.ref (G 0), .int x, .int (nI lo), .int (nI hi)]) ++ List.replicate (4 - (lg_sl ([.ref (G 0), .int x, .int (nI lo), .int (nI hi)])).length) Slot.unset).toArray = ls at hl ⊢
  have hl : lv_has ls 4 [(0, .ref (G 0)), (1, .int x), (2, .int (nI lo)), (3, .int (nI hi))] := hl
  refine lv_iload_n hx hb dX2_checkRange_0 rfl (lv_at hl 1 rfl) ?_
  refine lv_iload_n hx hb dX2_checkRange_1 rfl (lv_at hl 2 rfl) ?_
  refine lv_icmp_lt (tgt := 10) hx hb dX2_checkRange_2 (by decide) (fun c_2 => ?_) (fun c_2 => ?_)
  · exact x_throw (cls := exA) (text := "an argument is out of range") (ik := 155) (is := 157) (ic := 159) (sa := G 75) hx hb hlt hown (by decide +kernel) (hts (.classLink RX2 155 exA) (by decide +kernel)) (hts (.initialized exA) (by decide +kernel)) hE.2.2.1.2.2.1.2.2.2.2.1 (fun w h => hts w (List.mem_cons_of_mem _ (List.mem_append_right _ h))) (by decide +kernel) (by decide +kernel) hE hE.2.2.1.2.2.2.1.2.2.2.2.1 hS (hl.1.trans hml.symm) dX2_checkRange_10 dX2_checkRange_13 dX2_checkRange_14 dX2_checkRange_16 dX2_checkRange_19 htab hlocks (Nat.le_of_ble_eq_true rfl) (Nat.le_of_ble_eq_true rfl) (Nat.le_of_ble_eq_true rfl) (Nat.le_of_ble_eq_true rfl) hRc hRr hRo hP hD (⟨rfl, fun z => z.1 c_2⟩) (Nat.le_of_ble_eq_true rfl) (Nat.le_of_ble_eq_true rfl)
  · refine lv_iload_n hx hb dX2_checkRange_5 rfl (lv_at hl 1 rfl) ?_
    refine lv_iload_n hx hb dX2_checkRange_6 rfl (lv_at hl 3 rfl) ?_
    refine lv_icmp_le (tgt := 20) hx hb dX2_checkRange_7 (by decide) (fun c_7 => ?_) (fun c_7 => ?_)
    · refine vx_ret ?_
      refine W.widen (k := 1) (n := 6) (Nat.le_of_ble_eq_true rfl) (Nat.le_of_ble_eq_true rfl) ?_
      exact W.vret hx hb hr (fun t ht hW => ⟨⟨(), rfl, ⟨c_2, c_7⟩, Wr_mk hRc hRr hRo hP hD ht⟩, hS.F ht⟩) hS.2.2 dX2_checkRange_20
    · exact x_throw (cls := exA) (text := "an argument is out of range") (ik := 155) (is := 157) (ic := 159) (sa := G 75) hx hb hlt hown (by decide +kernel) (hts (.classLink RX2 155 exA) (by decide +kernel)) (hts (.initialized exA) (by decide +kernel)) hE.2.2.1.2.2.1.2.2.2.2.1 (fun w h => hts w (List.mem_cons_of_mem _ (List.mem_append_right _ h))) (by decide +kernel) (by decide +kernel) hE hE.2.2.1.2.2.2.1.2.2.2.2.1 hS (hl.1.trans hml.symm) dX2_checkRange_10 dX2_checkRange_13 dX2_checkRange_14 dX2_checkRange_16 dX2_checkRange_19 htab hlocks (Nat.le_of_ble_eq_true rfl) (Nat.le_of_ble_eq_true rfl) (Nat.le_of_ble_eq_true rfl) (Nat.le_of_ble_eq_true rfl) hRc hRr hRo hP hD (⟨rfl, fun z => c_7 z.2⟩) (Nat.le_of_ble_eq_true rfl) (Nat.le_of_ble_eq_true rfl)
set_option maxHeartbeats 4000000 in
set_option maxRecDepth 100000 in
theorem k_X2_unitAt (l : Launch) (hlt : l.stackTraces = false) (D : va_G) (G : Nat → Nat) (h0 : Nat) (c r : Nat → Nat → Nat) (o : Nat) (x : Int32) (hn : c 20 1 ≤ 20) : vx_Met l yX2_unitAt wsX2_unitAt ({ frames := 6, cells := 1, slots := 6, locals := 82 } : Room) (va_Pc [.ref (G 0), .int x] (fun U => Pr D G h0 c r o U)) (va_Qr (fun (j9 : Nat) => j9 < c 20 1 ∧ x = nI j9) (fun j9 a9 t => a9 = G (20 + j9) ∧ Wr D G h0 c r o t) (fun q => h0 ≤ q)) (xw D G h0 c r o (fun E => E = exO ∧ ¬ okU c x)) 1 6 (fun q => h0 ≤ q) := by
  refine vx_ofW (cc := cX2_unitAt) (maxL := 2) (ret := (some (.object "BootStage$Unit"))) (by decide) rfl ?_
  intro p e s m args below meth cd s₁ B hml htab hv
  obtain ⟨rfl, hE, wl, hRc, hRr, hRo, hP, hD⟩ := hv
  have hx := B.exec
  have hb := B.bytes
  have hr := B.returns
  have hts := atoms_spec (ws := wsX2_unitAt) B.pre
  have hown : s.vm.findClass RX2 = some m.cls := findClass_of_methodNamed B.named
  have hlocks := B.notSynchronized
  have hK := hE.2.1
  have hS : va_S (fun q => h0 ≤ q) s.heap s.heap [] := va_S.rf
  have hl := lv_entry ([.ref (G 0), .int x]) (n := 2) (Nat.le_of_ble_eq_true rfl)
  rw [lg_entry_eq]
  generalize (lg_sl ([.ref (G 0), .int x]) ++ List.replicate (2 - (lg_sl ([.ref (G 0), .int x])).length) Slot.unset).toArray = ls at hl ⊢
  have hl : lv_has ls 2 [(0, .ref (G 0)), (1, .int x)] := hl
  have inX2 : ∀ w ∈ wsX20, w ∈ wsX2_unitAt := by decide +kernel
  refine lv_iload_n hx hb dX2_unitAt_0 rfl (lv_at hl 1 rfl) ?_
  refine lv_if_lt (tgt := 12) hx hb dX2_unitAt_1 (by decide) (fun c_1 => ?_) (fun c_1 => ?_)
  · exact x_throw (cls := exO) (text := "there is no such unit") (ik := 150) (is := 152) (ic := 154) (sa := G 74) hx hb hlt hown (by decide +kernel) (hts (.classLink RX2 150 exO) (by decide +kernel)) (hts (.initialized exO) (by decide +kernel)) hE.2.2.1.2.2.1.2.2.2.1 (fun w h => hts w (List.mem_cons_of_mem _ (List.mem_append_right _ h))) (by decide +kernel) (by decide +kernel) hE hE.2.2.1.2.2.2.1.2.2.2.1 hS (hl.1.trans hml.symm) dX2_unitAt_12 dX2_unitAt_15 dX2_unitAt_16 dX2_unitAt_18 dX2_unitAt_21 htab hlocks (Nat.le_of_ble_eq_true rfl) (Nat.le_of_ble_eq_true rfl) (Nat.le_of_ble_eq_true rfl) (Nat.le_of_ble_eq_true rfl) hRc hRr hRo hP hD (⟨rfl, fun z => by obtain ⟨j, hj, e9⟩ := z; subst e9; exact nI_pos (by omega) c_1⟩) (Nat.le_of_ble_eq_true rfl) (Nat.le_of_ble_eq_true rfl)
  · refine lv_iload_n hx hb dX2_unitAt_4 rfl (lv_at hl 1 rfl) ?_
    refine lv_aload_n hx hb dX2_unitAt_5 rfl (lv_at hl 0 rfl) ?_
    refine va_get (D := D) (ci := 3) (v := .int (nI (c 20 1))) (C := RX2) (T := TX2) (N := 7) hx hb hts inX2 hown hK hP 0 (Q_o hRc) rfl 1 (by decide) (hts (.fieldLink RX2 15 "BootStage" "count" "I") (by decide +kernel)) (fun _ h9 => h9) rfl dX2_unitAt_6 ?_
    refine lv_icmp_lt (tgt := 22) hx hb dX2_unitAt_9 (by decide) (fun c_9 => ?_) (fun c_9 => ?_)
    · obtain ⟨j, hj, hxj⟩ : ∃ j, j < c 20 1 ∧ x = nI j := by rcases pk_ix x (n := c 20 1) (by omega) with z | z | z; exact absurd z c_1; exact absurd c_9 (Int32.not_lt.mpr z); exact z
      refine lv_aload_n hx hb dX2_unitAt_22 rfl (lv_at hl 0 rfl) ?_
      refine va_get (D := D) (ci := 3) (v := .ref (G 1)) (C := RX2) (T := TX2) (N := 7) hx hb hts inX2 hown hK hP 0 (Q_o hRc) rfl 0 (by decide) (hts (.fieldLink RX2 11 "BootStage" "rows" "[LBootStage$Unit;") (by decide +kernel)) (fun _ h9 => h9) rfl dX2_unitAt_23 ?_
      refine lv_iload_n hx hb dX2_unitAt_26 rfl (lv_at hl 1 rfl) ?_
      refine n_top (y := .int (nI j)) (congrArg Value.int hxj) ?_
      refine x_row hx hb hK hP hRc (by first | omega | decide | assumption) dX2_unitAt_27 ?_
      refine vx_ret ?_
      refine W.widen (k := 1) (n := 6) (Nat.le_of_ble_eq_true rfl) (Nat.le_of_ble_eq_true rfl) ?_
      exact W.aret (v := .ref (G (20 + j))) (rt := .object "BootStage$Unit") hx hb hr (Or.inl ⟨_, rfl⟩) (Or.inr ⟨_, rfl⟩) (fun t ht hW => ⟨⟨j, _, rfl, ⟨hj, hxj⟩, rfl, Wr_mk hRc hRr hRo hP hD ht⟩, hS.F ht⟩) hS.2.2 dX2_unitAt_28
    · exact x_throw (cls := exO) (text := "there is no such unit") (ik := 150) (is := 152) (ic := 154) (sa := G 74) hx hb hlt hown (by decide +kernel) (hts (.classLink RX2 150 exO) (by decide +kernel)) (hts (.initialized exO) (by decide +kernel)) hE.2.2.1.2.2.1.2.2.2.1 (fun w h => hts w (List.mem_cons_of_mem _ (List.mem_append_right _ h))) (by decide +kernel) (by decide +kernel) hE hE.2.2.1.2.2.2.1.2.2.2.1 hS (hl.1.trans hml.symm) dX2_unitAt_12 dX2_unitAt_15 dX2_unitAt_16 dX2_unitAt_18 dX2_unitAt_21 htab hlocks (Nat.le_of_ble_eq_true rfl) (Nat.le_of_ble_eq_true rfl) (Nat.le_of_ble_eq_true rfl) (Nat.le_of_ble_eq_true rfl) hRc hRr hRo hP hD (⟨rfl, fun z => by obtain ⟨j, hj, e9⟩ := z; subst e9; exact c_9 (nI_lt hj (by omega))⟩) (Nat.le_of_ble_eq_true rfl) (Nat.le_of_ble_eq_true rfl)
set_option maxHeartbeats 4000000 in
set_option maxRecDepth 100000 in
theorem k_X2_checkDifferent (l : Launch) (hlt : l.stackTraces = false) (D : va_G) (G : Nat → Nat) (h0 : Nat) (c r : Nat → Nat → Nat) (o : Nat) (a b : Nat) (ha : a < 20) (hb2 : b < 20) : vx_Met l yX2_checkDifferent wsX2_checkDifferent ({ frames := 6, cells := 1, slots := 6, locals := 82 } : Room) (va_Pc [.ref (G 0), .ref (G (20 + a)), .ref (G (20 + b))] (fun U => Pr D G h0 c r o U)) (va_Qv (fun (_ : Unit) => a ≠ b) (fun _ t => Wr D G h0 c r o t) (fun q => h0 ≤ q)) (xw D G h0 c r o (fun E => E = exA ∧ a = b)) 1 6 (fun q => h0 ≤ q) := by
  refine vx_ofW (cc := cX2_checkDifferent) (maxL := 3) (ret := none) (by decide) rfl ?_
  intro p e s m args below meth cd s₁ B hml htab hv
  obtain ⟨rfl, hE, wl, hRc, hRr, hRo, hP, hD⟩ := hv
  have hx := B.exec
  have hb := B.bytes
  have hr := B.returns
  have hts := atoms_spec (ws := wsX2_checkDifferent) B.pre
  have hown : s.vm.findClass RX2 = some m.cls := findClass_of_methodNamed B.named
  have hlocks := B.notSynchronized
  have hK := hE.2.1
  have hS : va_S (fun q => h0 ≤ q) s.heap s.heap [] := va_S.rf
  have hl := lv_entry ([.ref (G 0), .ref (G (20 + a)), .ref (G (20 + b))]) (n := 3) (Nat.le_of_ble_eq_true rfl)
  rw [lg_entry_eq]
  generalize (lg_sl ([.ref (G 0), .ref (G (20 + a)), .ref (G (20 + b))]) ++ List.replicate (3 - (lg_sl ([.ref (G 0), .ref (G (20 + a)), .ref (G (20 + b))])).length) Slot.unset).toArray = ls at hl ⊢
  have hl : lv_has ls 3 [(0, .ref (G 0)), (1, .ref (G (20 + a))), (2, .ref (G (20 + b)))] := hl
  refine lv_aload_n hx hb dX2_checkDifferent_0 rfl (lv_at hl 1 rfl) ?_
  refine lv_aload_n hx hb dX2_checkDifferent_1 rfl (lv_at hl 2 rfl) ?_
  refine lv_acmp_ne (rx := (some (G (20 + a)))) (ry := (some (G (20 + b)))) (tgt := 15) hx hb dX2_checkDifferent_2 (by decide) (fun c_2 => ?_) (fun c_2 => ?_)
  · refine vx_ret ?_
    refine W.widen (k := 1) (n := 6) (Nat.le_of_ble_eq_true rfl) (Nat.le_of_ble_eq_true rfl) ?_
    exact W.vret hx hb hr (fun t ht hW => ⟨⟨(), rfl, (fun z => c_2 (by rw [z])), Wr_mk hRc hRr hRo hP hD ht⟩, hS.F ht⟩) hS.2.2 dX2_checkDifferent_15
  · exact x_throw (cls := exA) (text := "both units are the same") (ik := 155) (is := 160) (ic := 159) (sa := G 76) hx hb hlt hown (by decide +kernel) (hts (.classLink RX2 155 exA) (by decide +kernel)) (hts (.initialized exA) (by decide +kernel)) hE.2.2.1.2.2.1.2.2.2.2.2.1 (fun w h => hts w (List.mem_cons_of_mem _ (List.mem_append_right _ h))) (by decide +kernel) (by decide +kernel) hE hE.2.2.1.2.2.2.1.2.2.2.2.1 hS (hl.1.trans hml.symm) dX2_checkDifferent_5 dX2_checkDifferent_8 dX2_checkDifferent_9 dX2_checkDifferent_11 dX2_checkDifferent_14 htab hlocks (Nat.le_of_ble_eq_true rfl) (Nat.le_of_ble_eq_true rfl) (Nat.le_of_ble_eq_true rfl) (Nat.le_of_ble_eq_true rfl) hRc hRr hRo hP hD (⟨rfl, G_u hRc hD ha hb2 (Option.some.inj c_2)⟩) (Nat.le_of_ble_eq_true rfl) (Nat.le_of_ble_eq_true rfl)
set_option maxHeartbeats 4000000 in
set_option maxRecDepth 100000 in
theorem k_X2_checkDifferentN (l : Launch) (hlt : l.stackTraces = false) (D : va_G) (G : Nat → Nat) (h0 : Nat) (c r : Nat → Nat → Nat) (o : Nat) (a : Nat) : vx_Met l yX2_checkDifferent wsX2_checkDifferent ({ frames := 0, cells := 0, slots := 0, locals := 0 } : Room) (va_Pc [.ref (G 0), .ref (G (20 + a)), .null] (fun U => Pr D G h0 c r o U)) (va_Qv (fun (_ : Unit) => True) (fun _ t => Wr D G h0 c r o t) (fun q => h0 ≤ q)) (xw D G h0 c r o (fun _ => False)) 0 0 (fun q => h0 ≤ q) := by
  refine vx_ofW (cc := cX2_checkDifferent) (maxL := 3) (ret := none) (by decide) rfl ?_
  intro p e s m args below meth cd s₁ B hml htab hv
  obtain ⟨rfl, hE, wl, hRc, hRr, hRo, hP, hD⟩ := hv
  have hx := B.exec
  have hb := B.bytes
  have hr := B.returns
  have hts := atoms_spec (ws := wsX2_checkDifferent) B.pre
  have hown : s.vm.findClass RX2 = some m.cls := findClass_of_methodNamed B.named
  have hlocks := B.notSynchronized
  have hK := hE.2.1
  have hS : va_S (fun q => h0 ≤ q) s.heap s.heap [] := va_S.rf
  have hl := lv_entry ([.ref (G 0), .ref (G (20 + a)), .null]) (n := 3) (Nat.le_of_ble_eq_true rfl)
  rw [lg_entry_eq]
  generalize (lg_sl ([.ref (G 0), .ref (G (20 + a)), .null]) ++ List.replicate (3 - (lg_sl ([.ref (G 0), .ref (G (20 + a)), .null])).length) Slot.unset).toArray = ls at hl ⊢
  have hl : lv_has ls 3 [(0, .ref (G 0)), (1, .ref (G (20 + a))), (2, .null)] := hl
  refine lv_aload_n hx hb dX2_checkDifferent_0 rfl (lv_at hl 1 rfl) ?_
  refine lv_aload_nN hx hb dX2_checkDifferent_1 rfl (lv_at hl 2 rfl) ?_
  refine lv_acmp_ne (rx := (some (G (20 + a)))) (ry := none) (tgt := 15) hx hb dX2_checkDifferent_2 (by decide) (fun c_2 => ?_) (fun c_2 => ?_)
  · refine vx_ret ?_
    refine W.widen (k := 0) (n := 0) (Nat.le_of_ble_eq_true rfl) (Nat.le_of_ble_eq_true rfl) ?_
    exact W.vret hx hb hr (fun t ht hW => ⟨⟨(), rfl, trivial, Wr_mk hRc hRr hRo hP hD ht⟩, hS.F ht⟩) hS.2.2 dX2_checkDifferent_15
  · exfalso; cases c_2
set_option maxHeartbeats 4000000 in
set_option maxRecDepth 100000 in
theorem k_X2_checkNoStart (l : Launch) (hlt : l.stackTraces = false) (D : va_G) (G : Nat → Nat) (h0 : Nat) (c r : Nat → Nat → Nat) (o : Nat) (hg : c 20 3 < 2 ^ 31) : vx_Met l yX2_checkNoStart wsX2_checkNoStart ({ frames := 6, cells := 1, slots := 6, locals := 82 } : Room) (va_Pc [.ref (G 0)] (fun U => Pr D G h0 c r o U)) (va_Qv (fun (_ : Unit) => c 20 3 = 0) (fun _ t => Wr D G h0 c r o t) (fun q => h0 ≤ q)) (xw D G h0 c r o (fun E => E = exS ∧ c 20 3 ≠ 0)) 1 6 (fun q => h0 ≤ q) := by
  refine vx_ofW (cc := cX2_checkNoStart) (maxL := 1) (ret := none) (by decide) rfl ?_
  intro p e s m args below meth cd s₁ B hml htab hv
  obtain ⟨rfl, hE, wl, hRc, hRr, hRo, hP, hD⟩ := hv
  have hx := B.exec
  have hb := B.bytes
  have hr := B.returns
  have hts := atoms_spec (ws := wsX2_checkNoStart) B.pre
  have hown : s.vm.findClass RX2 = some m.cls := findClass_of_methodNamed B.named
  have hlocks := B.notSynchronized
  have hK := hE.2.1
  have hS : va_S (fun q => h0 ≤ q) s.heap s.heap [] := va_S.rf
  have hl := lv_entry ([.ref (G 0)]) (n := 1) (Nat.le_of_ble_eq_true rfl)
  rw [lg_entry_eq]
  generalize (lg_sl ([.ref (G 0)]) ++ List.replicate (1 - (lg_sl ([.ref (G 0)])).length) Slot.unset).toArray = ls at hl ⊢
  have hl : lv_has ls 1 [(0, .ref (G 0))] := hl
  have inX2 : ∀ w ∈ wsX20, w ∈ wsX2_checkNoStart := by decide +kernel
  refine lv_aload_n hx hb dX2_checkNoStart_0 rfl (lv_at hl 0 rfl) ?_
  refine va_get (D := D) (ci := 3) (v := .int (nI (c 20 3))) (C := RX2) (T := TX2) (N := 7) hx hb hts inX2 hown hK hP 0 (Q_o hRc) rfl 3 (by decide) (hts (.fieldLink RX2 26 "BootStage" "isGoingOn" "Z") (by decide +kernel)) (fun _ h9 => h9) rfl dX2_checkNoStart_1 ?_
  refine n_if_eq (tgt := 17) hx hb dX2_checkNoStart_4 (by decide) hg (fun c_4 => ?_) (fun c_4 => ?_)
  · refine vx_ret ?_
    refine W.widen (k := 1) (n := 6) (Nat.le_of_ble_eq_true rfl) (Nat.le_of_ble_eq_true rfl) ?_
    exact W.vret hx hb hr (fun t ht hW => ⟨⟨(), rfl, c_4, Wr_mk hRc hRr hRo hP hD ht⟩, hS.F ht⟩) hS.2.2 dX2_checkNoStart_17
  · exact x_throw (cls := exS) (text := "a start goes on") (ik := 46) (is := 162) (ic := 50) (sa := G 77) hx hb hlt hown (by decide +kernel) (hts (.classLink RX2 46 exS) (by decide +kernel)) (hts (.initialized exS) (by decide +kernel)) hE.2.2.1.2.2.1.2.2.2.2.2.2 (fun w h => hts w (List.mem_cons_of_mem _ (List.mem_append_right _ h))) (by decide +kernel) (by decide +kernel) hE hE.2.2.1.2.2.2.1.2.2.2.2.2 hS (hl.1.trans hml.symm) dX2_checkNoStart_7 dX2_checkNoStart_10 dX2_checkNoStart_11 dX2_checkNoStart_13 dX2_checkNoStart_16 htab hlocks (Nat.le_of_ble_eq_true rfl) (Nat.le_of_ble_eq_true rfl) (Nat.le_of_ble_eq_true rfl) (Nat.le_of_ble_eq_true rfl) hRc hRr hRo hP hD (⟨rfl, Nat.ne_of_gt c_4⟩) (Nat.le_of_ble_eq_true rfl) (Nat.le_of_ble_eq_true rfl)
