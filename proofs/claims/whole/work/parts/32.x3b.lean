theorem b01 {x : Nat} {P : Prop} (h : x ≤ 1) (hp : 0 < x ↔ P) : x = bN P := by
  rcases Nat.eq_zero_or_pos x with e | e
  · rw [bN_f (fun z => absurd (hp.mpr z) (by omega)), e]
  · rw [bN_t (hp.mp e)]; omega
theorem rr_one {r r1 : Nat → Nat → Nat} {fl a k : Nat} (hv : k % r 30 0 < r 30 0) (hS : ∀ j, j < r 30 0 → (0 < r1 21 j ↔ rrS r fl a k j)) (h : rrS r fl a (k + 1) (k % r 30 0)) : ∀ j, j < r 30 0 → (0 < up2 r1 21 (k % r 30 0) 1 21 j ↔ rrS r fl a (k + 1) j) := by
  intro j hj
  by_cases e : j = k % r 30 0
  · rw [e, up2_s]; exact ⟨fun _ => h, fun _ => by decide⟩
  · rw [up2_i e, hS j hj]; exact ⟨Or.inl, fun z => z.elim id (fun z => absurd z.1 e)⟩
theorem rr_zero {r r1 : Nat → Nat → Nat} {fl a k : Nat} (hv : k % r 30 0 < r 30 0) (hS : ∀ j, j < r 30 0 → (0 < r1 21 j ↔ rrS r fl a k j)) (h1 : ¬ rrS r fl a k (k % r 30 0)) (h2 : ¬ (rrS r fl a k (k / r 30 0 % r 30 0) ∧ eR r fl (k / r 30 0 % r 30 0) (k % r 30 0))) : ∀ j, j < r 30 0 → (0 < up2 r1 21 (k % r 30 0) 0 21 j ↔ rrS r fl a (k + 1) j) := by
  intro j hj
  by_cases e : j = k % r 30 0
  · subst e
    rw [up2_s]
    exact ⟨fun z => absurd z (by decide), fun z => z.elim (fun z => absurd z h1) (fun z => absurd z.2 h2)⟩
  · rw [up2_i e, hS j hj]; exact ⟨Or.inl, fun z => z.elim id (fun z => absurd z.1 e)⟩
set_option maxHeartbeats 4000000 in
set_option maxRecDepth 100000 in
theorem k_X3_reaches (l : Launch) (D : va_G) (G : Nat → Nat) (h0 : Nat) (c r : Nat → Nat → Nat) (o : Nat) (hI : IR r) (a b fl : Nat) (ha : a < r 30 0) (hb2 : b < r 30 0) (hf : fl < 2 ^ 31) : Met l yX3_reaches wsX3_reaches ({ frames := 1, cells := 0, slots := 0, locals := 21 } : Room) (va_Pc [.ref (G 3), .int (nI a), .int (nI b), .int (nI fl)] (fun U => Pr D G h0 c r o U)) (va_Qi (fun (v9 : Int32) (u9 : Nat → Nat → Nat) => v9 = nI (bN (Rch (eR r fl) a b)) ∧ (∀ a i, a ≠ 21 → u9 a i = r a i) ∧ (∀ i, u9 21 i ≤ 1)) (fun (u9 : Nat → Nat → Nat) t => Wr D G h0 c u9 o t) (fun q => h0 ≤ q)) 0 0 (fun q => h0 ≤ q) := by
  refine Met.ofW (cc := cX3_reaches) (maxL := 8) (ret := (some .boolean)) (by decide) rfl ?_
  intro p e s m args below meth cd s₁ B hml hv
  obtain ⟨rfl, hE, wl, hRc, hRr, hRo, hP, hD⟩ := hv
  have hx := B.exec
  have hb := B.bytes
  have hr := B.returns
  have hts := atoms_spec (ws := wsX3_reaches) B.pre
  have hown : s.vm.findClass RX3 = some m.cls := findClass_of_methodNamed B.named
  have hlocks := B.notSynchronized
  have hK := hE.2.1
  have hS : va_S (fun q => h0 ≤ q) s.heap s.heap [] := va_S.rf
  have hl := lv_entry ([.ref (G 3), .int (nI a), .int (nI b), .int (nI fl)]) (n := 8) (Nat.le_of_ble_eq_true rfl)
  rw [lg_entry_eq]
  generalize (lg_sl ([.ref (G 3), .int (nI a), .int (nI b), .int (nI fl)]) ++ List.replicate (8 - (lg_sl ([.ref (G 3), .int (nI a), .int (nI b), .int (nI fl)])).length) Slot.unset).toArray = ls at hl ⊢
  have hl : lv_has ls 8 [(0, .ref (G 3)), (1, .int (nI a)), (2, .int (nI b)), (3, .int (nI fl))] := hl
  have inX3 : ∀ w ∈ wsX30, w ∈ wsX3_reaches := by decide +kernel
  obtain ⟨Q, hQ⟩ : ∃ Q, Q = MQ below (va_Qi (fun (v9 : Int32) (u9 : Nat → Nat → Nat) => v9 = nI (bN (Rch (eR r fl) a b)) ∧ (∀ a i, a ≠ 21 → u9 a i = r a i) ∧ (∀ i, u9 21 i ≤ 1)) (fun (u9 : Nat → Nat → Nat) t => Wr D G h0 c u9 o t) (fun q => h0 ≤ q)) ([.ref (G 3), .int (nI a), .int (nI b), .int (nI fl)] : List Value).toArray s 0 0 (fun q => h0 ≤ q) := ⟨_, rfl⟩
  rw [← hQ]
  have hBr := IR_B hI
  have hn := IR_n hI
  have hs := IR_s hI
  have h21 : ∀ i, r 21 i ≤ 1 := fun i => by have h9 := IR_U hI i; unfold RU at h9; omega
  have hnn : r 30 0 * r 30 0 * r 30 0 ≤ 20 * 20 * 20 := Nat.mul_le_mul (Nat.mul_le_mul hn hn) hn
  refine lv_iconst (v := nI 0) hx hb dX3_reaches_0 (by decide) ?_
  refine lv_istore (lv' := [(4, .int (nI 0)), (0, .ref (G 3)), (1, .int (nI a)), (2, .int (nI b)), (3, .int (nI fl))]) hx hb dX3_reaches_1 hl (by decide) rfl (fun ls hl => ?_)
  have L3 : ∀ (d i : Nat), r 30 0 - i < d → i ≤ r 30 0 → ∀ (r1 : Nat → Nat → Nat), (∀ a i, a ≠ 21 → r1 a i = r a i) → (∀ i, r1 21 i ≤ 1) → (∀ j, j < i → r1 21 j = bN (j = a)) → ∀ (H : Heap) (locs : List Loc) (wl : va_W) (ls : Array Slot), Rc G c wl → Rr G r1 wl → Ro G o wl → va_P D vwCl wl H → va_D (fun q => h0 ≤ q) wl → va_S (fun q => h0 ≤ q) s.heap H locs → lv_has ls 8 [(4, .int (nI i)), (0, .ref (G 3)), (1, .int (nI a)), (2, .int (nI b)), (3, .int (nI fl))] → W p l e (headSpec wsX3_reaches ({ frames := 1, cells := 0, slots := 0, locals := 21 } : Room)).room s m ([.ref (G 3), .int (nI a), .int (nI b), .int (nI fl)] : List Value).toArray below meth cd H locs 0 0 Q (F0 m 3 ls []) := by
    intro d3
    induction d3 with
    | zero => intro i hd; exact absurd hd (Nat.not_lt_zero _)
    | succ d3 ih3 =>
      intro i hd hi r1  hk1 hb1 hS1 H locs wl ls hRc hRr hRo hP hD hS hl
      have hI1 : IR r1 := IR_off hI hk1 hb1
      have hBr1 := IR_B hI1
      have e30_0 : r1 30 0 = r 30 0 := hk1 30 0 (by decide)
      refine lv_iload hx hb dX3_reaches_3 (lv_at hl 0 rfl) ?_
      refine lv_aload_n hx hb dX3_reaches_5 rfl (lv_at hl 1 rfl) ?_
      refine va_get (D := D) (ci := 4) (v := .int (nI (r 30 0))) (C := RX3) (T := TX3) (N := 23) hx hb hts inX3 hown hK hP 3 (Q_m hRr) rfl 0 (by decide) (hts (.fieldLink RX3 60 "BootStageModel" "units" "I") (by decide +kernel)) (fun _ h9 => h9) (congrArg (fun z => some (Value.int (nI z))) (show r1 30 0 = r 30 0 from by simp [up2, e30_0])) dX3_reaches_6 ?_
      refine n_icmp_ge (tgt := 36) hx hb dX3_reaches_9 (by decide) (by omega) (hBr _ _ (by decide)) (fun c_9 => ?_) (fun c_9 => ?_)
      · refine lv_iconst (v := nI 0) hx hb dX3_reaches_36 (by decide) ?_
        refine lv_istore (lv' := [(4, .int (nI 0)), (0, .ref (G 3)), (1, .int (nI a)), (2, .int (nI b)), (3, .int (nI fl))]) hx hb dX3_reaches_37 hl (by decide) rfl (fun ls hl => ?_)
        have L39 : ∀ (d k : Nat), r 30 0 * r 30 0 * r 30 0 - k < d → k ≤ r 30 0 * r 30 0 * r 30 0 → ∀ (r1 : Nat → Nat → Nat), (∀ a i, a ≠ 21 → r1 a i = r a i) → (∀ i, r1 21 i ≤ 1) → (∀ j, j < r 30 0 → (0 < r1 21 j ↔ rrS r fl a k j)) → ∀ (H : Heap) (locs : List Loc) (wl : va_W) (ls : Array Slot), Rc G c wl → Rr G r1 wl → Ro G o wl → va_P D vwCl wl H → va_D (fun q => h0 ≤ q) wl → va_S (fun q => h0 ≤ q) s.heap H locs → lv_has ls 8 [(4, .int (nI k)), (0, .ref (G 3)), (1, .int (nI a)), (2, .int (nI b)), (3, .int (nI fl))] → W p l e (headSpec wsX3_reaches ({ frames := 1, cells := 0, slots := 0, locals := 21 } : Room)).room s m ([.ref (G 3), .int (nI a), .int (nI b), .int (nI fl)] : List Value).toArray below meth cd H locs 0 0 Q (F0 m 39 ls []) := by
          intro d39
          induction d39 with
          | zero => intro k hd; exact absurd hd (Nat.not_lt_zero _)
          | succ d39 ih39 =>
            intro k hd hi r1  hk1 hb1 hS1 H locs wl ls hRc hRr hRo hP hD hS hl
            have hI1 : IR r1 := IR_off hI hk1 hb1
            have hBr1 := IR_B hI1
            have e30_0 : r1 30 0 = r 30 0 := hk1 30 0 (by decide)
            refine lv_iload hx hb dX3_reaches_39 (lv_at hl 0 rfl) ?_
            refine lv_aload_n hx hb dX3_reaches_41 rfl (lv_at hl 1 rfl) ?_
            refine va_get (D := D) (ci := 4) (v := .int (nI (r 30 0))) (C := RX3) (T := TX3) (N := 23) hx hb hts inX3 hown hK hP 3 (Q_m hRr) rfl 0 (by decide) (hts (.fieldLink RX3 60 "BootStageModel" "units" "I") (by decide +kernel)) (fun _ h9 => h9) (congrArg (fun z => some (Value.int (nI z))) (show r1 30 0 = r 30 0 from by simp [up2, e30_0])) dX3_reaches_42 ?_
            refine lv_aload_n hx hb dX3_reaches_45 rfl (lv_at hl 1 rfl) ?_
            refine va_get (D := D) (ci := 4) (v := .int (nI (r 30 0))) (C := RX3) (T := TX3) (N := 23) hx hb hts inX3 hown hK hP 3 (Q_m hRr) rfl 0 (by decide) (hts (.fieldLink RX3 60 "BootStageModel" "units" "I") (by decide +kernel)) (fun _ h9 => h9) (congrArg (fun z => some (Value.int (nI z))) (show r1 30 0 = r 30 0 from by simp [up2, e30_0])) dX3_reaches_46 ?_
            refine n_imul hx hb dX3_reaches_49 ?_
            refine lv_aload_n hx hb dX3_reaches_50 rfl (lv_at hl 1 rfl) ?_
            refine va_get (D := D) (ci := 4) (v := .int (nI (r 30 0))) (C := RX3) (T := TX3) (N := 23) hx hb hts inX3 hown hK hP 3 (Q_m hRr) rfl 0 (by decide) (hts (.fieldLink RX3 60 "BootStageModel" "units" "I") (by decide +kernel)) (fun _ h9 => h9) (congrArg (fun z => some (Value.int (nI z))) (show r1 30 0 = r 30 0 from by simp [up2, e30_0])) dX3_reaches_51 ?_
            refine n_imul hx hb dX3_reaches_54 ?_
            refine n_icmp_ge (tgt := 180) hx hb dX3_reaches_55 (by decide) (by omega) (by omega) (fun c_55 => ?_) (fun c_55 => ?_)
            · refine lv_aload_n hx hb dX3_reaches_180 rfl (lv_at hl 1 rfl) ?_
              refine va_get (D := D) (ci := 4) (v := .ref (G 19)) (C := RX3) (T := TX3) (N := 23) hx hb hts inX3 hown hK hP 3 (Q_m hRr) rfl 21 (by decide) (hts (.fieldLink RX3 53 "BootStageModel" "isReached" "[Z") (by decide +kernel)) (fun _ h9 => h9) rfl dX3_reaches_181 ?_
              refine lv_iload_n hx hb dX3_reaches_184 rfl (lv_at hl 3 rfl) ?_
              refine x_zald hx hb hK hP 19 (Q_a21 hRr) (by first | omega | decide | assumption) (by decide) dX3_reaches_185 (v := nI (r1 21 b)) rfl ?_
              rw [hQ]
              have hrel : (fun (v9 : Int32) (u9 : Nat → Nat → Nat) => v9 = nI (bN (Rch (eR r fl) a b)) ∧ (∀ a i, a ≠ 21 → u9 a i = r a i) ∧ (∀ i, u9 21 i ≤ 1)) (nI (r1 21 b)) r1 := by exact ⟨congrArg nI (show r1 21 b = _ from b01 (hb1 b) (by rw [hS1 b hb2, show k = r 30 0 * r 30 0 * r 30 0 by omega]; exact rrS_fin ha)), hk1, hb1⟩
              exact W.zret (v := nI (r1 21 b)) (ty := .boolean) hx hb hr (nb_le (by exact hb1 _)) (fun t ht hW => ⟨⟨_, r1, rfl, hrel, Wr_mk hRc hRr hRo hP hD ht⟩, hS.F ht⟩) hS.2.2 dX3_reaches_186
            · have hn0 : 0 < r 30 0 := by rcases Nat.eq_zero_or_pos (r 30 0) with e | e; (exfalso; rw [e] at c_55; omega); exact e
              have hu9 : k / r 30 0 % r 30 0 < r 30 0 := Nat.mod_lt _ hn0
              have hv9 : k % r 30 0 < r 30 0 := Nat.mod_lt _ hn0
              have hd9 : k / r 30 0 ≤ k := Nat.div_le_self _ _
              refine lv_iload hx hb dX3_reaches_58 (lv_at hl 0 rfl) ?_
              refine lv_aload_n hx hb dX3_reaches_60 rfl (lv_at hl 1 rfl) ?_
              refine va_get (D := D) (ci := 4) (v := .int (nI (r 30 0))) (C := RX3) (T := TX3) (N := 23) hx hb hts inX3 hown hK hP 3 (Q_m hRr) rfl 0 (by decide) (hts (.fieldLink RX3 60 "BootStageModel" "units" "I") (by decide +kernel)) (fun _ h9 => h9) (congrArg (fun z => some (Value.int (nI z))) (show r1 30 0 = r 30 0 from by simp [up2, e30_0])) dX3_reaches_61 ?_
              refine n_idiv hx hb dX3_reaches_64 (by omega) (by exact hn0) (hBr _ _ (by decide)) ?_
              refine lv_aload_n hx hb dX3_reaches_65 rfl (lv_at hl 1 rfl) ?_
              refine va_get (D := D) (ci := 4) (v := .int (nI (r 30 0))) (C := RX3) (T := TX3) (N := 23) hx hb hts inX3 hown hK hP 3 (Q_m hRr) rfl 0 (by decide) (hts (.fieldLink RX3 60 "BootStageModel" "units" "I") (by decide +kernel)) (fun _ h9 => h9) (congrArg (fun z => some (Value.int (nI z))) (show r1 30 0 = r 30 0 from by simp [up2, e30_0])) dX3_reaches_66 ?_
              refine n_irem hx hb dX3_reaches_69 (by omega) (by exact hn0) (hBr _ _ (by decide)) ?_
              refine lv_istore (lv' := [(5, .int (nI ((k / (r 30 0)) % (r 30 0)))), (4, .int (nI k)), (0, .ref (G 3)), (1, .int (nI a)), (2, .int (nI b)), (3, .int (nI fl))]) hx hb dX3_reaches_70 hl (by decide) rfl (fun ls hl => ?_)
              refine lv_iload hx hb dX3_reaches_72 (lv_at hl 1 rfl) ?_
              refine lv_aload_n hx hb dX3_reaches_74 rfl (lv_at hl 2 rfl) ?_
              refine va_get (D := D) (ci := 4) (v := .int (nI (r 30 0))) (C := RX3) (T := TX3) (N := 23) hx hb hts inX3 hown hK hP 3 (Q_m hRr) rfl 0 (by decide) (hts (.fieldLink RX3 60 "BootStageModel" "units" "I") (by decide +kernel)) (fun _ h9 => h9) (congrArg (fun z => some (Value.int (nI z))) (show r1 30 0 = r 30 0 from by simp [up2, e30_0])) dX3_reaches_75 ?_
              refine n_irem hx hb dX3_reaches_78 (by omega) (by exact hn0) (hBr _ _ (by decide)) ?_
              refine lv_istore (lv' := [(6, .int (nI (k % (r 30 0)))), (5, .int (nI ((k / (r 30 0)) % (r 30 0)))), (4, .int (nI k)), (0, .ref (G 3)), (1, .int (nI a)), (2, .int (nI b)), (3, .int (nI fl))]) hx hb dX3_reaches_79 hl (by decide) rfl (fun ls hl => ?_)
              refine lv_aload_n hx hb dX3_reaches_81 rfl (lv_at hl 3 rfl) ?_
              refine va_get (D := D) (ci := 4) (v := .ref (G 11)) (C := RX3) (T := TX3) (N := 23) hx hb hts inX3 hown hK hP 3 (Q_m hRr) rfl 7 (by decide) (hts (.fieldLink RX3 29 "BootStageModel" "needs" "[Z") (by decide +kernel)) (fun _ h9 => h9) rfl dX3_reaches_82 ?_
              refine lv_iload hx hb dX3_reaches_85 (lv_at hl 1 rfl) ?_
              refine lv_iload hx hb dX3_reaches_87 (lv_at hl 0 rfl) ?_
              refine y_calli (va_runS (As := [.int (nI ((k / (r 30 0)) % (r 30 0))), .int (nI (k % (r 30 0)))]) (rest := [.ref (G 11)]) ⟨hx, hb, hml, hown, hts⟩ (k_X3_edge l D G h0 c r1 o ((k / (r 30 0)) % (r 30 0)) (k % (r 30 0))) (va_cwS 2 hts gX3_reaches_X3_edge rfl rfl rfl (by decide +kernel) ⟨Nat.le_of_ble_eq_true rfl, Nat.le_of_ble_eq_true rfl⟩) ⟨fun a U g mk q => ⟨q.1, Pr_cg q.2⟩, fun U hU hW => ⟨rfl, Pr_mk hE hRc hRr hRo hP hD hS hU hW⟩⟩ rfl rfl hl.1 rfl (lv_room (Nat.le_of_ble_eq_true rfl)) dX3_reaches_89 ⟨Nat.le_of_ble_eq_true rfl, Nat.le_of_ble_eq_true rfl⟩) hS (fun v9 _ H locs wl hv9 hRc hRr hRo hP hD hS => ?_)
              refine n_top (y := .int (nI (20 * ((k / (r 30 0)) % (r 30 0)) + (k % (r 30 0))))) (congrArg Value.int hv9) ?_
              clear hv9 v9
              refine x_zald hx hb hK hP 11 (Q_a7 hRr) (by first | omega | decide | assumption) (by decide) dX3_reaches_92 (v := nI (r1 7 (20 * ((k / (r 30 0)) % (r 30 0)) + (k % (r 30 0))))) rfl ?_
              refine n_if_ne (tgt := 130) hx hb dX3_reaches_93 (by decide) (hBr1 _ _ (by decide)) (fun c_93 => ?_) (fun c_93 => ?_)
              · refine lv_iconst (v := nI 1) hx hb dX3_reaches_130 (by decide) ?_
                refine lv_goto (tgt := 135) hx hb dX3_reaches_131 (by decide) ?_
                refine lv_istore (lv' := [(7, .int (nI 1)), (6, .int (nI (k % (r 30 0)))), (5, .int (nI ((k / (r 30 0)) % (r 30 0)))), (4, .int (nI k)), (0, .ref (G 3)), (1, .int (nI a)), (2, .int (nI b)), (3, .int (nI fl))]) hx hb dX3_reaches_135 hl (by decide) rfl (fun ls hl => ?_)
                refine lv_aload_n hx hb dX3_reaches_137 rfl (lv_at hl 4 rfl) ?_
                refine va_get (D := D) (ci := 4) (v := .ref (G 19)) (C := RX3) (T := TX3) (N := 23) hx hb hts inX3 hown hK hP 3 (Q_m hRr) rfl 21 (by decide) (hts (.fieldLink RX3 53 "BootStageModel" "isReached" "[Z") (by decide +kernel)) (fun _ h9 => h9) rfl dX3_reaches_138 ?_
                refine lv_iload hx hb dX3_reaches_141 (lv_at hl 1 rfl) ?_
                refine lv_aload_n hx hb dX3_reaches_143 rfl (lv_at hl 4 rfl) ?_
                refine va_get (D := D) (ci := 4) (v := .ref (G 19)) (C := RX3) (T := TX3) (N := 23) hx hb hts inX3 hown hK hP 3 (Q_m hRr) rfl 21 (by decide) (hts (.fieldLink RX3 53 "BootStageModel" "isReached" "[Z") (by decide +kernel)) (fun _ h9 => h9) rfl dX3_reaches_144 ?_
                refine lv_iload hx hb dX3_reaches_147 (lv_at hl 1 rfl) ?_
                refine x_zald hx hb hK hP 19 (Q_a21 hRr) (by first | omega | decide | assumption) (by decide) dX3_reaches_149 (v := nI (r1 21 (k % (r 30 0)))) rfl ?_
                refine n_if_ne (tgt := 168) hx hb dX3_reaches_150 (by decide) (hBr1 _ _ (by decide)) (fun c_150 => ?_) (fun c_150 => ?_)
                · refine lv_iconst (v := nI 1) hx hb dX3_reaches_168 (by decide) ?_
                  refine lv_goto (tgt := 173) hx hb dX3_reaches_169 (by decide) ?_
                  refine x_zast (Z := fun wl => Rc G c wl ∧ Rr G (up2 r1 21 (k % (r 30 0)) 1) wl ∧ Ro G o wl) hx hb hK hP hD hS 19 (Q_a21 hRr) (by first | omega | decide | assumption) (by decide) dX3_reaches_173 ⟨Rc_fr hRc (by decide) (by decide), P_a21 1 (by first | omega | decide | assumption) (by first | decide | omega) hRr, Ro_fr hRo (by decide)⟩ (fun H locs wl hZ hP hD hS => ?_)
                  obtain ⟨hRc, hRr, hRo⟩ := hZ
                  refine lv_iinc (v := nI (k + 1)) (lv' := [(4, .int (nI (k + 1))), (7, .int (nI 1)), (6, .int (nI (k % (r 30 0)))), (5, .int (nI ((k / (r 30 0)) % (r 30 0)))), (0, .ref (G 3)), (1, .int (nI a)), (2, .int (nI b)), (3, .int (nI fl))]) hx hb dX3_reaches_174 hl (k := 3) rfl (nI_add k 1) (by decide) rfl (fun ls hl => ?_)
                  refine lv_goto (tgt := 39) hx hb dX3_reaches_177 (by decide) ?_
                  exact ih39 (k + 1) (by omega) (by omega) (up2 r1 21 (k % (r 30 0)) 1) (by intro q j hq; rw [up2_c hq]; exact hk1 q j hq) (by intro j; unfold up2; split; (first | decide | omega); exact hb1 j) (by exact rr_one hv9 hS1 (show rrS r fl a (k + 1) (k % r 30 0) from Or.inl ((hS1 _ hv9).mp c_150))) _ _ _ _ hRc hRr hRo hP hD hS (lv_sub hl [0, 4, 5, 6, 7] rfl)
                · refine lv_aload_n hx hb dX3_reaches_153 rfl (lv_at hl 4 rfl) ?_
                  refine va_get (D := D) (ci := 4) (v := .ref (G 19)) (C := RX3) (T := TX3) (N := 23) hx hb hts inX3 hown hK hP 3 (Q_m hRr) rfl 21 (by decide) (hts (.fieldLink RX3 53 "BootStageModel" "isReached" "[Z") (by decide +kernel)) (fun _ h9 => h9) rfl dX3_reaches_154 ?_
                  refine lv_iload hx hb dX3_reaches_157 (lv_at hl 2 rfl) ?_
                  refine x_zald hx hb hK hP 19 (Q_a21 hRr) (by first | omega | decide | assumption) (by decide) dX3_reaches_159 (v := nI (r1 21 ((k / (r 30 0)) % (r 30 0)))) rfl ?_
                  refine n_if_eq (tgt := 172) hx hb dX3_reaches_160 (by decide) (hBr1 _ _ (by decide)) (fun c_160 => ?_) (fun c_160 => ?_)
                  · refine lv_iconst (v := nI 0) hx hb dX3_reaches_172 (by decide) ?_
                    refine x_zast (Z := fun wl => Rc G c wl ∧ Rr G (up2 r1 21 (k % (r 30 0)) 0) wl ∧ Ro G o wl) hx hb hK hP hD hS 19 (Q_a21 hRr) (by first | omega | decide | assumption) (by decide) dX3_reaches_173 ⟨Rc_fr hRc (by decide) (by decide), P_a21 0 (by first | omega | decide | assumption) (by first | decide | omega) hRr, Ro_fr hRo (by decide)⟩ (fun H locs wl hZ hP hD hS => ?_)
                    obtain ⟨hRc, hRr, hRo⟩ := hZ
                    refine lv_iinc (v := nI (k + 1)) (lv' := [(4, .int (nI (k + 1))), (7, .int (nI 1)), (6, .int (nI (k % (r 30 0)))), (5, .int (nI ((k / (r 30 0)) % (r 30 0)))), (0, .ref (G 3)), (1, .int (nI a)), (2, .int (nI b)), (3, .int (nI fl))]) hx hb dX3_reaches_174 hl (k := 3) rfl (nI_add k 1) (by decide) rfl (fun ls hl => ?_)
                    refine lv_goto (tgt := 39) hx hb dX3_reaches_177 (by decide) ?_
                    exact ih39 (k + 1) (by omega) (by omega) (up2 r1 21 (k % (r 30 0)) 0) (by intro q j hq; rw [up2_c hq]; exact hk1 q j hq) (by intro j; unfold up2; split; (first | decide | omega); exact hb1 j) (by exact rr_zero hv9 hS1 (fun z => absurd ((hS1 _ hv9).mpr z) (by omega)) (fun z => absurd ((hS1 _ hu9).mpr z.1) (by omega))) _ _ _ _ hRc hRr hRo hP hD hS (lv_sub hl [0, 4, 5, 6, 7] rfl)
                  · refine lv_iload hx hb dX3_reaches_163 (lv_at hl 0 rfl) ?_
                    refine n_if_eq (tgt := 172) hx hb dX3_reaches_165 (by decide) (by decide) (fun c_165 => absurd c_165 (by decide)) (fun c_165 => ?_)
                    refine lv_iconst (v := nI 1) hx hb dX3_reaches_168 (by decide) ?_
                    refine lv_goto (tgt := 173) hx hb dX3_reaches_169 (by decide) ?_
                    refine x_zast (Z := fun wl => Rc G c wl ∧ Rr G (up2 r1 21 (k % (r 30 0)) 1) wl ∧ Ro G o wl) hx hb hK hP hD hS 19 (Q_a21 hRr) (by first | omega | decide | assumption) (by decide) dX3_reaches_173 ⟨Rc_fr hRc (by decide) (by decide), P_a21 1 (by first | omega | decide | assumption) (by first | decide | omega) hRr, Ro_fr hRo (by decide)⟩ (fun H locs wl hZ hP hD hS => ?_)
                    obtain ⟨hRc, hRr, hRo⟩ := hZ
                    refine lv_iinc (v := nI (k + 1)) (lv' := [(4, .int (nI (k + 1))), (7, .int (nI 1)), (6, .int (nI (k % (r 30 0)))), (5, .int (nI ((k / (r 30 0)) % (r 30 0)))), (0, .ref (G 3)), (1, .int (nI a)), (2, .int (nI b)), (3, .int (nI fl))]) hx hb dX3_reaches_174 hl (k := 3) rfl (nI_add k 1) (by decide) rfl (fun ls hl => ?_)
                    refine lv_goto (tgt := 39) hx hb dX3_reaches_177 (by decide) ?_
                    exact ih39 (k + 1) (by omega) (by omega) (up2 r1 21 (k % (r 30 0)) 1) (by intro q j hq; rw [up2_c hq]; exact hk1 q j hq) (by intro j; unfold up2; split; (first | decide | omega); exact hb1 j) (by exact rr_one hv9 hS1 (show rrS r fl a (k + 1) (k % r 30 0) from Or.inr ⟨rfl, (hS1 _ hu9).mp c_160, hu9, hv9, Or.inl (by have h9 := c_93; rw [hk1 7 _ (by decide)] at h9; exact h9)⟩)) _ _ _ _ hRc hRr hRo hP hD hS (lv_sub hl [0, 4, 5, 6, 7] rfl)
              · refine lv_iload_n hx hb dX3_reaches_96 rfl (lv_at hl 6 rfl) ?_
                refine n_if_eq (tgt := 134) hx hb dX3_reaches_97 (by decide) hf (fun c_97 => ?_) (fun c_97 => ?_)
                · refine lv_iconst (v := nI 0) hx hb dX3_reaches_134 (by decide) ?_
                  refine lv_istore (lv' := [(7, .int (nI 0)), (6, .int (nI (k % (r 30 0)))), (5, .int (nI ((k / (r 30 0)) % (r 30 0)))), (4, .int (nI k)), (0, .ref (G 3)), (1, .int (nI a)), (2, .int (nI b)), (3, .int (nI fl))]) hx hb dX3_reaches_135 hl (by decide) rfl (fun ls hl => ?_)
                  refine lv_aload_n hx hb dX3_reaches_137 rfl (lv_at hl 4 rfl) ?_
                  refine va_get (D := D) (ci := 4) (v := .ref (G 19)) (C := RX3) (T := TX3) (N := 23) hx hb hts inX3 hown hK hP 3 (Q_m hRr) rfl 21 (by decide) (hts (.fieldLink RX3 53 "BootStageModel" "isReached" "[Z") (by decide +kernel)) (fun _ h9 => h9) rfl dX3_reaches_138 ?_
                  refine lv_iload hx hb dX3_reaches_141 (lv_at hl 1 rfl) ?_
                  refine lv_aload_n hx hb dX3_reaches_143 rfl (lv_at hl 4 rfl) ?_
                  refine va_get (D := D) (ci := 4) (v := .ref (G 19)) (C := RX3) (T := TX3) (N := 23) hx hb hts inX3 hown hK hP 3 (Q_m hRr) rfl 21 (by decide) (hts (.fieldLink RX3 53 "BootStageModel" "isReached" "[Z") (by decide +kernel)) (fun _ h9 => h9) rfl dX3_reaches_144 ?_
                  refine lv_iload hx hb dX3_reaches_147 (lv_at hl 1 rfl) ?_
                  refine x_zald hx hb hK hP 19 (Q_a21 hRr) (by first | omega | decide | assumption) (by decide) dX3_reaches_149 (v := nI (r1 21 (k % (r 30 0)))) rfl ?_
                  refine n_if_ne (tgt := 168) hx hb dX3_reaches_150 (by decide) (hBr1 _ _ (by decide)) (fun c_150 => ?_) (fun c_150 => ?_)
                  · refine lv_iconst (v := nI 1) hx hb dX3_reaches_168 (by decide) ?_
                    refine lv_goto (tgt := 173) hx hb dX3_reaches_169 (by decide) ?_
                    refine x_zast (Z := fun wl => Rc G c wl ∧ Rr G (up2 r1 21 (k % (r 30 0)) 1) wl ∧ Ro G o wl) hx hb hK hP hD hS 19 (Q_a21 hRr) (by first | omega | decide | assumption) (by decide) dX3_reaches_173 ⟨Rc_fr hRc (by decide) (by decide), P_a21 1 (by first | omega | decide | assumption) (by first | decide | omega) hRr, Ro_fr hRo (by decide)⟩ (fun H locs wl hZ hP hD hS => ?_)
                    obtain ⟨hRc, hRr, hRo⟩ := hZ
                    refine lv_iinc (v := nI (k + 1)) (lv' := [(4, .int (nI (k + 1))), (7, .int (nI 0)), (6, .int (nI (k % (r 30 0)))), (5, .int (nI ((k / (r 30 0)) % (r 30 0)))), (0, .ref (G 3)), (1, .int (nI a)), (2, .int (nI b)), (3, .int (nI fl))]) hx hb dX3_reaches_174 hl (k := 3) rfl (nI_add k 1) (by decide) rfl (fun ls hl => ?_)
                    refine lv_goto (tgt := 39) hx hb dX3_reaches_177 (by decide) ?_
                    exact ih39 (k + 1) (by omega) (by omega) (up2 r1 21 (k % (r 30 0)) 1) (by intro q j hq; rw [up2_c hq]; exact hk1 q j hq) (by intro j; unfold up2; split; (first | decide | omega); exact hb1 j) (by exact rr_one hv9 hS1 (show rrS r fl a (k + 1) (k % r 30 0) from Or.inl ((hS1 _ hv9).mp c_150))) _ _ _ _ hRc hRr hRo hP hD hS (lv_sub hl [0, 4, 5, 6, 7] rfl)
                  · refine lv_aload_n hx hb dX3_reaches_153 rfl (lv_at hl 4 rfl) ?_
                    refine va_get (D := D) (ci := 4) (v := .ref (G 19)) (C := RX3) (T := TX3) (N := 23) hx hb hts inX3 hown hK hP 3 (Q_m hRr) rfl 21 (by decide) (hts (.fieldLink RX3 53 "BootStageModel" "isReached" "[Z") (by decide +kernel)) (fun _ h9 => h9) rfl dX3_reaches_154 ?_
                    refine lv_iload hx hb dX3_reaches_157 (lv_at hl 2 rfl) ?_
                    refine x_zald hx hb hK hP 19 (Q_a21 hRr) (by first | omega | decide | assumption) (by decide) dX3_reaches_159 (v := nI (r1 21 ((k / (r 30 0)) % (r 30 0)))) rfl ?_
                    refine n_if_eq (tgt := 172) hx hb dX3_reaches_160 (by decide) (hBr1 _ _ (by decide)) (fun c_160 => ?_) (fun c_160 => ?_)
                    · refine lv_iconst (v := nI 0) hx hb dX3_reaches_172 (by decide) ?_
                      refine x_zast (Z := fun wl => Rc G c wl ∧ Rr G (up2 r1 21 (k % (r 30 0)) 0) wl ∧ Ro G o wl) hx hb hK hP hD hS 19 (Q_a21 hRr) (by first | omega | decide | assumption) (by decide) dX3_reaches_173 ⟨Rc_fr hRc (by decide) (by decide), P_a21 0 (by first | omega | decide | assumption) (by first | decide | omega) hRr, Ro_fr hRo (by decide)⟩ (fun H locs wl hZ hP hD hS => ?_)
                      obtain ⟨hRc, hRr, hRo⟩ := hZ
                      refine lv_iinc (v := nI (k + 1)) (lv' := [(4, .int (nI (k + 1))), (7, .int (nI 0)), (6, .int (nI (k % (r 30 0)))), (5, .int (nI ((k / (r 30 0)) % (r 30 0)))), (0, .ref (G 3)), (1, .int (nI a)), (2, .int (nI b)), (3, .int (nI fl))]) hx hb dX3_reaches_174 hl (k := 3) rfl (nI_add k 1) (by decide) rfl (fun ls hl => ?_)
                      refine lv_goto (tgt := 39) hx hb dX3_reaches_177 (by decide) ?_
                      exact ih39 (k + 1) (by omega) (by omega) (up2 r1 21 (k % (r 30 0)) 0) (by intro q j hq; rw [up2_c hq]; exact hk1 q j hq) (by intro j; unfold up2; split; (first | decide | omega); exact hb1 j) (by exact rr_zero hv9 hS1 (fun z => absurd ((hS1 _ hv9).mpr z) (by omega)) (fun z => absurd ((hS1 _ hu9).mpr z.1) (by omega))) _ _ _ _ hRc hRr hRo hP hD hS (lv_sub hl [0, 4, 5, 6, 7] rfl)
                    · refine lv_iload hx hb dX3_reaches_163 (lv_at hl 0 rfl) ?_
                      refine n_if_eq (tgt := 172) hx hb dX3_reaches_165 (by decide) (by decide) (fun c_165 => ?_) (fun c_165 => absurd c_165 (by decide))
                      refine lv_iconst (v := nI 0) hx hb dX3_reaches_172 (by decide) ?_
                      refine x_zast (Z := fun wl => Rc G c wl ∧ Rr G (up2 r1 21 (k % (r 30 0)) 0) wl ∧ Ro G o wl) hx hb hK hP hD hS 19 (Q_a21 hRr) (by first | omega | decide | assumption) (by decide) dX3_reaches_173 ⟨Rc_fr hRc (by decide) (by decide), P_a21 0 (by first | omega | decide | assumption) (by first | decide | omega) hRr, Ro_fr hRo (by decide)⟩ (fun H locs wl hZ hP hD hS => ?_)
                      obtain ⟨hRc, hRr, hRo⟩ := hZ
                      refine lv_iinc (v := nI (k + 1)) (lv' := [(4, .int (nI (k + 1))), (7, .int (nI 0)), (6, .int (nI (k % (r 30 0)))), (5, .int (nI ((k / (r 30 0)) % (r 30 0)))), (0, .ref (G 3)), (1, .int (nI a)), (2, .int (nI b)), (3, .int (nI fl))]) hx hb dX3_reaches_174 hl (k := 3) rfl (nI_add k 1) (by decide) rfl (fun ls hl => ?_)
                      refine lv_goto (tgt := 39) hx hb dX3_reaches_177 (by decide) ?_
                      exact ih39 (k + 1) (by omega) (by omega) (up2 r1 21 (k % (r 30 0)) 0) (by intro q j hq; rw [up2_c hq]; exact hk1 q j hq) (by intro j; unfold up2; split; (first | decide | omega); exact hb1 j) (by exact rr_zero hv9 hS1 (fun z => absurd ((hS1 _ hv9).mpr z) (by omega)) (fun z => (fun (q : eR r fl (k / r 30 0 % r 30 0) (k % r 30 0)) => by obtain ⟨_, _, q3⟩ := q; rcases q3 with q3 | ⟨q3, q4, q5⟩; exact (by have h8 := c_93; rw [hk1 7 _ (by decide)] at h8; omega); exact (by omega)) z.2)) _ _ _ _ hRc hRr hRo hP hD hS (lv_sub hl [0, 4, 5, 6, 7] rfl)
                · refine lv_aload_n hx hb dX3_reaches_100 rfl (lv_at hl 3 rfl) ?_
                  refine va_get (D := D) (ci := 4) (v := .ref (G 12)) (C := RX3) (T := TX3) (N := 23) hx hb hts inX3 hown hK hP 3 (Q_m hRr) rfl 8 (by decide) (hts (.fieldLink RX3 32 "BootStageModel" "weights" "[I") (by decide +kernel)) (fun _ h9 => h9) rfl dX3_reaches_101 ?_
                  refine lv_iload hx hb dX3_reaches_104 (lv_at hl 1 rfl) ?_
                  refine lv_iload hx hb dX3_reaches_106 (lv_at hl 0 rfl) ?_
                  refine y_calli (va_runS (As := [.int (nI ((k / (r 30 0)) % (r 30 0))), .int (nI (k % (r 30 0)))]) (rest := [.ref (G 12)]) ⟨hx, hb, hml, hown, hts⟩ (k_X3_edge l D G h0 c r1 o ((k / (r 30 0)) % (r 30 0)) (k % (r 30 0))) (va_cwS 2 hts gX3_reaches_X3_edge rfl rfl rfl (by decide +kernel) ⟨Nat.le_of_ble_eq_true rfl, Nat.le_of_ble_eq_true rfl⟩) ⟨fun a U g mk q => ⟨q.1, Pr_cg q.2⟩, fun U hU hW => ⟨rfl, Pr_mk hE hRc hRr hRo hP hD hS hU hW⟩⟩ rfl rfl hl.1 rfl (lv_room (Nat.le_of_ble_eq_true rfl)) dX3_reaches_108 ⟨Nat.le_of_ble_eq_true rfl, Nat.le_of_ble_eq_true rfl⟩) hS (fun v9 _ H locs wl hv9 hRc hRr hRo hP hD hS => ?_)
                  refine n_top (y := .int (nI (20 * ((k / (r 30 0)) % (r 30 0)) + (k % (r 30 0))))) (congrArg Value.int hv9) ?_
                  clear hv9 v9
                  refine x_iald hx hb hK hP 12 (Q_a8 hRr) (by first | omega | decide | assumption) (by decide) dX3_reaches_111 (v := nI (r1 8 (20 * ((k / (r 30 0)) % (r 30 0)) + (k % (r 30 0))))) rfl ?_
                  refine n_if_le (tgt := 134) hx hb dX3_reaches_112 (by decide) (hBr1 _ _ (by decide)) (fun c_112 => ?_) (fun c_112 => ?_)
                  · refine lv_iconst (v := nI 0) hx hb dX3_reaches_134 (by decide) ?_
                    refine lv_istore (lv' := [(7, .int (nI 0)), (6, .int (nI (k % (r 30 0)))), (5, .int (nI ((k / (r 30 0)) % (r 30 0)))), (4, .int (nI k)), (0, .ref (G 3)), (1, .int (nI a)), (2, .int (nI b)), (3, .int (nI fl))]) hx hb dX3_reaches_135 hl (by decide) rfl (fun ls hl => ?_)
                    refine lv_aload_n hx hb dX3_reaches_137 rfl (lv_at hl 4 rfl) ?_
                    refine va_get (D := D) (ci := 4) (v := .ref (G 19)) (C := RX3) (T := TX3) (N := 23) hx hb hts inX3 hown hK hP 3 (Q_m hRr) rfl 21 (by decide) (hts (.fieldLink RX3 53 "BootStageModel" "isReached" "[Z") (by decide +kernel)) (fun _ h9 => h9) rfl dX3_reaches_138 ?_
                    refine lv_iload hx hb dX3_reaches_141 (lv_at hl 1 rfl) ?_
                    refine lv_aload_n hx hb dX3_reaches_143 rfl (lv_at hl 4 rfl) ?_
                    refine va_get (D := D) (ci := 4) (v := .ref (G 19)) (C := RX3) (T := TX3) (N := 23) hx hb hts inX3 hown hK hP 3 (Q_m hRr) rfl 21 (by decide) (hts (.fieldLink RX3 53 "BootStageModel" "isReached" "[Z") (by decide +kernel)) (fun _ h9 => h9) rfl dX3_reaches_144 ?_
                    refine lv_iload hx hb dX3_reaches_147 (lv_at hl 1 rfl) ?_
                    refine x_zald hx hb hK hP 19 (Q_a21 hRr) (by first | omega | decide | assumption) (by decide) dX3_reaches_149 (v := nI (r1 21 (k % (r 30 0)))) rfl ?_
                    refine n_if_ne (tgt := 168) hx hb dX3_reaches_150 (by decide) (hBr1 _ _ (by decide)) (fun c_150 => ?_) (fun c_150 => ?_)
                    · refine lv_iconst (v := nI 1) hx hb dX3_reaches_168 (by decide) ?_
                      refine lv_goto (tgt := 173) hx hb dX3_reaches_169 (by decide) ?_
                      refine x_zast (Z := fun wl => Rc G c wl ∧ Rr G (up2 r1 21 (k % (r 30 0)) 1) wl ∧ Ro G o wl) hx hb hK hP hD hS 19 (Q_a21 hRr) (by first | omega | decide | assumption) (by decide) dX3_reaches_173 ⟨Rc_fr hRc (by decide) (by decide), P_a21 1 (by first | omega | decide | assumption) (by first | decide | omega) hRr, Ro_fr hRo (by decide)⟩ (fun H locs wl hZ hP hD hS => ?_)
                      obtain ⟨hRc, hRr, hRo⟩ := hZ
                      refine lv_iinc (v := nI (k + 1)) (lv' := [(4, .int (nI (k + 1))), (7, .int (nI 0)), (6, .int (nI (k % (r 30 0)))), (5, .int (nI ((k / (r 30 0)) % (r 30 0)))), (0, .ref (G 3)), (1, .int (nI a)), (2, .int (nI b)), (3, .int (nI fl))]) hx hb dX3_reaches_174 hl (k := 3) rfl (nI_add k 1) (by decide) rfl (fun ls hl => ?_)
                      refine lv_goto (tgt := 39) hx hb dX3_reaches_177 (by decide) ?_
                      exact ih39 (k + 1) (by omega) (by omega) (up2 r1 21 (k % (r 30 0)) 1) (by intro q j hq; rw [up2_c hq]; exact hk1 q j hq) (by intro j; unfold up2; split; (first | decide | omega); exact hb1 j) (by exact rr_one hv9 hS1 (show rrS r fl a (k + 1) (k % r 30 0) from Or.inl ((hS1 _ hv9).mp c_150))) _ _ _ _ hRc hRr hRo hP hD hS (lv_sub hl [0, 4, 5, 6, 7] rfl)
                    · refine lv_aload_n hx hb dX3_reaches_153 rfl (lv_at hl 4 rfl) ?_
                      refine va_get (D := D) (ci := 4) (v := .ref (G 19)) (C := RX3) (T := TX3) (N := 23) hx hb hts inX3 hown hK hP 3 (Q_m hRr) rfl 21 (by decide) (hts (.fieldLink RX3 53 "BootStageModel" "isReached" "[Z") (by decide +kernel)) (fun _ h9 => h9) rfl dX3_reaches_154 ?_
                      refine lv_iload hx hb dX3_reaches_157 (lv_at hl 2 rfl) ?_
                      refine x_zald hx hb hK hP 19 (Q_a21 hRr) (by first | omega | decide | assumption) (by decide) dX3_reaches_159 (v := nI (r1 21 ((k / (r 30 0)) % (r 30 0)))) rfl ?_
                      refine n_if_eq (tgt := 172) hx hb dX3_reaches_160 (by decide) (hBr1 _ _ (by decide)) (fun c_160 => ?_) (fun c_160 => ?_)
                      · refine lv_iconst (v := nI 0) hx hb dX3_reaches_172 (by decide) ?_
                        refine x_zast (Z := fun wl => Rc G c wl ∧ Rr G (up2 r1 21 (k % (r 30 0)) 0) wl ∧ Ro G o wl) hx hb hK hP hD hS 19 (Q_a21 hRr) (by first | omega | decide | assumption) (by decide) dX3_reaches_173 ⟨Rc_fr hRc (by decide) (by decide), P_a21 0 (by first | omega | decide | assumption) (by first | decide | omega) hRr, Ro_fr hRo (by decide)⟩ (fun H locs wl hZ hP hD hS => ?_)
                        obtain ⟨hRc, hRr, hRo⟩ := hZ
                        refine lv_iinc (v := nI (k + 1)) (lv' := [(4, .int (nI (k + 1))), (7, .int (nI 0)), (6, .int (nI (k % (r 30 0)))), (5, .int (nI ((k / (r 30 0)) % (r 30 0)))), (0, .ref (G 3)), (1, .int (nI a)), (2, .int (nI b)), (3, .int (nI fl))]) hx hb dX3_reaches_174 hl (k := 3) rfl (nI_add k 1) (by decide) rfl (fun ls hl => ?_)
                        refine lv_goto (tgt := 39) hx hb dX3_reaches_177 (by decide) ?_
                        exact ih39 (k + 1) (by omega) (by omega) (up2 r1 21 (k % (r 30 0)) 0) (by intro q j hq; rw [up2_c hq]; exact hk1 q j hq) (by intro j; unfold up2; split; (first | decide | omega); exact hb1 j) (by exact rr_zero hv9 hS1 (fun z => absurd ((hS1 _ hv9).mpr z) (by omega)) (fun z => absurd ((hS1 _ hu9).mpr z.1) (by omega))) _ _ _ _ hRc hRr hRo hP hD hS (lv_sub hl [0, 4, 5, 6, 7] rfl)
                      · refine lv_iload hx hb dX3_reaches_163 (lv_at hl 0 rfl) ?_
                        refine n_if_eq (tgt := 172) hx hb dX3_reaches_165 (by decide) (by decide) (fun c_165 => ?_) (fun c_165 => absurd c_165 (by decide))
                        refine lv_iconst (v := nI 0) hx hb dX3_reaches_172 (by decide) ?_
                        refine x_zast (Z := fun wl => Rc G c wl ∧ Rr G (up2 r1 21 (k % (r 30 0)) 0) wl ∧ Ro G o wl) hx hb hK hP hD hS 19 (Q_a21 hRr) (by first | omega | decide | assumption) (by decide) dX3_reaches_173 ⟨Rc_fr hRc (by decide) (by decide), P_a21 0 (by first | omega | decide | assumption) (by first | decide | omega) hRr, Ro_fr hRo (by decide)⟩ (fun H locs wl hZ hP hD hS => ?_)
                        obtain ⟨hRc, hRr, hRo⟩ := hZ
                        refine lv_iinc (v := nI (k + 1)) (lv' := [(4, .int (nI (k + 1))), (7, .int (nI 0)), (6, .int (nI (k % (r 30 0)))), (5, .int (nI ((k / (r 30 0)) % (r 30 0)))), (0, .ref (G 3)), (1, .int (nI a)), (2, .int (nI b)), (3, .int (nI fl))]) hx hb dX3_reaches_174 hl (k := 3) rfl (nI_add k 1) (by decide) rfl (fun ls hl => ?_)
                        refine lv_goto (tgt := 39) hx hb dX3_reaches_177 (by decide) ?_
                        exact ih39 (k + 1) (by omega) (by omega) (up2 r1 21 (k % (r 30 0)) 0) (by intro q j hq; rw [up2_c hq]; exact hk1 q j hq) (by intro j; unfold up2; split; (first | decide | omega); exact hb1 j) (by exact rr_zero hv9 hS1 (fun z => absurd ((hS1 _ hv9).mpr z) (by omega)) (fun z => (fun (q : eR r fl (k / r 30 0 % r 30 0) (k % r 30 0)) => by obtain ⟨_, _, q3⟩ := q; rcases q3 with q3 | ⟨q3, q4, q5⟩; exact (by have h8 := c_93; rw [hk1 7 _ (by decide)] at h8; omega); exact (by have h8 := c_112; rw [hk1 8 _ (by decide)] at h8; omega)) z.2)) _ _ _ _ hRc hRr hRo hP hD hS (lv_sub hl [0, 4, 5, 6, 7] rfl)
                  · refine lv_aload_n hx hb dX3_reaches_115 rfl (lv_at hl 3 rfl) ?_
                    refine va_get (D := D) (ci := 4) (v := .ref (G 14)) (C := RX3) (T := TX3) (N := 23) hx hb hts inX3 hown hK hP 3 (Q_m hRr) rfl 11 (by decide) (hts (.fieldLink RX3 38 "BootStageModel" "isCut" "[Z") (by decide +kernel)) (fun _ h9 => h9) rfl dX3_reaches_116 ?_
                    refine lv_iload hx hb dX3_reaches_119 (lv_at hl 1 rfl) ?_
                    refine lv_iload hx hb dX3_reaches_121 (lv_at hl 0 rfl) ?_
                    refine y_calli (va_runS (As := [.int (nI ((k / (r 30 0)) % (r 30 0))), .int (nI (k % (r 30 0)))]) (rest := [.ref (G 14)]) ⟨hx, hb, hml, hown, hts⟩ (k_X3_edge l D G h0 c r1 o ((k / (r 30 0)) % (r 30 0)) (k % (r 30 0))) (va_cwS 2 hts gX3_reaches_X3_edge rfl rfl rfl (by decide +kernel) ⟨Nat.le_of_ble_eq_true rfl, Nat.le_of_ble_eq_true rfl⟩) ⟨fun a U g mk q => ⟨q.1, Pr_cg q.2⟩, fun U hU hW => ⟨rfl, Pr_mk hE hRc hRr hRo hP hD hS hU hW⟩⟩ rfl rfl hl.1 rfl (lv_room (Nat.le_of_ble_eq_true rfl)) dX3_reaches_123 ⟨Nat.le_of_ble_eq_true rfl, Nat.le_of_ble_eq_true rfl⟩) hS (fun v9 _ H locs wl hv9 hRc hRr hRo hP hD hS => ?_)
                    refine n_top (y := .int (nI (20 * ((k / (r 30 0)) % (r 30 0)) + (k % (r 30 0))))) (congrArg Value.int hv9) ?_
                    clear hv9 v9
                    refine x_zald hx hb hK hP 14 (Q_a11 hRr) (by first | omega | decide | assumption) (by decide) dX3_reaches_126 (v := nI (r1 11 (20 * ((k / (r 30 0)) % (r 30 0)) + (k % (r 30 0))))) rfl ?_
                    refine n_if_ne (tgt := 134) hx hb dX3_reaches_127 (by decide) (hBr1 _ _ (by decide)) (fun c_127 => ?_) (fun c_127 => ?_)
                    · refine lv_iconst (v := nI 0) hx hb dX3_reaches_134 (by decide) ?_
                      refine lv_istore (lv' := [(7, .int (nI 0)), (6, .int (nI (k % (r 30 0)))), (5, .int (nI ((k / (r 30 0)) % (r 30 0)))), (4, .int (nI k)), (0, .ref (G 3)), (1, .int (nI a)), (2, .int (nI b)), (3, .int (nI fl))]) hx hb dX3_reaches_135 hl (by decide) rfl (fun ls hl => ?_)
                      refine lv_aload_n hx hb dX3_reaches_137 rfl (lv_at hl 4 rfl) ?_
                      refine va_get (D := D) (ci := 4) (v := .ref (G 19)) (C := RX3) (T := TX3) (N := 23) hx hb hts inX3 hown hK hP 3 (Q_m hRr) rfl 21 (by decide) (hts (.fieldLink RX3 53 "BootStageModel" "isReached" "[Z") (by decide +kernel)) (fun _ h9 => h9) rfl dX3_reaches_138 ?_
                      refine lv_iload hx hb dX3_reaches_141 (lv_at hl 1 rfl) ?_
                      refine lv_aload_n hx hb dX3_reaches_143 rfl (lv_at hl 4 rfl) ?_
                      refine va_get (D := D) (ci := 4) (v := .ref (G 19)) (C := RX3) (T := TX3) (N := 23) hx hb hts inX3 hown hK hP 3 (Q_m hRr) rfl 21 (by decide) (hts (.fieldLink RX3 53 "BootStageModel" "isReached" "[Z") (by decide +kernel)) (fun _ h9 => h9) rfl dX3_reaches_144 ?_
                      refine lv_iload hx hb dX3_reaches_147 (lv_at hl 1 rfl) ?_
                      refine x_zald hx hb hK hP 19 (Q_a21 hRr) (by first | omega | decide | assumption) (by decide) dX3_reaches_149 (v := nI (r1 21 (k % (r 30 0)))) rfl ?_
                      refine n_if_ne (tgt := 168) hx hb dX3_reaches_150 (by decide) (hBr1 _ _ (by decide)) (fun c_150 => ?_) (fun c_150 => ?_)
                      · refine lv_iconst (v := nI 1) hx hb dX3_reaches_168 (by decide) ?_
                        refine lv_goto (tgt := 173) hx hb dX3_reaches_169 (by decide) ?_
                        refine x_zast (Z := fun wl => Rc G c wl ∧ Rr G (up2 r1 21 (k % (r 30 0)) 1) wl ∧ Ro G o wl) hx hb hK hP hD hS 19 (Q_a21 hRr) (by first | omega | decide | assumption) (by decide) dX3_reaches_173 ⟨Rc_fr hRc (by decide) (by decide), P_a21 1 (by first | omega | decide | assumption) (by first | decide | omega) hRr, Ro_fr hRo (by decide)⟩ (fun H locs wl hZ hP hD hS => ?_)
                        obtain ⟨hRc, hRr, hRo⟩ := hZ
                        refine lv_iinc (v := nI (k + 1)) (lv' := [(4, .int (nI (k + 1))), (7, .int (nI 0)), (6, .int (nI (k % (r 30 0)))), (5, .int (nI ((k / (r 30 0)) % (r 30 0)))), (0, .ref (G 3)), (1, .int (nI a)), (2, .int (nI b)), (3, .int (nI fl))]) hx hb dX3_reaches_174 hl (k := 3) rfl (nI_add k 1) (by decide) rfl (fun ls hl => ?_)
                        refine lv_goto (tgt := 39) hx hb dX3_reaches_177 (by decide) ?_
                        exact ih39 (k + 1) (by omega) (by omega) (up2 r1 21 (k % (r 30 0)) 1) (by intro q j hq; rw [up2_c hq]; exact hk1 q j hq) (by intro j; unfold up2; split; (first | decide | omega); exact hb1 j) (by exact rr_one hv9 hS1 (show rrS r fl a (k + 1) (k % r 30 0) from Or.inl ((hS1 _ hv9).mp c_150))) _ _ _ _ hRc hRr hRo hP hD hS (lv_sub hl [0, 4, 5, 6, 7] rfl)
                      · refine lv_aload_n hx hb dX3_reaches_153 rfl (lv_at hl 4 rfl) ?_
                        refine va_get (D := D) (ci := 4) (v := .ref (G 19)) (C := RX3) (T := TX3) (N := 23) hx hb hts inX3 hown hK hP 3 (Q_m hRr) rfl 21 (by decide) (hts (.fieldLink RX3 53 "BootStageModel" "isReached" "[Z") (by decide +kernel)) (fun _ h9 => h9) rfl dX3_reaches_154 ?_
                        refine lv_iload hx hb dX3_reaches_157 (lv_at hl 2 rfl) ?_
                        refine x_zald hx hb hK hP 19 (Q_a21 hRr) (by first | omega | decide | assumption) (by decide) dX3_reaches_159 (v := nI (r1 21 ((k / (r 30 0)) % (r 30 0)))) rfl ?_
                        refine n_if_eq (tgt := 172) hx hb dX3_reaches_160 (by decide) (hBr1 _ _ (by decide)) (fun c_160 => ?_) (fun c_160 => ?_)
                        · refine lv_iconst (v := nI 0) hx hb dX3_reaches_172 (by decide) ?_
                          refine x_zast (Z := fun wl => Rc G c wl ∧ Rr G (up2 r1 21 (k % (r 30 0)) 0) wl ∧ Ro G o wl) hx hb hK hP hD hS 19 (Q_a21 hRr) (by first | omega | decide | assumption) (by decide) dX3_reaches_173 ⟨Rc_fr hRc (by decide) (by decide), P_a21 0 (by first | omega | decide | assumption) (by first | decide | omega) hRr, Ro_fr hRo (by decide)⟩ (fun H locs wl hZ hP hD hS => ?_)
                          obtain ⟨hRc, hRr, hRo⟩ := hZ
                          refine lv_iinc (v := nI (k + 1)) (lv' := [(4, .int (nI (k + 1))), (7, .int (nI 0)), (6, .int (nI (k % (r 30 0)))), (5, .int (nI ((k / (r 30 0)) % (r 30 0)))), (0, .ref (G 3)), (1, .int (nI a)), (2, .int (nI b)), (3, .int (nI fl))]) hx hb dX3_reaches_174 hl (k := 3) rfl (nI_add k 1) (by decide) rfl (fun ls hl => ?_)
                          refine lv_goto (tgt := 39) hx hb dX3_reaches_177 (by decide) ?_
                          exact ih39 (k + 1) (by omega) (by omega) (up2 r1 21 (k % (r 30 0)) 0) (by intro q j hq; rw [up2_c hq]; exact hk1 q j hq) (by intro j; unfold up2; split; (first | decide | omega); exact hb1 j) (by exact rr_zero hv9 hS1 (fun z => absurd ((hS1 _ hv9).mpr z) (by omega)) (fun z => absurd ((hS1 _ hu9).mpr z.1) (by omega))) _ _ _ _ hRc hRr hRo hP hD hS (lv_sub hl [0, 4, 5, 6, 7] rfl)
                        · refine lv_iload hx hb dX3_reaches_163 (lv_at hl 0 rfl) ?_
                          refine n_if_eq (tgt := 172) hx hb dX3_reaches_165 (by decide) (by decide) (fun c_165 => ?_) (fun c_165 => absurd c_165 (by decide))
                          refine lv_iconst (v := nI 0) hx hb dX3_reaches_172 (by decide) ?_
                          refine x_zast (Z := fun wl => Rc G c wl ∧ Rr G (up2 r1 21 (k % (r 30 0)) 0) wl ∧ Ro G o wl) hx hb hK hP hD hS 19 (Q_a21 hRr) (by first | omega | decide | assumption) (by decide) dX3_reaches_173 ⟨Rc_fr hRc (by decide) (by decide), P_a21 0 (by first | omega | decide | assumption) (by first | decide | omega) hRr, Ro_fr hRo (by decide)⟩ (fun H locs wl hZ hP hD hS => ?_)
                          obtain ⟨hRc, hRr, hRo⟩ := hZ
                          refine lv_iinc (v := nI (k + 1)) (lv' := [(4, .int (nI (k + 1))), (7, .int (nI 0)), (6, .int (nI (k % (r 30 0)))), (5, .int (nI ((k / (r 30 0)) % (r 30 0)))), (0, .ref (G 3)), (1, .int (nI a)), (2, .int (nI b)), (3, .int (nI fl))]) hx hb dX3_reaches_174 hl (k := 3) rfl (nI_add k 1) (by decide) rfl (fun ls hl => ?_)
                          refine lv_goto (tgt := 39) hx hb dX3_reaches_177 (by decide) ?_
                          exact ih39 (k + 1) (by omega) (by omega) (up2 r1 21 (k % (r 30 0)) 0) (by intro q j hq; rw [up2_c hq]; exact hk1 q j hq) (by intro j; unfold up2; split; (first | decide | omega); exact hb1 j) (by exact rr_zero hv9 hS1 (fun z => absurd ((hS1 _ hv9).mpr z) (by omega)) (fun z => (fun (q : eR r fl (k / r 30 0 % r 30 0) (k % r 30 0)) => by obtain ⟨_, _, q3⟩ := q; rcases q3 with q3 | ⟨q3, q4, q5⟩; exact (by have h8 := c_93; rw [hk1 7 _ (by decide)] at h8; omega); exact (by have h8 := c_127; rw [hk1 11 _ (by decide)] at h8; omega)) z.2)) _ _ _ _ hRc hRr hRo hP hD hS (lv_sub hl [0, 4, 5, 6, 7] rfl)
                    · refine lv_iconst (v := nI 1) hx hb dX3_reaches_130 (by decide) ?_
                      refine lv_goto (tgt := 135) hx hb dX3_reaches_131 (by decide) ?_
                      refine lv_istore (lv' := [(7, .int (nI 1)), (6, .int (nI (k % (r 30 0)))), (5, .int (nI ((k / (r 30 0)) % (r 30 0)))), (4, .int (nI k)), (0, .ref (G 3)), (1, .int (nI a)), (2, .int (nI b)), (3, .int (nI fl))]) hx hb dX3_reaches_135 hl (by decide) rfl (fun ls hl => ?_)
                      refine lv_aload_n hx hb dX3_reaches_137 rfl (lv_at hl 4 rfl) ?_
                      refine va_get (D := D) (ci := 4) (v := .ref (G 19)) (C := RX3) (T := TX3) (N := 23) hx hb hts inX3 hown hK hP 3 (Q_m hRr) rfl 21 (by decide) (hts (.fieldLink RX3 53 "BootStageModel" "isReached" "[Z") (by decide +kernel)) (fun _ h9 => h9) rfl dX3_reaches_138 ?_
                      refine lv_iload hx hb dX3_reaches_141 (lv_at hl 1 rfl) ?_
                      refine lv_aload_n hx hb dX3_reaches_143 rfl (lv_at hl 4 rfl) ?_
                      refine va_get (D := D) (ci := 4) (v := .ref (G 19)) (C := RX3) (T := TX3) (N := 23) hx hb hts inX3 hown hK hP 3 (Q_m hRr) rfl 21 (by decide) (hts (.fieldLink RX3 53 "BootStageModel" "isReached" "[Z") (by decide +kernel)) (fun _ h9 => h9) rfl dX3_reaches_144 ?_
                      refine lv_iload hx hb dX3_reaches_147 (lv_at hl 1 rfl) ?_
                      refine x_zald hx hb hK hP 19 (Q_a21 hRr) (by first | omega | decide | assumption) (by decide) dX3_reaches_149 (v := nI (r1 21 (k % (r 30 0)))) rfl ?_
                      refine n_if_ne (tgt := 168) hx hb dX3_reaches_150 (by decide) (hBr1 _ _ (by decide)) (fun c_150 => ?_) (fun c_150 => ?_)
                      · refine lv_iconst (v := nI 1) hx hb dX3_reaches_168 (by decide) ?_
                        refine lv_goto (tgt := 173) hx hb dX3_reaches_169 (by decide) ?_
                        refine x_zast (Z := fun wl => Rc G c wl ∧ Rr G (up2 r1 21 (k % (r 30 0)) 1) wl ∧ Ro G o wl) hx hb hK hP hD hS 19 (Q_a21 hRr) (by first | omega | decide | assumption) (by decide) dX3_reaches_173 ⟨Rc_fr hRc (by decide) (by decide), P_a21 1 (by first | omega | decide | assumption) (by first | decide | omega) hRr, Ro_fr hRo (by decide)⟩ (fun H locs wl hZ hP hD hS => ?_)
                        obtain ⟨hRc, hRr, hRo⟩ := hZ
                        refine lv_iinc (v := nI (k + 1)) (lv' := [(4, .int (nI (k + 1))), (7, .int (nI 1)), (6, .int (nI (k % (r 30 0)))), (5, .int (nI ((k / (r 30 0)) % (r 30 0)))), (0, .ref (G 3)), (1, .int (nI a)), (2, .int (nI b)), (3, .int (nI fl))]) hx hb dX3_reaches_174 hl (k := 3) rfl (nI_add k 1) (by decide) rfl (fun ls hl => ?_)
                        refine lv_goto (tgt := 39) hx hb dX3_reaches_177 (by decide) ?_
                        exact ih39 (k + 1) (by omega) (by omega) (up2 r1 21 (k % (r 30 0)) 1) (by intro q j hq; rw [up2_c hq]; exact hk1 q j hq) (by intro j; unfold up2; split; (first | decide | omega); exact hb1 j) (by exact rr_one hv9 hS1 (show rrS r fl a (k + 1) (k % r 30 0) from Or.inl ((hS1 _ hv9).mp c_150))) _ _ _ _ hRc hRr hRo hP hD hS (lv_sub hl [0, 4, 5, 6, 7] rfl)
                      · refine lv_aload_n hx hb dX3_reaches_153 rfl (lv_at hl 4 rfl) ?_
                        refine va_get (D := D) (ci := 4) (v := .ref (G 19)) (C := RX3) (T := TX3) (N := 23) hx hb hts inX3 hown hK hP 3 (Q_m hRr) rfl 21 (by decide) (hts (.fieldLink RX3 53 "BootStageModel" "isReached" "[Z") (by decide +kernel)) (fun _ h9 => h9) rfl dX3_reaches_154 ?_
                        refine lv_iload hx hb dX3_reaches_157 (lv_at hl 2 rfl) ?_
                        refine x_zald hx hb hK hP 19 (Q_a21 hRr) (by first | omega | decide | assumption) (by decide) dX3_reaches_159 (v := nI (r1 21 ((k / (r 30 0)) % (r 30 0)))) rfl ?_
                        refine n_if_eq (tgt := 172) hx hb dX3_reaches_160 (by decide) (hBr1 _ _ (by decide)) (fun c_160 => ?_) (fun c_160 => ?_)
                        · refine lv_iconst (v := nI 0) hx hb dX3_reaches_172 (by decide) ?_
                          refine x_zast (Z := fun wl => Rc G c wl ∧ Rr G (up2 r1 21 (k % (r 30 0)) 0) wl ∧ Ro G o wl) hx hb hK hP hD hS 19 (Q_a21 hRr) (by first | omega | decide | assumption) (by decide) dX3_reaches_173 ⟨Rc_fr hRc (by decide) (by decide), P_a21 0 (by first | omega | decide | assumption) (by first | decide | omega) hRr, Ro_fr hRo (by decide)⟩ (fun H locs wl hZ hP hD hS => ?_)
                          obtain ⟨hRc, hRr, hRo⟩ := hZ
                          refine lv_iinc (v := nI (k + 1)) (lv' := [(4, .int (nI (k + 1))), (7, .int (nI 1)), (6, .int (nI (k % (r 30 0)))), (5, .int (nI ((k / (r 30 0)) % (r 30 0)))), (0, .ref (G 3)), (1, .int (nI a)), (2, .int (nI b)), (3, .int (nI fl))]) hx hb dX3_reaches_174 hl (k := 3) rfl (nI_add k 1) (by decide) rfl (fun ls hl => ?_)
                          refine lv_goto (tgt := 39) hx hb dX3_reaches_177 (by decide) ?_
                          exact ih39 (k + 1) (by omega) (by omega) (up2 r1 21 (k % (r 30 0)) 0) (by intro q j hq; rw [up2_c hq]; exact hk1 q j hq) (by intro j; unfold up2; split; (first | decide | omega); exact hb1 j) (by exact rr_zero hv9 hS1 (fun z => absurd ((hS1 _ hv9).mpr z) (by omega)) (fun z => absurd ((hS1 _ hu9).mpr z.1) (by omega))) _ _ _ _ hRc hRr hRo hP hD hS (lv_sub hl [0, 4, 5, 6, 7] rfl)
                        · refine lv_iload hx hb dX3_reaches_163 (lv_at hl 0 rfl) ?_
                          refine n_if_eq (tgt := 172) hx hb dX3_reaches_165 (by decide) (by decide) (fun c_165 => absurd c_165 (by decide)) (fun c_165 => ?_)
                          refine lv_iconst (v := nI 1) hx hb dX3_reaches_168 (by decide) ?_
                          refine lv_goto (tgt := 173) hx hb dX3_reaches_169 (by decide) ?_
                          refine x_zast (Z := fun wl => Rc G c wl ∧ Rr G (up2 r1 21 (k % (r 30 0)) 1) wl ∧ Ro G o wl) hx hb hK hP hD hS 19 (Q_a21 hRr) (by first | omega | decide | assumption) (by decide) dX3_reaches_173 ⟨Rc_fr hRc (by decide) (by decide), P_a21 1 (by first | omega | decide | assumption) (by first | decide | omega) hRr, Ro_fr hRo (by decide)⟩ (fun H locs wl hZ hP hD hS => ?_)
                          obtain ⟨hRc, hRr, hRo⟩ := hZ
                          refine lv_iinc (v := nI (k + 1)) (lv' := [(4, .int (nI (k + 1))), (7, .int (nI 1)), (6, .int (nI (k % (r 30 0)))), (5, .int (nI ((k / (r 30 0)) % (r 30 0)))), (0, .ref (G 3)), (1, .int (nI a)), (2, .int (nI b)), (3, .int (nI fl))]) hx hb dX3_reaches_174 hl (k := 3) rfl (nI_add k 1) (by decide) rfl (fun ls hl => ?_)
                          refine lv_goto (tgt := 39) hx hb dX3_reaches_177 (by decide) ?_
                          exact ih39 (k + 1) (by omega) (by omega) (up2 r1 21 (k % (r 30 0)) 1) (by intro q j hq; rw [up2_c hq]; exact hk1 q j hq) (by intro j; unfold up2; split; (first | decide | omega); exact hb1 j) (by exact rr_one hv9 hS1 (show rrS r fl a (k + 1) (k % r 30 0) from Or.inr ⟨rfl, (hS1 _ hu9).mp c_160, hu9, hv9, Or.inr ⟨c_97, by have h9 := c_112; rw [hk1 8 _ (by decide)] at h9; exact h9, by have h9 := c_127; rw [hk1 11 _ (by decide)] at h9; exact h9⟩⟩)) _ _ _ _ hRc hRr hRo hP hD hS (lv_sub hl [0, 4, 5, 6, 7] rfl)
        exact L39 _ 0 (Nat.lt_succ_self _) (by omega) (r1) (by exact hk1) (by exact hb1) (by intro j hj; rw [hS1 j (by omega)]; show _ ↔ j = a; constructor; (intro z; exact bN_1.mp (Nat.le_antisymm (bN_le _) z)); (intro z; rw [bN_t z]; decide)) _ _ _ _ hRc hRr hRo hP hD hS (lv_sub hl [0, 1, 2, 3, 4] rfl)
      · refine lv_aload_n hx hb dX3_reaches_12 rfl (lv_at hl 1 rfl) ?_
        refine va_get (D := D) (ci := 4) (v := .ref (G 19)) (C := RX3) (T := TX3) (N := 23) hx hb hts inX3 hown hK hP 3 (Q_m hRr) rfl 21 (by decide) (hts (.fieldLink RX3 53 "BootStageModel" "isReached" "[Z") (by decide +kernel)) (fun _ h9 => h9) rfl dX3_reaches_13 ?_
        refine lv_iload hx hb dX3_reaches_16 (lv_at hl 0 rfl) ?_
        refine lv_iload hx hb dX3_reaches_18 (lv_at hl 0 rfl) ?_
        refine lv_iload_n hx hb dX3_reaches_20 rfl (lv_at hl 2 rfl) ?_
        refine n_icmp_ne (tgt := 28) hx hb dX3_reaches_21 (by decide) (by omega) (by omega) (fun c_21 => ?_) (fun c_21 => ?_)
        · refine lv_iconst (v := nI 0) hx hb dX3_reaches_28 (by decide) ?_
          refine x_zast (Z := fun wl => Rc G c wl ∧ Rr G (up2 r1 21 i 0) wl ∧ Ro G o wl) hx hb hK hP hD hS 19 (Q_a21 hRr) (by first | omega | decide | assumption) (by decide) dX3_reaches_29 ⟨Rc_fr hRc (by decide) (by decide), P_a21 0 (by first | omega | decide | assumption) (by first | decide | omega) hRr, Ro_fr hRo (by decide)⟩ (fun H locs wl hZ hP hD hS => ?_)
          obtain ⟨hRc, hRr, hRo⟩ := hZ
          refine lv_iinc (v := nI (i + 1)) (lv' := [(4, .int (nI (i + 1))), (0, .ref (G 3)), (1, .int (nI a)), (2, .int (nI b)), (3, .int (nI fl))]) hx hb dX3_reaches_30 hl (k := 0) rfl (nI_add i 1) (by decide) rfl (fun ls hl => ?_)
          refine lv_goto (tgt := 3) hx hb dX3_reaches_33 (by decide) ?_
          exact ih3 (i + 1) (by omega) (by omega) (up2 r1 21 i 0) (by intro q j hq; rw [up2_c hq]; exact hk1 q j hq) (by intro j; unfold up2; split; (first | decide | omega); exact hb1 j) (by intro j hj; rcases Nat.lt_or_ge j i with ej | ej; (rw [up2_i (by omega)]; exact hS1 j ej); (rw [show j = i by omega, up2_s]; exact (bN_f c_21).symm)) _ _ _ _ hRc hRr hRo hP hD hS (lv_sub hl [0, 1, 2, 3, 4] rfl)
        · refine lv_iconst (v := nI 1) hx hb dX3_reaches_24 (by decide) ?_
          refine lv_goto (tgt := 29) hx hb dX3_reaches_25 (by decide) ?_
          refine x_zast (Z := fun wl => Rc G c wl ∧ Rr G (up2 r1 21 i 1) wl ∧ Ro G o wl) hx hb hK hP hD hS 19 (Q_a21 hRr) (by first | omega | decide | assumption) (by decide) dX3_reaches_29 ⟨Rc_fr hRc (by decide) (by decide), P_a21 1 (by first | omega | decide | assumption) (by first | decide | omega) hRr, Ro_fr hRo (by decide)⟩ (fun H locs wl hZ hP hD hS => ?_)
          obtain ⟨hRc, hRr, hRo⟩ := hZ
          refine lv_iinc (v := nI (i + 1)) (lv' := [(4, .int (nI (i + 1))), (0, .ref (G 3)), (1, .int (nI a)), (2, .int (nI b)), (3, .int (nI fl))]) hx hb dX3_reaches_30 hl (k := 0) rfl (nI_add i 1) (by decide) rfl (fun ls hl => ?_)
          refine lv_goto (tgt := 3) hx hb dX3_reaches_33 (by decide) ?_
          exact ih3 (i + 1) (by omega) (by omega) (up2 r1 21 i 1) (by intro q j hq; rw [up2_c hq]; exact hk1 q j hq) (by intro j; unfold up2; split; (first | decide | omega); exact hb1 j) (by intro j hj; rcases Nat.lt_or_ge j i with ej | ej; (rw [up2_i (by omega)]; exact hS1 j ej); (rw [show j = i by omega, up2_s]; exact (bN_t c_21).symm)) _ _ _ _ hRc hRr hRo hP hD hS (lv_sub hl [0, 1, 2, 3, 4] rfl)
  exact L3 _ 0 (Nat.lt_succ_self _) (by omega) (r) (by exact fun _ _ _ => rfl) (by exact h21) (by exact fun j hj => absurd hj (Nat.not_lt_zero _)) _ _ _ _ hRc hRr hRo hP hD hS (lv_sub hl [0, 1, 2, 3, 4] rfl)
set_option maxHeartbeats 4000000 in
set_option maxRecDepth 100000 in
theorem k_X3_weakest (l : Launch) (D : va_G) (G : Nat → Nat) (h0 : Nat) (c r : Nat → Nat → Nat) (o : Nat) (hI : IR r) : Met l yX3_weakest wsX3_weakest ({ frames := 2, cells := 0, slots := 0, locals := 48 } : Room) (va_Pc [.ref (G 3)] (fun U => Pr D G h0 c r o U)) (va_Qi (fun (v9 : Int32) (u9 : Nat → Nat → Nat) => v9 = nI (wkR r) - 1 ∧ (∀ a i, a ≠ 21 → u9 a i = r a i) ∧ (∀ i, u9 21 i ≤ 1)) (fun (u9 : Nat → Nat → Nat) t => Wr D G h0 c u9 o t) (fun q => h0 ≤ q)) 0 0 (fun q => h0 ≤ q) := by
  refine Met.ofW (cc := cX3_weakest) (maxL := 5) (ret := (some .int)) (by decide) rfl ?_
  intro p e s m args below meth cd s₁ B hml hv
  obtain ⟨rfl, hE, wl, hRc, hRr, hRo, hP, hD⟩ := hv
  have hx := B.exec
  have hb := B.bytes
  have hr := B.returns
  have hts := atoms_spec (ws := wsX3_weakest) B.pre
  have hown : s.vm.findClass RX3 = some m.cls := findClass_of_methodNamed B.named
  have hlocks := B.notSynchronized
  have hK := hE.2.1
  have hS : va_S (fun q => h0 ≤ q) s.heap s.heap [] := va_S.rf
  have hl := lv_entry ([.ref (G 3)]) (n := 5) (Nat.le_of_ble_eq_true rfl)
  rw [lg_entry_eq]
  generalize (lg_sl ([.ref (G 3)]) ++ List.replicate (5 - (lg_sl ([.ref (G 3)])).length) Slot.unset).toArray = ls at hl ⊢
  have hl : lv_has ls 5 [(0, .ref (G 3))] := hl
  have inX3 : ∀ w ∈ wsX30, w ∈ wsX3_weakest := by decide +kernel
  obtain ⟨Q, hQ⟩ : ∃ Q, Q = MQ below (va_Qi (fun (v9 : Int32) (u9 : Nat → Nat → Nat) => v9 = nI (wkR r) - 1 ∧ (∀ a i, a ≠ 21 → u9 a i = r a i) ∧ (∀ i, u9 21 i ≤ 1)) (fun (u9 : Nat → Nat → Nat) t => Wr D G h0 c u9 o t) (fun q => h0 ≤ q)) ([.ref (G 3)] : List Value).toArray s 0 0 (fun q => h0 ≤ q) := ⟨_, rfl⟩
  rw [← hQ]
  have hBr := IR_B hI
  have hn := IR_n hI
  have hs := IR_s hI
  have h21 : ∀ i, r 21 i ≤ 1 := fun i => by have h9 := IR_U hI i; unfold RU at h9; omega
  have hnn : r 30 0 * r 30 0 ≤ 20 * 20 := Nat.mul_le_mul hn hn
  refine lv_iconst (v := (-1)) hx hb dX3_weakest_0 (by decide) ?_
  refine lv_istore_n (lv' := [(1, .int (-1)), (0, .ref (G 3))]) hx hb dX3_weakest_1 rfl hl (by decide) rfl (fun ls hl => ?_)
  refine lv_iconst (v := nI 0) hx hb dX3_weakest_2 (by decide) ?_
  refine lv_istore_n (lv' := [(2, .int (nI 0)), (1, .int (-1)), (0, .ref (G 3))]) hx hb dX3_weakest_3 rfl hl (by decide) rfl (fun ls hl => ?_)
  have L4 : ∀ (d k : Nat), r 30 0 * r 30 0 - k < d → k ≤ r 30 0 * r 30 0 → ∀ (r1 : Nat → Nat → Nat), (∀ a i, a ≠ 21 → r1 a i = r a i) → (∀ i, r1 21 i ≤ 1) → ∀ (H : Heap) (locs : List Loc) (wl : va_W) (ls : Array Slot), Rc G c wl → Rr G r1 wl → Ro G o wl → va_P D vwCl wl H → va_D (fun q => h0 ≤ q) wl → va_S (fun q => h0 ≤ q) s.heap H locs → lv_has ls 5 [(2, .int (nI k)), (1, .int (siI (wkI r k))), (0, .ref (G 3))] → W p l e (headSpec wsX3_weakest ({ frames := 2, cells := 0, slots := 0, locals := 48 } : Room)).room s m ([.ref (G 3)] : List Value).toArray below meth cd H locs 0 0 Q (F0 m 4 ls []) := by
    intro d4
    induction d4 with
    | zero => intro k hd; exact absurd hd (Nat.not_lt_zero _)
    | succ d4 ih4 =>
      intro k hd hi r1  hk1 hb1 H locs wl ls hRc hRr hRo hP hD hS hl
      have hI1 : IR r1 := IR_off hI hk1 hb1
      have hBr1 := IR_B hI1
      have e30_0 : r1 30 0 = r 30 0 := hk1 30 0 (by decide)
      refine lv_iload_n hx hb dX3_weakest_4 rfl (lv_at hl 0 rfl) ?_
      refine lv_aload_n hx hb dX3_weakest_5 rfl (lv_at hl 2 rfl) ?_
      refine va_get (D := D) (ci := 4) (v := .int (nI (r 30 0))) (C := RX3) (T := TX3) (N := 23) hx hb hts inX3 hown hK hP 3 (Q_m hRr) rfl 0 (by decide) (hts (.fieldLink RX3 60 "BootStageModel" "units" "I") (by decide +kernel)) (fun _ h9 => h9) (congrArg (fun z => some (Value.int (nI z))) (show r1 30 0 = r 30 0 from by simp [up2, e30_0])) dX3_weakest_6 ?_
      refine lv_aload_n hx hb dX3_weakest_9 rfl (lv_at hl 2 rfl) ?_
      refine va_get (D := D) (ci := 4) (v := .int (nI (r 30 0))) (C := RX3) (T := TX3) (N := 23) hx hb hts inX3 hown hK hP 3 (Q_m hRr) rfl 0 (by decide) (hts (.fieldLink RX3 60 "BootStageModel" "units" "I") (by decide +kernel)) (fun _ h9 => h9) (congrArg (fun z => some (Value.int (nI z))) (show r1 30 0 = r 30 0 from by simp [up2, e30_0])) dX3_weakest_10 ?_
      refine n_imul hx hb dX3_weakest_13 ?_
      refine n_icmp_ge (tgt := 145) hx hb dX3_weakest_14 (by decide) (by omega) (by omega) (fun c_14 => ?_) (fun c_14 => ?_)
      · refine lv_iload_n hx hb dX3_weakest_145 rfl (lv_at hl 1 rfl) ?_
        rw [hQ]
        have hrel : (fun (v9 : Int32) (u9 : Nat → Nat → Nat) => v9 = nI (wkR r) - 1 ∧ (∀ a i, a ≠ 21 → u9 a i = r a i) ∧ (∀ i, u9 21 i ≤ 1)) (siI (wkI r k)) r1 := by exact ⟨by rw [show k = r 30 0 * r 30 0 by omega]; rfl, hk1, hb1⟩
        exact W.iret (v := siI (wkI r k)) hx hb hr (fun t ht hW => ⟨⟨_, r1, rfl, hrel, Wr_mk hRc hRr hRo hP hD ht⟩, hS.F ht⟩) hS.2.2 dX3_weakest_146
      · obtain ⟨hq9, hv9, he9⟩ := dm_lt c_14 hn
        have hn0 : 0 < r 30 0 := by omega
        have hd9 : k / r 30 0 ≤ k := Nat.div_le_self _ _
        rcases (show wkI r k = 0 ∨ ∃ w, wkI r k = w + 1 from by cases h9 : wkI r k with | zero => exact Or.inl rfl | succ w => exact Or.inr ⟨w, rfl⟩) with hzw | ⟨w, hzw⟩
        · have hwk := wkI_le hn k (by omega)
          refine lv_iload_n hx hb dX3_weakest_17 rfl (lv_at hl 0 rfl) ?_
          refine lv_aload_n hx hb dX3_weakest_18 rfl (lv_at hl 2 rfl) ?_
          refine va_get (D := D) (ci := 4) (v := .int (nI (r 30 0))) (C := RX3) (T := TX3) (N := 23) hx hb hts inX3 hown hK hP 3 (Q_m hRr) rfl 0 (by decide) (hts (.fieldLink RX3 60 "BootStageModel" "units" "I") (by decide +kernel)) (fun _ h9 => h9) (congrArg (fun z => some (Value.int (nI z))) (show r1 30 0 = r 30 0 from by simp [up2, e30_0])) dX3_weakest_19 ?_
          refine n_idiv hx hb dX3_weakest_22 (by omega) (by exact hn0) (hBr _ _ (by decide)) ?_
          refine lv_iload_n hx hb dX3_weakest_23 rfl (lv_at hl 0 rfl) ?_
          refine lv_aload_n hx hb dX3_weakest_24 rfl (lv_at hl 2 rfl) ?_
          refine va_get (D := D) (ci := 4) (v := .int (nI (r 30 0))) (C := RX3) (T := TX3) (N := 23) hx hb hts inX3 hown hK hP 3 (Q_m hRr) rfl 0 (by decide) (hts (.fieldLink RX3 60 "BootStageModel" "units" "I") (by decide +kernel)) (fun _ h9 => h9) (congrArg (fun z => some (Value.int (nI z))) (show r1 30 0 = r 30 0 from by simp [up2, e30_0])) dX3_weakest_25 ?_
          refine n_irem hx hb dX3_weakest_28 (by omega) (by exact hn0) (hBr _ _ (by decide)) ?_
          refine y_calli (va_runS (As := [.int (nI (k / (r 30 0))), .int (nI (k % (r 30 0)))]) (rest := []) ⟨hx, hb, hml, hown, hts⟩ (k_X3_edge l D G h0 c r1 o (k / (r 30 0)) (k % (r 30 0))) (va_cwS 2 hts gX3_weakest_X3_edge rfl rfl rfl (by decide +kernel) ⟨Nat.le_of_ble_eq_true rfl, Nat.le_of_ble_eq_true rfl⟩) ⟨fun a U g mk q => ⟨q.1, Pr_cg q.2⟩, fun U hU hW => ⟨rfl, Pr_mk hE hRc hRr hRo hP hD hS hU hW⟩⟩ rfl rfl hl.1 rfl (lv_room (Nat.le_of_ble_eq_true rfl)) dX3_weakest_29 ⟨Nat.le_of_ble_eq_true rfl, Nat.le_of_ble_eq_true rfl⟩) hS (fun v9 _ H locs wl hv9 hRc hRr hRo hP hD hS => ?_)
          refine n_top (y := .int (nI (20 * (k / (r 30 0)) + (k % (r 30 0))))) (congrArg Value.int hv9) ?_
          clear hv9 v9
          refine lv_istore_n (lv' := [(3, .int (nI (20 * (k / (r 30 0)) + (k % (r 30 0))))), (2, .int (nI k)), (1, .int (siI (wkI r k))), (0, .ref (G 3))]) hx hb dX3_weakest_32 rfl hl (by decide) rfl (fun ls hl => ?_)
          refine lv_aload_n hx hb dX3_weakest_33 rfl (lv_at hl 3 rfl) ?_
          refine va_get (D := D) (ci := 4) (v := .ref (G 12)) (C := RX3) (T := TX3) (N := 23) hx hb hts inX3 hown hK hP 3 (Q_m hRr) rfl 8 (by decide) (hts (.fieldLink RX3 32 "BootStageModel" "weights" "[I") (by decide +kernel)) (fun _ h9 => h9) rfl dX3_weakest_34 ?_
          refine lv_iload_n hx hb dX3_weakest_37 rfl (lv_at hl 0 rfl) ?_
          refine x_iald hx hb hK hP 12 (Q_a8 hRr) (by first | omega | decide | assumption) (by decide) dX3_weakest_38 (v := nI (r1 8 (20 * (k / (r 30 0)) + (k % (r 30 0))))) rfl ?_
          refine n_if_le (tgt := 105) hx hb dX3_weakest_39 (by decide) (hBr1 _ _ (by decide)) (fun c_39 => ?_) (fun c_39 => ?_)
          · refine lv_iconst (v := nI 0) hx hb dX3_weakest_105 (by decide) ?_
            refine lv_istore (lv' := [(4, .int (nI 0)), (3, .int (nI (20 * (k / (r 30 0)) + (k % (r 30 0))))), (2, .int (nI k)), (1, .int (siI (wkI r k))), (0, .ref (G 3))]) hx hb dX3_weakest_106 hl (by decide) rfl (fun ls hl => ?_)
            refine lv_iload hx hb dX3_weakest_108 (lv_at hl 0 rfl) ?_
            refine n_if_eq (tgt := 137) hx hb dX3_weakest_110 (by decide) (by decide) (fun c_110 => ?_) (fun c_110 => absurd c_110 (by decide))
            refine lv_iload_n hx hb dX3_weakest_137 rfl (lv_at hl 3 rfl) ?_
            refine n_top (y := .int (-1)) (congrArg Value.int (by rw [hzw]; exact siI_0)) ?_
            refine lv_istore_n (lv' := [(1, .int (-1)), (4, .int (nI 0)), (3, .int (nI (20 * (k / (r 30 0)) + (k % (r 30 0))))), (2, .int (nI k)), (0, .ref (G 3))]) hx hb dX3_weakest_138 rfl hl (by decide) rfl (fun ls hl => ?_)
            refine lv_iinc (v := nI (k + 1)) (lv' := [(2, .int (nI (k + 1))), (1, .int (-1)), (4, .int (nI 0)), (3, .int (nI (20 * (k / (r 30 0)) + (k % (r 30 0))))), (0, .ref (G 3))]) hx hb dX3_weakest_139 hl (k := 3) rfl (nI_add k 1) (by decide) rfl (fun ls hl => ?_)
            refine lv_goto (tgt := 4) hx hb dX3_weakest_142 (by decide) ?_
            exact ih4 (k + 1) (by omega) (by omega) (r1) (by exact hk1) (by exact hb1) _ _ _ _ hRc hRr hRo hP hD hS (show lv_has ls 5 [(2, .int (nI (k + 1))), (1, .int (siI (wkI r (k + 1)))), (0, .ref (G 3))] from by rw [show ((.int (siI (wkI r (k + 1))) : Value)) = .int (-1) from by show Value.int (siI (wkI r (k + 1))) = _; rw [wkI_f (fun q => by have h8 := q.1; have h7 := c_39; rw [hk1 8 _ (by decide)] at h7; omega)]; rw [hzw]; exact congrArg Value.int siI_0]; exact lv_sub hl [0, 1, 4] rfl)
          · refine lv_aload_n hx hb dX3_weakest_42 rfl (lv_at hl 3 rfl) ?_
            refine va_get (D := D) (ci := 4) (v := .ref (G 14)) (C := RX3) (T := TX3) (N := 23) hx hb hts inX3 hown hK hP 3 (Q_m hRr) rfl 11 (by decide) (hts (.fieldLink RX3 38 "BootStageModel" "isCut" "[Z") (by decide +kernel)) (fun _ h9 => h9) rfl dX3_weakest_43 ?_
            refine lv_iload_n hx hb dX3_weakest_46 rfl (lv_at hl 0 rfl) ?_
            refine x_zald hx hb hK hP 14 (Q_a11 hRr) (by first | omega | decide | assumption) (by decide) dX3_weakest_47 (v := nI (r1 11 (20 * (k / (r 30 0)) + (k % (r 30 0))))) rfl ?_
            refine n_if_ne (tgt := 105) hx hb dX3_weakest_48 (by decide) (hBr1 _ _ (by decide)) (fun c_48 => ?_) (fun c_48 => ?_)
            · refine lv_iconst (v := nI 0) hx hb dX3_weakest_105 (by decide) ?_
              refine lv_istore (lv' := [(4, .int (nI 0)), (3, .int (nI (20 * (k / (r 30 0)) + (k % (r 30 0))))), (2, .int (nI k)), (1, .int (siI (wkI r k))), (0, .ref (G 3))]) hx hb dX3_weakest_106 hl (by decide) rfl (fun ls hl => ?_)
              refine lv_iload hx hb dX3_weakest_108 (lv_at hl 0 rfl) ?_
              refine n_if_eq (tgt := 137) hx hb dX3_weakest_110 (by decide) (by decide) (fun c_110 => ?_) (fun c_110 => absurd c_110 (by decide))
              refine lv_iload_n hx hb dX3_weakest_137 rfl (lv_at hl 3 rfl) ?_
              refine n_top (y := .int (-1)) (congrArg Value.int (by rw [hzw]; exact siI_0)) ?_
              refine lv_istore_n (lv' := [(1, .int (-1)), (4, .int (nI 0)), (3, .int (nI (20 * (k / (r 30 0)) + (k % (r 30 0))))), (2, .int (nI k)), (0, .ref (G 3))]) hx hb dX3_weakest_138 rfl hl (by decide) rfl (fun ls hl => ?_)
              refine lv_iinc (v := nI (k + 1)) (lv' := [(2, .int (nI (k + 1))), (1, .int (-1)), (4, .int (nI 0)), (3, .int (nI (20 * (k / (r 30 0)) + (k % (r 30 0))))), (0, .ref (G 3))]) hx hb dX3_weakest_139 hl (k := 3) rfl (nI_add k 1) (by decide) rfl (fun ls hl => ?_)
              refine lv_goto (tgt := 4) hx hb dX3_weakest_142 (by decide) ?_
              exact ih4 (k + 1) (by omega) (by omega) (r1) (by exact hk1) (by exact hb1) _ _ _ _ hRc hRr hRo hP hD hS (show lv_has ls 5 [(2, .int (nI (k + 1))), (1, .int (siI (wkI r (k + 1)))), (0, .ref (G 3))] from by rw [show ((.int (siI (wkI r (k + 1))) : Value)) = .int (-1) from by show Value.int (siI (wkI r (k + 1))) = _; rw [wkI_f (fun q => by have h8 := q.2.1; have h7 := c_48; rw [hk1 11 _ (by decide)] at h7; omega)]; rw [hzw]; exact congrArg Value.int siI_0]; exact lv_sub hl [0, 1, 4] rfl)
            · refine lv_iload_n hx hb dX3_weakest_51 rfl (lv_at hl 2 rfl) ?_
              refine n_top (y := .int (-1)) (congrArg Value.int (by rw [hzw]; exact siI_0)) ?_
              refine lv_iconst (v := (-1)) hx hb dX3_weakest_52 (by decide) ?_
              refine lv_icmp_eq (tgt := 101) hx hb dX3_weakest_53 (by decide) (fun c_53 => ?_) (fun c_53 => absurd c_53 (by decide))
              refine lv_iconst (v := nI 1) hx hb dX3_weakest_101 (by decide) ?_
              refine lv_goto (tgt := 106) hx hb dX3_weakest_102 (by decide) ?_
              refine lv_istore (lv' := [(4, .int (nI 1)), (3, .int (nI (20 * (k / (r 30 0)) + (k % (r 30 0))))), (2, .int (nI k)), (1, .int (siI (wkI r k))), (0, .ref (G 3))]) hx hb dX3_weakest_106 hl (by decide) rfl (fun ls hl => ?_)
              refine lv_iload hx hb dX3_weakest_108 (lv_at hl 0 rfl) ?_
              refine n_if_eq (tgt := 137) hx hb dX3_weakest_110 (by decide) (by decide) (fun c_110 => absurd c_110 (by decide)) (fun c_110 => ?_)
              refine lv_aload_n hx hb dX3_weakest_113 rfl (lv_at hl 4 rfl) ?_
              refine lv_iload_n hx hb dX3_weakest_114 rfl (lv_at hl 2 rfl) ?_
              refine lv_aload_n hx hb dX3_weakest_115 rfl (lv_at hl 4 rfl) ?_
              refine va_get (D := D) (ci := 4) (v := .int (nI (r 30 0))) (C := RX3) (T := TX3) (N := 23) hx hb hts inX3 hown hK hP 3 (Q_m hRr) rfl 0 (by decide) (hts (.fieldLink RX3 60 "BootStageModel" "units" "I") (by decide +kernel)) (fun _ h9 => h9) (congrArg (fun z => some (Value.int (nI z))) (show r1 30 0 = r 30 0 from by simp [up2, e30_0])) dX3_weakest_116 ?_
              refine n_irem hx hb dX3_weakest_119 (by omega) (by exact hn0) (hBr _ _ (by decide)) ?_
              refine lv_iload_n hx hb dX3_weakest_120 rfl (lv_at hl 2 rfl) ?_
              refine lv_aload_n hx hb dX3_weakest_121 rfl (lv_at hl 4 rfl) ?_
              refine va_get (D := D) (ci := 4) (v := .int (nI (r 30 0))) (C := RX3) (T := TX3) (N := 23) hx hb hts inX3 hown hK hP 3 (Q_m hRr) rfl 0 (by decide) (hts (.fieldLink RX3 60 "BootStageModel" "units" "I") (by decide +kernel)) (fun _ h9 => h9) (congrArg (fun z => some (Value.int (nI z))) (show r1 30 0 = r 30 0 from by simp [up2, e30_0])) dX3_weakest_122 ?_
              refine n_idiv hx hb dX3_weakest_125 (by omega) (by exact hn0) (hBr _ _ (by decide)) ?_
              refine lv_iconst (v := nI 1) hx hb dX3_weakest_126 (by decide) ?_
              refine y_calli (va_runV (As := [.int (nI (k % (r 30 0))), .int (nI (k / (r 30 0))), .int (nI 1)]) (rest := []) ⟨hx, hb, hml, hown, hts⟩ (k_X3_reaches l D G h0 c r1 o hI1 (k % (r 30 0)) (k / (r 30 0)) 1 (by rw [e30_0]; exact hv9) (by rw [e30_0]; exact hq9) (by decide)) (cwV 3 hts gX3_weakest_X3_reaches rfl rfl rfl (by decide +kernel) ⟨Nat.le_of_ble_eq_true rfl, Nat.le_of_ble_eq_true rfl⟩) ⟨fun a U g mk q => ⟨q.1, Pr_cg q.2⟩, va_recv (ci := 4) (q0 := 3) hK hP rfl (Q_m hRr), fun U hU hW => ⟨rfl, Pr_mk hE hRc hRr hRo hP hD hS hU hW⟩⟩ rfl rfl hl.1 rfl (lv_room (Nat.le_of_ble_eq_true rfl)) dX3_weakest_127 ⟨Nat.le_of_ble_eq_true rfl, Nat.le_of_ble_eq_true rfl⟩) hS (fun v9 u_127 H locs wl hv9 hRc hRr hRo hP hD hS => ?_)
              obtain ⟨hv9, ho_127, hb_127⟩ := hv9
              have e30_0u : u_127 30 0 = r 30 0 := (ho_127 30 0 (by decide)).trans e30_0
              refine n_top (y := .int (nI (bN (Rch (eR r1 1) (k % (r 30 0)) (k / (r 30 0)))))) (congrArg Value.int hv9) ?_
              clear hv9
              refine n_ifb_eq (tgt := 137) hx hb dX3_weakest_130 (by decide) (fun c_130 => ?_) (fun c_130 => ?_)
              · refine lv_iload_n hx hb dX3_weakest_137 rfl (lv_at hl 3 rfl) ?_
                refine n_top (y := .int (-1)) (congrArg Value.int (by rw [hzw]; exact siI_0)) ?_
                refine lv_istore_n (lv' := [(1, .int (-1)), (4, .int (nI 1)), (3, .int (nI (20 * (k / (r 30 0)) + (k % (r 30 0))))), (2, .int (nI k)), (0, .ref (G 3))]) hx hb dX3_weakest_138 rfl hl (by decide) rfl (fun ls hl => ?_)
                refine lv_iinc (v := nI (k + 1)) (lv' := [(2, .int (nI (k + 1))), (1, .int (-1)), (4, .int (nI 1)), (3, .int (nI (20 * (k / (r 30 0)) + (k % (r 30 0))))), (0, .ref (G 3))]) hx hb dX3_weakest_139 hl (k := 3) rfl (nI_add k 1) (by decide) rfl (fun ls hl => ?_)
                refine lv_goto (tgt := 4) hx hb dX3_weakest_142 (by decide) ?_
                exact ih4 (k + 1) (by omega) (by omega) (u_127) (by exact fun q j hq => (ho_127 q j hq).trans (hk1 q j hq)) (by exact hb_127) _ _ _ _ hRc hRr hRo hP hD hS (show lv_has ls 5 [(2, .int (nI (k + 1))), (1, .int (siI (wkI r (k + 1)))), (0, .ref (G 3))] from by rw [show ((.int (siI (wkI r (k + 1))) : Value)) = .int (-1) from by show Value.int (siI (wkI r (k + 1))) = _; rw [wkI_f (fun q => c_130 ((Rch_cg (eR_cg hk1 1) _ _).mpr q.2.2.2))]; rw [hzw]; exact congrArg Value.int siI_0]; exact lv_sub hl [0, 1, 4] rfl)
              · refine lv_iload_n hx hb dX3_weakest_133 rfl (lv_at hl 1 rfl) ?_
                refine lv_goto (tgt := 138) hx hb dX3_weakest_134 (by decide) ?_
                refine lv_istore_n (lv' := [(1, .int (nI (20 * (k / (r 30 0)) + (k % (r 30 0))))), (4, .int (nI 1)), (3, .int (nI (20 * (k / (r 30 0)) + (k % (r 30 0))))), (2, .int (nI k)), (0, .ref (G 3))]) hx hb dX3_weakest_138 rfl hl (by decide) rfl (fun ls hl => ?_)
                refine lv_iinc (v := nI (k + 1)) (lv' := [(2, .int (nI (k + 1))), (1, .int (nI (20 * (k / (r 30 0)) + (k % (r 30 0))))), (4, .int (nI 1)), (3, .int (nI (20 * (k / (r 30 0)) + (k % (r 30 0))))), (0, .ref (G 3))]) hx hb dX3_weakest_139 hl (k := 3) rfl (nI_add k 1) (by decide) rfl (fun ls hl => ?_)
                refine lv_goto (tgt := 4) hx hb dX3_weakest_142 (by decide) ?_
                exact ih4 (k + 1) (by omega) (by omega) (u_127) (by exact fun q j hq => (ho_127 q j hq).trans (hk1 q j hq)) (by exact hb_127) _ _ _ _ hRc hRr hRo hP hD hS (show lv_has ls 5 [(2, .int (nI (k + 1))), (1, .int (siI (wkI r (k + 1)))), (0, .ref (G 3))] from by rw [show ((.int (siI (wkI r (k + 1))) : Value)) = .int (nI (20 * (k / (r 30 0)) + (k % (r 30 0)))) from by show Value.int (siI (wkI r (k + 1))) = _; rw [wkI_t ⟨by rwa [hk1 8 _ (by decide)] at c_39, by rwa [hk1 11 _ (by decide)] at c_48, Or.inl hzw, (Rch_cg (eR_cg hk1 1) _ _).mp c_130⟩]; exact congrArg Value.int (siI_s _)]; exact lv_sub hl [0, 1, 4] rfl)
        · have hwk := wkI_le hn k (by omega)
          refine lv_iload_n hx hb dX3_weakest_17 rfl (lv_at hl 0 rfl) ?_
          refine lv_aload_n hx hb dX3_weakest_18 rfl (lv_at hl 2 rfl) ?_
          refine va_get (D := D) (ci := 4) (v := .int (nI (r 30 0))) (C := RX3) (T := TX3) (N := 23) hx hb hts inX3 hown hK hP 3 (Q_m hRr) rfl 0 (by decide) (hts (.fieldLink RX3 60 "BootStageModel" "units" "I") (by decide +kernel)) (fun _ h9 => h9) (congrArg (fun z => some (Value.int (nI z))) (show r1 30 0 = r 30 0 from by simp [up2, e30_0])) dX3_weakest_19 ?_
          refine n_idiv hx hb dX3_weakest_22 (by omega) (by exact hn0) (hBr _ _ (by decide)) ?_
          refine lv_iload_n hx hb dX3_weakest_23 rfl (lv_at hl 0 rfl) ?_
          refine lv_aload_n hx hb dX3_weakest_24 rfl (lv_at hl 2 rfl) ?_
          refine va_get (D := D) (ci := 4) (v := .int (nI (r 30 0))) (C := RX3) (T := TX3) (N := 23) hx hb hts inX3 hown hK hP 3 (Q_m hRr) rfl 0 (by decide) (hts (.fieldLink RX3 60 "BootStageModel" "units" "I") (by decide +kernel)) (fun _ h9 => h9) (congrArg (fun z => some (Value.int (nI z))) (show r1 30 0 = r 30 0 from by simp [up2, e30_0])) dX3_weakest_25 ?_
          refine n_irem hx hb dX3_weakest_28 (by omega) (by exact hn0) (hBr _ _ (by decide)) ?_
          refine y_calli (va_runS (As := [.int (nI (k / (r 30 0))), .int (nI (k % (r 30 0)))]) (rest := []) ⟨hx, hb, hml, hown, hts⟩ (k_X3_edge l D G h0 c r1 o (k / (r 30 0)) (k % (r 30 0))) (va_cwS 2 hts gX3_weakest_X3_edge rfl rfl rfl (by decide +kernel) ⟨Nat.le_of_ble_eq_true rfl, Nat.le_of_ble_eq_true rfl⟩) ⟨fun a U g mk q => ⟨q.1, Pr_cg q.2⟩, fun U hU hW => ⟨rfl, Pr_mk hE hRc hRr hRo hP hD hS hU hW⟩⟩ rfl rfl hl.1 rfl (lv_room (Nat.le_of_ble_eq_true rfl)) dX3_weakest_29 ⟨Nat.le_of_ble_eq_true rfl, Nat.le_of_ble_eq_true rfl⟩) hS (fun v9 _ H locs wl hv9 hRc hRr hRo hP hD hS => ?_)
          refine n_top (y := .int (nI (20 * (k / (r 30 0)) + (k % (r 30 0))))) (congrArg Value.int hv9) ?_
          clear hv9 v9
          refine lv_istore_n (lv' := [(3, .int (nI (20 * (k / (r 30 0)) + (k % (r 30 0))))), (2, .int (nI k)), (1, .int (siI (wkI r k))), (0, .ref (G 3))]) hx hb dX3_weakest_32 rfl hl (by decide) rfl (fun ls hl => ?_)
          refine lv_aload_n hx hb dX3_weakest_33 rfl (lv_at hl 3 rfl) ?_
          refine va_get (D := D) (ci := 4) (v := .ref (G 12)) (C := RX3) (T := TX3) (N := 23) hx hb hts inX3 hown hK hP 3 (Q_m hRr) rfl 8 (by decide) (hts (.fieldLink RX3 32 "BootStageModel" "weights" "[I") (by decide +kernel)) (fun _ h9 => h9) rfl dX3_weakest_34 ?_
          refine lv_iload_n hx hb dX3_weakest_37 rfl (lv_at hl 0 rfl) ?_
          refine x_iald hx hb hK hP 12 (Q_a8 hRr) (by first | omega | decide | assumption) (by decide) dX3_weakest_38 (v := nI (r1 8 (20 * (k / (r 30 0)) + (k % (r 30 0))))) rfl ?_
          refine n_if_le (tgt := 105) hx hb dX3_weakest_39 (by decide) (hBr1 _ _ (by decide)) (fun c_39 => ?_) (fun c_39 => ?_)
          · refine lv_iconst (v := nI 0) hx hb dX3_weakest_105 (by decide) ?_
            refine lv_istore (lv' := [(4, .int (nI 0)), (3, .int (nI (20 * (k / (r 30 0)) + (k % (r 30 0))))), (2, .int (nI k)), (1, .int (siI (wkI r k))), (0, .ref (G 3))]) hx hb dX3_weakest_106 hl (by decide) rfl (fun ls hl => ?_)
            refine lv_iload hx hb dX3_weakest_108 (lv_at hl 0 rfl) ?_
            refine n_if_eq (tgt := 137) hx hb dX3_weakest_110 (by decide) (by decide) (fun c_110 => ?_) (fun c_110 => absurd c_110 (by decide))
            refine lv_iload_n hx hb dX3_weakest_137 rfl (lv_at hl 3 rfl) ?_
            refine n_top (y := .int (nI w)) (congrArg Value.int (by rw [hzw]; exact siI_s _)) ?_
            refine lv_istore_n (lv' := [(1, .int (nI w)), (4, .int (nI 0)), (3, .int (nI (20 * (k / (r 30 0)) + (k % (r 30 0))))), (2, .int (nI k)), (0, .ref (G 3))]) hx hb dX3_weakest_138 rfl hl (by decide) rfl (fun ls hl => ?_)
            refine lv_iinc (v := nI (k + 1)) (lv' := [(2, .int (nI (k + 1))), (1, .int (nI w)), (4, .int (nI 0)), (3, .int (nI (20 * (k / (r 30 0)) + (k % (r 30 0))))), (0, .ref (G 3))]) hx hb dX3_weakest_139 hl (k := 3) rfl (nI_add k 1) (by decide) rfl (fun ls hl => ?_)
            refine lv_goto (tgt := 4) hx hb dX3_weakest_142 (by decide) ?_
            exact ih4 (k + 1) (by omega) (by omega) (r1) (by exact hk1) (by exact hb1) _ _ _ _ hRc hRr hRo hP hD hS (show lv_has ls 5 [(2, .int (nI (k + 1))), (1, .int (siI (wkI r (k + 1)))), (0, .ref (G 3))] from by rw [show ((.int (siI (wkI r (k + 1))) : Value)) = .int (nI w) from by show Value.int (siI (wkI r (k + 1))) = _; rw [wkI_f (fun q => by have h8 := q.1; have h7 := c_39; rw [hk1 8 _ (by decide)] at h7; omega)]; rw [hzw]; exact congrArg Value.int (siI_s _)]; exact lv_sub hl [0, 1, 4] rfl)
          · refine lv_aload_n hx hb dX3_weakest_42 rfl (lv_at hl 3 rfl) ?_
            refine va_get (D := D) (ci := 4) (v := .ref (G 14)) (C := RX3) (T := TX3) (N := 23) hx hb hts inX3 hown hK hP 3 (Q_m hRr) rfl 11 (by decide) (hts (.fieldLink RX3 38 "BootStageModel" "isCut" "[Z") (by decide +kernel)) (fun _ h9 => h9) rfl dX3_weakest_43 ?_
            refine lv_iload_n hx hb dX3_weakest_46 rfl (lv_at hl 0 rfl) ?_
            refine x_zald hx hb hK hP 14 (Q_a11 hRr) (by first | omega | decide | assumption) (by decide) dX3_weakest_47 (v := nI (r1 11 (20 * (k / (r 30 0)) + (k % (r 30 0))))) rfl ?_
            refine n_if_ne (tgt := 105) hx hb dX3_weakest_48 (by decide) (hBr1 _ _ (by decide)) (fun c_48 => ?_) (fun c_48 => ?_)
            · refine lv_iconst (v := nI 0) hx hb dX3_weakest_105 (by decide) ?_
              refine lv_istore (lv' := [(4, .int (nI 0)), (3, .int (nI (20 * (k / (r 30 0)) + (k % (r 30 0))))), (2, .int (nI k)), (1, .int (siI (wkI r k))), (0, .ref (G 3))]) hx hb dX3_weakest_106 hl (by decide) rfl (fun ls hl => ?_)
              refine lv_iload hx hb dX3_weakest_108 (lv_at hl 0 rfl) ?_
              refine n_if_eq (tgt := 137) hx hb dX3_weakest_110 (by decide) (by decide) (fun c_110 => ?_) (fun c_110 => absurd c_110 (by decide))
              refine lv_iload_n hx hb dX3_weakest_137 rfl (lv_at hl 3 rfl) ?_
              refine n_top (y := .int (nI w)) (congrArg Value.int (by rw [hzw]; exact siI_s _)) ?_
              refine lv_istore_n (lv' := [(1, .int (nI w)), (4, .int (nI 0)), (3, .int (nI (20 * (k / (r 30 0)) + (k % (r 30 0))))), (2, .int (nI k)), (0, .ref (G 3))]) hx hb dX3_weakest_138 rfl hl (by decide) rfl (fun ls hl => ?_)
              refine lv_iinc (v := nI (k + 1)) (lv' := [(2, .int (nI (k + 1))), (1, .int (nI w)), (4, .int (nI 0)), (3, .int (nI (20 * (k / (r 30 0)) + (k % (r 30 0))))), (0, .ref (G 3))]) hx hb dX3_weakest_139 hl (k := 3) rfl (nI_add k 1) (by decide) rfl (fun ls hl => ?_)
              refine lv_goto (tgt := 4) hx hb dX3_weakest_142 (by decide) ?_
              exact ih4 (k + 1) (by omega) (by omega) (r1) (by exact hk1) (by exact hb1) _ _ _ _ hRc hRr hRo hP hD hS (show lv_has ls 5 [(2, .int (nI (k + 1))), (1, .int (siI (wkI r (k + 1)))), (0, .ref (G 3))] from by rw [show ((.int (siI (wkI r (k + 1))) : Value)) = .int (nI w) from by show Value.int (siI (wkI r (k + 1))) = _; rw [wkI_f (fun q => by have h8 := q.2.1; have h7 := c_48; rw [hk1 11 _ (by decide)] at h7; omega)]; rw [hzw]; exact congrArg Value.int (siI_s _)]; exact lv_sub hl [0, 1, 4] rfl)
            · refine lv_iload_n hx hb dX3_weakest_51 rfl (lv_at hl 2 rfl) ?_
              refine n_top (y := .int (nI w)) (congrArg Value.int (by rw [hzw]; exact siI_s _)) ?_
              refine lv_iconst (v := (-1)) hx hb dX3_weakest_52 (by decide) ?_
              refine lv_icmp_eq (tgt := 101) hx hb dX3_weakest_53 (by decide) (fun c_53 => absurd c_53 (fun z => nI_pos (show w < 2 ^ 31 from (by omega)) (by rw [z]; decide))) (fun c_53 => ?_)
              refine lv_aload_n hx hb dX3_weakest_56 rfl (lv_at hl 3 rfl) ?_
              refine va_get (D := D) (ci := 4) (v := .ref (G 12)) (C := RX3) (T := TX3) (N := 23) hx hb hts inX3 hown hK hP 3 (Q_m hRr) rfl 8 (by decide) (hts (.fieldLink RX3 32 "BootStageModel" "weights" "[I") (by decide +kernel)) (fun _ h9 => h9) rfl dX3_weakest_57 ?_
              refine lv_iload_n hx hb dX3_weakest_60 rfl (lv_at hl 0 rfl) ?_
              refine x_iald hx hb hK hP 12 (Q_a8 hRr) (by first | omega | decide | assumption) (by decide) dX3_weakest_61 (v := nI (r1 8 (20 * (k / (r 30 0)) + (k % (r 30 0))))) rfl ?_
              refine lv_aload_n hx hb dX3_weakest_62 rfl (lv_at hl 3 rfl) ?_
              refine va_get (D := D) (ci := 4) (v := .ref (G 12)) (C := RX3) (T := TX3) (N := 23) hx hb hts inX3 hown hK hP 3 (Q_m hRr) rfl 8 (by decide) (hts (.fieldLink RX3 32 "BootStageModel" "weights" "[I") (by decide +kernel)) (fun _ h9 => h9) rfl dX3_weakest_63 ?_
              refine lv_iload_n hx hb dX3_weakest_66 rfl (lv_at hl 2 rfl) ?_
              refine n_top (y := .int (nI w)) (congrArg Value.int (by rw [hzw]; exact siI_s _)) ?_
              refine x_iald hx hb hK hP 12 (Q_a8 hRr) (by first | omega | decide | assumption) (by decide) dX3_weakest_67 (v := nI (r1 8 w)) rfl ?_
              refine n_icmp_lt (tgt := 101) hx hb dX3_weakest_68 (by decide) (hBr1 _ _ (by decide)) (hBr1 _ _ (by decide)) (fun c_68 => ?_) (fun c_68 => ?_)
              · refine lv_iconst (v := nI 1) hx hb dX3_weakest_101 (by decide) ?_
                refine lv_goto (tgt := 106) hx hb dX3_weakest_102 (by decide) ?_
                refine lv_istore (lv' := [(4, .int (nI 1)), (3, .int (nI (20 * (k / (r 30 0)) + (k % (r 30 0))))), (2, .int (nI k)), (1, .int (siI (wkI r k))), (0, .ref (G 3))]) hx hb dX3_weakest_106 hl (by decide) rfl (fun ls hl => ?_)
                refine lv_iload hx hb dX3_weakest_108 (lv_at hl 0 rfl) ?_
                refine n_if_eq (tgt := 137) hx hb dX3_weakest_110 (by decide) (by decide) (fun c_110 => absurd c_110 (by decide)) (fun c_110 => ?_)
                refine lv_aload_n hx hb dX3_weakest_113 rfl (lv_at hl 4 rfl) ?_
                refine lv_iload_n hx hb dX3_weakest_114 rfl (lv_at hl 2 rfl) ?_
                refine lv_aload_n hx hb dX3_weakest_115 rfl (lv_at hl 4 rfl) ?_
                refine va_get (D := D) (ci := 4) (v := .int (nI (r 30 0))) (C := RX3) (T := TX3) (N := 23) hx hb hts inX3 hown hK hP 3 (Q_m hRr) rfl 0 (by decide) (hts (.fieldLink RX3 60 "BootStageModel" "units" "I") (by decide +kernel)) (fun _ h9 => h9) (congrArg (fun z => some (Value.int (nI z))) (show r1 30 0 = r 30 0 from by simp [up2, e30_0])) dX3_weakest_116 ?_
                refine n_irem hx hb dX3_weakest_119 (by omega) (by exact hn0) (hBr _ _ (by decide)) ?_
                refine lv_iload_n hx hb dX3_weakest_120 rfl (lv_at hl 2 rfl) ?_
                refine lv_aload_n hx hb dX3_weakest_121 rfl (lv_at hl 4 rfl) ?_
                refine va_get (D := D) (ci := 4) (v := .int (nI (r 30 0))) (C := RX3) (T := TX3) (N := 23) hx hb hts inX3 hown hK hP 3 (Q_m hRr) rfl 0 (by decide) (hts (.fieldLink RX3 60 "BootStageModel" "units" "I") (by decide +kernel)) (fun _ h9 => h9) (congrArg (fun z => some (Value.int (nI z))) (show r1 30 0 = r 30 0 from by simp [up2, e30_0])) dX3_weakest_122 ?_
                refine n_idiv hx hb dX3_weakest_125 (by omega) (by exact hn0) (hBr _ _ (by decide)) ?_
                refine lv_iconst (v := nI 1) hx hb dX3_weakest_126 (by decide) ?_
                refine y_calli (va_runV (As := [.int (nI (k % (r 30 0))), .int (nI (k / (r 30 0))), .int (nI 1)]) (rest := []) ⟨hx, hb, hml, hown, hts⟩ (k_X3_reaches l D G h0 c r1 o hI1 (k % (r 30 0)) (k / (r 30 0)) 1 (by rw [e30_0]; exact hv9) (by rw [e30_0]; exact hq9) (by decide)) (cwV 3 hts gX3_weakest_X3_reaches rfl rfl rfl (by decide +kernel) ⟨Nat.le_of_ble_eq_true rfl, Nat.le_of_ble_eq_true rfl⟩) ⟨fun a U g mk q => ⟨q.1, Pr_cg q.2⟩, va_recv (ci := 4) (q0 := 3) hK hP rfl (Q_m hRr), fun U hU hW => ⟨rfl, Pr_mk hE hRc hRr hRo hP hD hS hU hW⟩⟩ rfl rfl hl.1 rfl (lv_room (Nat.le_of_ble_eq_true rfl)) dX3_weakest_127 ⟨Nat.le_of_ble_eq_true rfl, Nat.le_of_ble_eq_true rfl⟩) hS (fun v9 u_127 H locs wl hv9 hRc hRr hRo hP hD hS => ?_)
                obtain ⟨hv9, ho_127, hb_127⟩ := hv9
                have e30_0u : u_127 30 0 = r 30 0 := (ho_127 30 0 (by decide)).trans e30_0
                refine n_top (y := .int (nI (bN (Rch (eR r1 1) (k % (r 30 0)) (k / (r 30 0)))))) (congrArg Value.int hv9) ?_
                clear hv9
                refine n_ifb_eq (tgt := 137) hx hb dX3_weakest_130 (by decide) (fun c_130 => ?_) (fun c_130 => ?_)
                · refine lv_iload_n hx hb dX3_weakest_137 rfl (lv_at hl 3 rfl) ?_
                  refine n_top (y := .int (nI w)) (congrArg Value.int (by rw [hzw]; exact siI_s _)) ?_
                  refine lv_istore_n (lv' := [(1, .int (nI w)), (4, .int (nI 1)), (3, .int (nI (20 * (k / (r 30 0)) + (k % (r 30 0))))), (2, .int (nI k)), (0, .ref (G 3))]) hx hb dX3_weakest_138 rfl hl (by decide) rfl (fun ls hl => ?_)
                  refine lv_iinc (v := nI (k + 1)) (lv' := [(2, .int (nI (k + 1))), (1, .int (nI w)), (4, .int (nI 1)), (3, .int (nI (20 * (k / (r 30 0)) + (k % (r 30 0))))), (0, .ref (G 3))]) hx hb dX3_weakest_139 hl (k := 3) rfl (nI_add k 1) (by decide) rfl (fun ls hl => ?_)
                  refine lv_goto (tgt := 4) hx hb dX3_weakest_142 (by decide) ?_
                  exact ih4 (k + 1) (by omega) (by omega) (u_127) (by exact fun q j hq => (ho_127 q j hq).trans (hk1 q j hq)) (by exact hb_127) _ _ _ _ hRc hRr hRo hP hD hS (show lv_has ls 5 [(2, .int (nI (k + 1))), (1, .int (siI (wkI r (k + 1)))), (0, .ref (G 3))] from by rw [show ((.int (siI (wkI r (k + 1))) : Value)) = .int (nI w) from by show Value.int (siI (wkI r (k + 1))) = _; rw [wkI_f (fun q => c_130 ((Rch_cg (eR_cg hk1 1) _ _).mpr q.2.2.2))]; rw [hzw]; exact congrArg Value.int (siI_s _)]; exact lv_sub hl [0, 1, 4] rfl)
                · refine lv_iload_n hx hb dX3_weakest_133 rfl (lv_at hl 1 rfl) ?_
                  refine lv_goto (tgt := 138) hx hb dX3_weakest_134 (by decide) ?_
                  refine lv_istore_n (lv' := [(1, .int (nI (20 * (k / (r 30 0)) + (k % (r 30 0))))), (4, .int (nI 1)), (3, .int (nI (20 * (k / (r 30 0)) + (k % (r 30 0))))), (2, .int (nI k)), (0, .ref (G 3))]) hx hb dX3_weakest_138 rfl hl (by decide) rfl (fun ls hl => ?_)
                  refine lv_iinc (v := nI (k + 1)) (lv' := [(2, .int (nI (k + 1))), (1, .int (nI (20 * (k / (r 30 0)) + (k % (r 30 0))))), (4, .int (nI 1)), (3, .int (nI (20 * (k / (r 30 0)) + (k % (r 30 0))))), (0, .ref (G 3))]) hx hb dX3_weakest_139 hl (k := 3) rfl (nI_add k 1) (by decide) rfl (fun ls hl => ?_)
                  refine lv_goto (tgt := 4) hx hb dX3_weakest_142 (by decide) ?_
                  exact ih4 (k + 1) (by omega) (by omega) (u_127) (by exact fun q j hq => (ho_127 q j hq).trans (hk1 q j hq)) (by exact hb_127) _ _ _ _ hRc hRr hRo hP hD hS (show lv_has ls 5 [(2, .int (nI (k + 1))), (1, .int (siI (wkI r (k + 1)))), (0, .ref (G 3))] from by rw [show ((.int (siI (wkI r (k + 1))) : Value)) = .int (nI (20 * (k / (r 30 0)) + (k % (r 30 0)))) from by show Value.int (siI (wkI r (k + 1))) = _; rw [wkI_t ⟨by rwa [hk1 8 _ (by decide)] at c_39, by rwa [hk1 11 _ (by decide)] at c_48, Or.inr (Or.inl (by rw [hzw, Nat.add_sub_cancel]; have h7 := c_68; rw [hk1 8 _ (by decide), hk1 8 _ (by decide)] at h7; exact h7)), (Rch_cg (eR_cg hk1 1) _ _).mp c_130⟩]; exact congrArg Value.int (siI_s _)]; exact lv_sub hl [0, 1, 4] rfl)
              · refine lv_aload_n hx hb dX3_weakest_71 rfl (lv_at hl 3 rfl) ?_
                refine va_get (D := D) (ci := 4) (v := .ref (G 12)) (C := RX3) (T := TX3) (N := 23) hx hb hts inX3 hown hK hP 3 (Q_m hRr) rfl 8 (by decide) (hts (.fieldLink RX3 32 "BootStageModel" "weights" "[I") (by decide +kernel)) (fun _ h9 => h9) rfl dX3_weakest_72 ?_
                refine lv_iload_n hx hb dX3_weakest_75 rfl (lv_at hl 0 rfl) ?_
                refine x_iald hx hb hK hP 12 (Q_a8 hRr) (by first | omega | decide | assumption) (by decide) dX3_weakest_76 (v := nI (r1 8 (20 * (k / (r 30 0)) + (k % (r 30 0))))) rfl ?_
                refine lv_aload_n hx hb dX3_weakest_77 rfl (lv_at hl 3 rfl) ?_
                refine va_get (D := D) (ci := 4) (v := .ref (G 12)) (C := RX3) (T := TX3) (N := 23) hx hb hts inX3 hown hK hP 3 (Q_m hRr) rfl 8 (by decide) (hts (.fieldLink RX3 32 "BootStageModel" "weights" "[I") (by decide +kernel)) (fun _ h9 => h9) rfl dX3_weakest_78 ?_
                refine lv_iload_n hx hb dX3_weakest_81 rfl (lv_at hl 2 rfl) ?_
                refine n_top (y := .int (nI w)) (congrArg Value.int (by rw [hzw]; exact siI_s _)) ?_
                refine x_iald hx hb hK hP 12 (Q_a8 hRr) (by first | omega | decide | assumption) (by decide) dX3_weakest_82 (v := nI (r1 8 w)) rfl ?_
                refine n_icmp_ne (tgt := 105) hx hb dX3_weakest_83 (by decide) (hBr1 _ _ (by decide)) (hBr1 _ _ (by decide)) (fun c_83 => ?_) (fun c_83 => ?_)
                · refine lv_iconst (v := nI 0) hx hb dX3_weakest_105 (by decide) ?_
                  refine lv_istore (lv' := [(4, .int (nI 0)), (3, .int (nI (20 * (k / (r 30 0)) + (k % (r 30 0))))), (2, .int (nI k)), (1, .int (siI (wkI r k))), (0, .ref (G 3))]) hx hb dX3_weakest_106 hl (by decide) rfl (fun ls hl => ?_)
                  refine lv_iload hx hb dX3_weakest_108 (lv_at hl 0 rfl) ?_
                  refine n_if_eq (tgt := 137) hx hb dX3_weakest_110 (by decide) (by decide) (fun c_110 => ?_) (fun c_110 => absurd c_110 (by decide))
                  refine lv_iload_n hx hb dX3_weakest_137 rfl (lv_at hl 3 rfl) ?_
                  refine n_top (y := .int (nI w)) (congrArg Value.int (by rw [hzw]; exact siI_s _)) ?_
                  refine lv_istore_n (lv' := [(1, .int (nI w)), (4, .int (nI 0)), (3, .int (nI (20 * (k / (r 30 0)) + (k % (r 30 0))))), (2, .int (nI k)), (0, .ref (G 3))]) hx hb dX3_weakest_138 rfl hl (by decide) rfl (fun ls hl => ?_)
                  refine lv_iinc (v := nI (k + 1)) (lv' := [(2, .int (nI (k + 1))), (1, .int (nI w)), (4, .int (nI 0)), (3, .int (nI (20 * (k / (r 30 0)) + (k % (r 30 0))))), (0, .ref (G 3))]) hx hb dX3_weakest_139 hl (k := 3) rfl (nI_add k 1) (by decide) rfl (fun ls hl => ?_)
                  refine lv_goto (tgt := 4) hx hb dX3_weakest_142 (by decide) ?_
                  exact ih4 (k + 1) (by omega) (by omega) (r1) (by exact hk1) (by exact hb1) _ _ _ _ hRc hRr hRo hP hD hS (show lv_has ls 5 [(2, .int (nI (k + 1))), (1, .int (siI (wkI r (k + 1)))), (0, .ref (G 3))] from by rw [show ((.int (siI (wkI r (k + 1))) : Value)) = .int (nI w) from by show Value.int (siI (wkI r (k + 1))) = _; rw [wkI_f (fun q => by have h8 := q.2.2.1; rw [hzw, Nat.add_sub_cancel] at h8; have h7 := c_68; rw [hk1 8 _ (by decide), hk1 8 _ (by decide)] at h7; have h6 := c_83; rw [hk1 8 _ (by decide), hk1 8 _ (by decide)] at h6; omega)]; rw [hzw]; exact congrArg Value.int (siI_s _)]; exact lv_sub hl [0, 1, 4] rfl)
                · refine lv_aload_n hx hb dX3_weakest_86 rfl (lv_at hl 3 rfl) ?_
                  refine va_get (D := D) (ci := 4) (v := .ref (G 13)) (C := RX3) (T := TX3) (N := 23) hx hb hts inX3 hown hK hP 3 (Q_m hRr) rfl 9 (by decide) (hts (.fieldLink RX3 35 "BootStageModel" "toldAt" "[I") (by decide +kernel)) (fun _ h9 => h9) rfl dX3_weakest_87 ?_
                  refine lv_iload_n hx hb dX3_weakest_90 rfl (lv_at hl 0 rfl) ?_
                  refine x_iald hx hb hK hP 13 (Q_a9 hRr) (by first | omega | decide | assumption) (by decide) dX3_weakest_91 (v := nI (r1 9 (20 * (k / (r 30 0)) + (k % (r 30 0))))) rfl ?_
                  refine lv_aload_n hx hb dX3_weakest_92 rfl (lv_at hl 3 rfl) ?_
                  refine va_get (D := D) (ci := 4) (v := .ref (G 13)) (C := RX3) (T := TX3) (N := 23) hx hb hts inX3 hown hK hP 3 (Q_m hRr) rfl 9 (by decide) (hts (.fieldLink RX3 35 "BootStageModel" "toldAt" "[I") (by decide +kernel)) (fun _ h9 => h9) rfl dX3_weakest_93 ?_
                  refine lv_iload_n hx hb dX3_weakest_96 rfl (lv_at hl 2 rfl) ?_
                  refine n_top (y := .int (nI w)) (congrArg Value.int (by rw [hzw]; exact siI_s _)) ?_
                  refine x_iald hx hb hK hP 13 (Q_a9 hRr) (by first | omega | decide | assumption) (by decide) dX3_weakest_97 (v := nI (r1 9 w)) rfl ?_
                  refine n_icmp_ge (tgt := 105) hx hb dX3_weakest_98 (by decide) (hBr1 _ _ (by decide)) (hBr1 _ _ (by decide)) (fun c_98 => ?_) (fun c_98 => ?_)
                  · refine lv_iconst (v := nI 0) hx hb dX3_weakest_105 (by decide) ?_
                    refine lv_istore (lv' := [(4, .int (nI 0)), (3, .int (nI (20 * (k / (r 30 0)) + (k % (r 30 0))))), (2, .int (nI k)), (1, .int (siI (wkI r k))), (0, .ref (G 3))]) hx hb dX3_weakest_106 hl (by decide) rfl (fun ls hl => ?_)
                    refine lv_iload hx hb dX3_weakest_108 (lv_at hl 0 rfl) ?_
                    refine n_if_eq (tgt := 137) hx hb dX3_weakest_110 (by decide) (by decide) (fun c_110 => ?_) (fun c_110 => absurd c_110 (by decide))
                    refine lv_iload_n hx hb dX3_weakest_137 rfl (lv_at hl 3 rfl) ?_
                    refine n_top (y := .int (nI w)) (congrArg Value.int (by rw [hzw]; exact siI_s _)) ?_
                    refine lv_istore_n (lv' := [(1, .int (nI w)), (4, .int (nI 0)), (3, .int (nI (20 * (k / (r 30 0)) + (k % (r 30 0))))), (2, .int (nI k)), (0, .ref (G 3))]) hx hb dX3_weakest_138 rfl hl (by decide) rfl (fun ls hl => ?_)
                    refine lv_iinc (v := nI (k + 1)) (lv' := [(2, .int (nI (k + 1))), (1, .int (nI w)), (4, .int (nI 0)), (3, .int (nI (20 * (k / (r 30 0)) + (k % (r 30 0))))), (0, .ref (G 3))]) hx hb dX3_weakest_139 hl (k := 3) rfl (nI_add k 1) (by decide) rfl (fun ls hl => ?_)
                    refine lv_goto (tgt := 4) hx hb dX3_weakest_142 (by decide) ?_
                    exact ih4 (k + 1) (by omega) (by omega) (r1) (by exact hk1) (by exact hb1) _ _ _ _ hRc hRr hRo hP hD hS (show lv_has ls 5 [(2, .int (nI (k + 1))), (1, .int (siI (wkI r (k + 1)))), (0, .ref (G 3))] from by rw [show ((.int (siI (wkI r (k + 1))) : Value)) = .int (nI w) from by show Value.int (siI (wkI r (k + 1))) = _; rw [wkI_f (fun q => by have h8 := q.2.2.1; rw [hzw, Nat.add_sub_cancel] at h8; have h7 := c_68; rw [hk1 8 _ (by decide), hk1 8 _ (by decide)] at h7; have h6 := c_83; rw [hk1 8 _ (by decide), hk1 8 _ (by decide)] at h6; have h5 := c_98; rw [hk1 9 _ (by decide), hk1 9 _ (by decide)] at h5; omega)]; rw [hzw]; exact congrArg Value.int (siI_s _)]; exact lv_sub hl [0, 1, 4] rfl)
                  · refine lv_iconst (v := nI 1) hx hb dX3_weakest_101 (by decide) ?_
                    refine lv_goto (tgt := 106) hx hb dX3_weakest_102 (by decide) ?_
                    refine lv_istore (lv' := [(4, .int (nI 1)), (3, .int (nI (20 * (k / (r 30 0)) + (k % (r 30 0))))), (2, .int (nI k)), (1, .int (siI (wkI r k))), (0, .ref (G 3))]) hx hb dX3_weakest_106 hl (by decide) rfl (fun ls hl => ?_)
                    refine lv_iload hx hb dX3_weakest_108 (lv_at hl 0 rfl) ?_
                    refine n_if_eq (tgt := 137) hx hb dX3_weakest_110 (by decide) (by decide) (fun c_110 => absurd c_110 (by decide)) (fun c_110 => ?_)
                    refine lv_aload_n hx hb dX3_weakest_113 rfl (lv_at hl 4 rfl) ?_
                    refine lv_iload_n hx hb dX3_weakest_114 rfl (lv_at hl 2 rfl) ?_
                    refine lv_aload_n hx hb dX3_weakest_115 rfl (lv_at hl 4 rfl) ?_
                    refine va_get (D := D) (ci := 4) (v := .int (nI (r 30 0))) (C := RX3) (T := TX3) (N := 23) hx hb hts inX3 hown hK hP 3 (Q_m hRr) rfl 0 (by decide) (hts (.fieldLink RX3 60 "BootStageModel" "units" "I") (by decide +kernel)) (fun _ h9 => h9) (congrArg (fun z => some (Value.int (nI z))) (show r1 30 0 = r 30 0 from by simp [up2, e30_0])) dX3_weakest_116 ?_
                    refine n_irem hx hb dX3_weakest_119 (by omega) (by exact hn0) (hBr _ _ (by decide)) ?_
                    refine lv_iload_n hx hb dX3_weakest_120 rfl (lv_at hl 2 rfl) ?_
                    refine lv_aload_n hx hb dX3_weakest_121 rfl (lv_at hl 4 rfl) ?_
                    refine va_get (D := D) (ci := 4) (v := .int (nI (r 30 0))) (C := RX3) (T := TX3) (N := 23) hx hb hts inX3 hown hK hP 3 (Q_m hRr) rfl 0 (by decide) (hts (.fieldLink RX3 60 "BootStageModel" "units" "I") (by decide +kernel)) (fun _ h9 => h9) (congrArg (fun z => some (Value.int (nI z))) (show r1 30 0 = r 30 0 from by simp [up2, e30_0])) dX3_weakest_122 ?_
                    refine n_idiv hx hb dX3_weakest_125 (by omega) (by exact hn0) (hBr _ _ (by decide)) ?_
                    refine lv_iconst (v := nI 1) hx hb dX3_weakest_126 (by decide) ?_
                    refine y_calli (va_runV (As := [.int (nI (k % (r 30 0))), .int (nI (k / (r 30 0))), .int (nI 1)]) (rest := []) ⟨hx, hb, hml, hown, hts⟩ (k_X3_reaches l D G h0 c r1 o hI1 (k % (r 30 0)) (k / (r 30 0)) 1 (by rw [e30_0]; exact hv9) (by rw [e30_0]; exact hq9) (by decide)) (cwV 3 hts gX3_weakest_X3_reaches rfl rfl rfl (by decide +kernel) ⟨Nat.le_of_ble_eq_true rfl, Nat.le_of_ble_eq_true rfl⟩) ⟨fun a U g mk q => ⟨q.1, Pr_cg q.2⟩, va_recv (ci := 4) (q0 := 3) hK hP rfl (Q_m hRr), fun U hU hW => ⟨rfl, Pr_mk hE hRc hRr hRo hP hD hS hU hW⟩⟩ rfl rfl hl.1 rfl (lv_room (Nat.le_of_ble_eq_true rfl)) dX3_weakest_127 ⟨Nat.le_of_ble_eq_true rfl, Nat.le_of_ble_eq_true rfl⟩) hS (fun v9 u_127 H locs wl hv9 hRc hRr hRo hP hD hS => ?_)
                    obtain ⟨hv9, ho_127, hb_127⟩ := hv9
                    have e30_0u : u_127 30 0 = r 30 0 := (ho_127 30 0 (by decide)).trans e30_0
                    refine n_top (y := .int (nI (bN (Rch (eR r1 1) (k % (r 30 0)) (k / (r 30 0)))))) (congrArg Value.int hv9) ?_
                    clear hv9
                    refine n_ifb_eq (tgt := 137) hx hb dX3_weakest_130 (by decide) (fun c_130 => ?_) (fun c_130 => ?_)
                    · refine lv_iload_n hx hb dX3_weakest_137 rfl (lv_at hl 3 rfl) ?_
                      refine n_top (y := .int (nI w)) (congrArg Value.int (by rw [hzw]; exact siI_s _)) ?_
                      refine lv_istore_n (lv' := [(1, .int (nI w)), (4, .int (nI 1)), (3, .int (nI (20 * (k / (r 30 0)) + (k % (r 30 0))))), (2, .int (nI k)), (0, .ref (G 3))]) hx hb dX3_weakest_138 rfl hl (by decide) rfl (fun ls hl => ?_)
                      refine lv_iinc (v := nI (k + 1)) (lv' := [(2, .int (nI (k + 1))), (1, .int (nI w)), (4, .int (nI 1)), (3, .int (nI (20 * (k / (r 30 0)) + (k % (r 30 0))))), (0, .ref (G 3))]) hx hb dX3_weakest_139 hl (k := 3) rfl (nI_add k 1) (by decide) rfl (fun ls hl => ?_)
                      refine lv_goto (tgt := 4) hx hb dX3_weakest_142 (by decide) ?_
                      exact ih4 (k + 1) (by omega) (by omega) (u_127) (by exact fun q j hq => (ho_127 q j hq).trans (hk1 q j hq)) (by exact hb_127) _ _ _ _ hRc hRr hRo hP hD hS (show lv_has ls 5 [(2, .int (nI (k + 1))), (1, .int (siI (wkI r (k + 1)))), (0, .ref (G 3))] from by rw [show ((.int (siI (wkI r (k + 1))) : Value)) = .int (nI w) from by show Value.int (siI (wkI r (k + 1))) = _; rw [wkI_f (fun q => c_130 ((Rch_cg (eR_cg hk1 1) _ _).mpr q.2.2.2))]; rw [hzw]; exact congrArg Value.int (siI_s _)]; exact lv_sub hl [0, 1, 4] rfl)
                    · refine lv_iload_n hx hb dX3_weakest_133 rfl (lv_at hl 1 rfl) ?_
                      refine lv_goto (tgt := 138) hx hb dX3_weakest_134 (by decide) ?_
                      refine lv_istore_n (lv' := [(1, .int (nI (20 * (k / (r 30 0)) + (k % (r 30 0))))), (4, .int (nI 1)), (3, .int (nI (20 * (k / (r 30 0)) + (k % (r 30 0))))), (2, .int (nI k)), (0, .ref (G 3))]) hx hb dX3_weakest_138 rfl hl (by decide) rfl (fun ls hl => ?_)
                      refine lv_iinc (v := nI (k + 1)) (lv' := [(2, .int (nI (k + 1))), (1, .int (nI (20 * (k / (r 30 0)) + (k % (r 30 0))))), (4, .int (nI 1)), (3, .int (nI (20 * (k / (r 30 0)) + (k % (r 30 0))))), (0, .ref (G 3))]) hx hb dX3_weakest_139 hl (k := 3) rfl (nI_add k 1) (by decide) rfl (fun ls hl => ?_)
                      refine lv_goto (tgt := 4) hx hb dX3_weakest_142 (by decide) ?_
                      exact ih4 (k + 1) (by omega) (by omega) (u_127) (by exact fun q j hq => (ho_127 q j hq).trans (hk1 q j hq)) (by exact hb_127) _ _ _ _ hRc hRr hRo hP hD hS (show lv_has ls 5 [(2, .int (nI (k + 1))), (1, .int (siI (wkI r (k + 1)))), (0, .ref (G 3))] from by rw [show ((.int (siI (wkI r (k + 1))) : Value)) = .int (nI (20 * (k / (r 30 0)) + (k % (r 30 0)))) from by show Value.int (siI (wkI r (k + 1))) = _; rw [wkI_t ⟨by rwa [hk1 8 _ (by decide)] at c_39, by rwa [hk1 11 _ (by decide)] at c_48, Or.inr (Or.inr (by rw [hzw, Nat.add_sub_cancel]; have h7 := c_83; rw [hk1 8 _ (by decide), hk1 8 _ (by decide)] at h7; have h5 := c_98; rw [hk1 9 _ (by decide), hk1 9 _ (by decide)] at h5; exact ⟨h7, h5⟩)), (Rch_cg (eR_cg hk1 1) _ _).mp c_130⟩]; exact congrArg Value.int (siI_s _)]; exact lv_sub hl [0, 1, 4] rfl)
  exact L4 _ 0 (Nat.lt_succ_self _) (by omega) (r) (by exact fun _ _ _ => rfl) (by exact h21) _ _ _ _ hRc hRr hRo hP hD hS (show lv_has ls 5 [(2, .int (nI 0)), (1, .int (siI (wkI r 0))), (0, .ref (G 3))] from by rw [show ((.int (siI (wkI r 0)) : Value)) = .int (-1) from by exact congrArg Value.int (show siI 0 = -1 from siI_0)]; exact lv_sub hl [0, 1, 2] rfl)
