theorem BRr_up {r : Nat → Nat → Nat} {a i v : Nat} (h : BRr r) (hv : v < 2 ^ 31) : BRr (up2 r a i v) := fun b j hb => by
  unfold up2
  split
  · exact hv
  · exact h b j hb
theorem rcnt_le {r : Nat → Nat → Nat} (h : IR r) : r_cnt r ≤ 20 := Nat.le_trans (ct_le _) (IR_n h)
noncomputable def gP (P : Nat → Prop) (n : Nat) : Nat → Nat
  | 0 => 0
  | i + 1 => if bN (P (n - 1 - i)) = 1 then n - 1 - i + 1 else gP P n i
theorem gP_t {P : Nat → Prop} {n i : Nat} (h : P (n - 1 - i)) : gP P n (i + 1) = n - 1 - i + 1 := by rw [gP, if_pos (bN_t h)]
theorem gP_f {P : Nat → Prop} {n i : Nat} (h : ¬ P (n - 1 - i)) : gP P n (i + 1) = gP P n i := by rw [gP, if_neg (by rw [bN_f h]; decide)]
theorem gP_fP {P : Nat → Prop} {n : Nat} : ∀ i, i ≤ n → fP P (n - i) = 0 → fP P n = gP P n i
  | 0, _, h => h
  | i + 1, hi, h => by
    rcases Classical.em (P (n - 1 - i)) with hp | hp
    · rw [gP_t hp]
      exact fP_hit (by rw [show n - 1 - i = n - (i + 1) by omega]; exact h) hp (by omega)
    · rw [gP_f hp]
      refine gP_fP i (by omega) ?_
      have := fP_miss h (by rw [show n - (i + 1) = n - 1 - i by omega]; exact hp)
      rwa [show n - (i + 1) + 1 = n - i by omega] at this
theorem gP_all {P : Nat → Prop} {n : Nat} : gP P n n = fP P n := (gP_fP n (Nat.le_refl _) (by rw [Nat.sub_self]; rfl)).symm
def tb (f : Nat) (v : Nat) : Prop := f.testBit v = true
theorem cnP_t {r : Nat → Nat → Nat} {u i : Nat} {S : Nat → Prop} (h : cnP r u S i) (h2 : r 7 (20 * u + i) = 0 ∨ hasP r S i) : cnP r u S (i + 1) := ⟨h.1, alQ_t h.2 h2⟩
theorem cnP_f1 {r : Nat → Nat → Nat} {u i : Nat} {S : Nat → Prop} (h : ¬ cnP r u S i) : ¬ cnP r u S (i + 1) := fun z => h ⟨z.1, fun v hv => z.2 v (by omega)⟩
theorem cnP_f2 {r : Nat → Nat → Nat} {u i : Nat} {S : Nat → Prop} (h : r 7 (20 * u + i) ≠ 0) (h2 : ¬ hasP r S i) : ¬ cnP r u S (i + 1) := fun z => (z.2 i (by omega)).elim h h2
set_option maxHeartbeats 4000000 in
set_option maxRecDepth 100000 in
theorem k_X3_canRunIn (l : Launch) (D : va_G) (G : Nat → Nat) (h0 : Nat) (c r : Nat → Nat → Nat) (o : Nat) (hI : IR r) (u f : Nat) (hu : u < 20) (hf : f < 2 ^ 20) : Met l yX3_canRunIn wsX3_canRunIn ({ frames := 1, cells := 0, slots := 0, locals := 21 } : Room) (va_Pc [.ref (G 3), .int (nI u), .int (nI f)] (fun U => Pr D G h0 c r o U)) (va_Qi (fun (v9 : Int32) (_ : Unit) => v9 = nI (bN (cnP r u (tb f) (r 30 0)))) (fun _ t => Wr D G h0 c r o t) (fun q => h0 ≤ q)) 0 0 (fun q => h0 ≤ q) := by
  refine Met.ofW (cc := cX3_canRunIn) (maxL := 6) (ret := (some .boolean)) (by decide) rfl ?_
  intro p e s m args below meth cd s₁ B hml hv
  obtain ⟨rfl, hE, wl, hRc, hRr, hRo, hP, hD⟩ := hv
  have hx := B.exec
  have hb := B.bytes
  have hr := B.returns
  have hts := atoms_spec (ws := wsX3_canRunIn) B.pre
  have hown : s.vm.findClass RX3 = some m.cls := findClass_of_methodNamed B.named
  have hlocks := B.notSynchronized
  have hK := hE.2.1
  have hS : va_S (fun q => h0 ≤ q) s.heap s.heap [] := va_S.rf
  have hl := lv_entry ([.ref (G 3), .int (nI u), .int (nI f)]) (n := 6) (Nat.le_of_ble_eq_true rfl)
  rw [lg_entry_eq]
  generalize (lg_sl ([.ref (G 3), .int (nI u), .int (nI f)]) ++ List.replicate (6 - (lg_sl ([.ref (G 3), .int (nI u), .int (nI f)])).length) Slot.unset).toArray = ls at hl ⊢
  have hl : lv_has ls 6 [(0, .ref (G 3)), (1, .int (nI u)), (2, .int (nI f))] := hl
  have inX3 : ∀ w ∈ wsX30, w ∈ wsX3_canRunIn := by decide +kernel
  obtain ⟨Q, hQ⟩ : ∃ Q, Q = MQ below (va_Qi (fun (v9 : Int32) (_ : Unit) => v9 = nI (bN (cnP r u (tb f) (r 30 0)))) (fun _ t => Wr D G h0 c r o t) (fun q => h0 ≤ q)) ([.ref (G 3), .int (nI u), .int (nI f)] : List Value).toArray s 0 0 (fun q => h0 ≤ q) := ⟨_, rfl⟩
  rw [← hQ]
  have hBr := IR_B hI
  have hn := IR_n hI
  have hs := IR_s hI
  refine lv_aload_n hx hb dX3_canRunIn_0 rfl (lv_at hl 0 rfl) ?_
  refine va_get (D := D) (ci := 4) (v := .ref (G 10)) (C := RX3) (T := TX3) (N := 23) hx hb hts inX3 hown hK hP 3 (Q_m hRr) rfl 6 (by decide) (hts (.fieldLink RX3 25 "BootStageModel" "isHeld" "[Z") (by decide +kernel)) (fun _ h9 => h9) rfl dX3_canRunIn_1 ?_
  refine lv_iload_n hx hb dX3_canRunIn_4 rfl (lv_at hl 1 rfl) ?_
  refine x_zald hx hb hK hP 10 (Q_a6 hRr) (by first | omega | decide | assumption) (by decide) dX3_canRunIn_5 (v := nI (r 6 u)) rfl ?_
  refine n_if_ne (tgt := 28) hx hb dX3_canRunIn_6 (by decide) (hBr _ _ (by decide)) (fun c_6 => ?_) (fun c_6 => ?_)
  · refine lv_iconst (v := nI 0) hx hb dX3_canRunIn_28 (by decide) ?_
    refine lv_istore_n (lv' := [(3, .int (nI 0)), (0, .ref (G 3)), (1, .int (nI u)), (2, .int (nI f))]) hx hb dX3_canRunIn_29 rfl hl (by decide) rfl (fun ls hl => ?_)
    refine lv_iconst (v := nI 0) hx hb dX3_canRunIn_30 (by decide) ?_
    refine lv_istore (lv' := [(4, .int (nI 0)), (3, .int (nI 0)), (0, .ref (G 3)), (1, .int (nI u)), (2, .int (nI f))]) hx hb dX3_canRunIn_31 hl (by decide) rfl (fun ls hl => ?_)
    have L33 : ∀ (d i : Nat), r 30 0 - i < d → i ≤ r 30 0 → ∀ (H : Heap) (locs : List Loc) (wl : va_W) (ls : Array Slot), Rc G c wl → Rr G r wl → Ro G o wl → va_P D vwCl wl H → va_D (fun q => h0 ≤ q) wl → va_S (fun q => h0 ≤ q) s.heap H locs → lv_has ls 6 [(4, .int (nI i)), (3, .int (nI (bN (cnP r u (tb f) i)))), (0, .ref (G 3)), (1, .int (nI u)), (2, .int (nI f))] → W p l e (headSpec wsX3_canRunIn ({ frames := 1, cells := 0, slots := 0, locals := 21 } : Room)).room s m ([.ref (G 3), .int (nI u), .int (nI f)] : List Value).toArray below meth cd H locs 0 0 Q (F0 m 33 ls []) := by
      intro d33
      induction d33 with
      | zero => intro i hd; exact absurd hd (Nat.not_lt_zero _)
      | succ d33 ih33 =>
        intro i hd hi  H locs wl ls hRc hRr hRo hP hD hS hl
        refine lv_iload hx hb dX3_canRunIn_33 (lv_at hl 0 rfl) ?_
        refine lv_aload_n hx hb dX3_canRunIn_35 rfl (lv_at hl 2 rfl) ?_
        refine va_get (D := D) (ci := 4) (v := .int (nI (r 30 0))) (C := RX3) (T := TX3) (N := 23) hx hb hts inX3 hown hK hP 3 (Q_m hRr) rfl 0 (by decide) (hts (.fieldLink RX3 60 "BootStageModel" "units" "I") (by decide +kernel)) (fun _ h9 => h9) rfl dX3_canRunIn_36 ?_
        refine n_icmp_ge (tgt := 120) hx hb dX3_canRunIn_39 (by decide) (by omega) (hBr _ _ (by decide)) (fun c_39 => ?_) (fun c_39 => ?_)
        · refine lv_iload_n hx hb dX3_canRunIn_120 rfl (lv_at hl 1 rfl) ?_
          rw [hQ]
          exact W.zret (v := nI (bN (cnP r u (tb f) i))) (ty := .boolean) hx hb hr (nb_le (by first | exact bN_le _ | decide | omega | assumption)) (fun t ht hW => ⟨⟨_, (), rfl, (show nI (bN (cnP r u (tb f) i)) = nI (bN (cnP r u (tb f) (r 30 0))) from by rw [show i = r 30 0 by omega]), Wr_mk hRc hRr hRo hP hD ht⟩, hS.F ht⟩) hS.2.2 dX3_canRunIn_121
        · refine lv_iload_n hx hb dX3_canRunIn_42 rfl (lv_at hl 4 rfl) ?_
          refine lv_iload hx hb dX3_canRunIn_43 (lv_at hl 0 rfl) ?_
          refine n_ishr hx hb dX3_canRunIn_45 (Nat.lt_trans hf (by decide)) (by omega) ?_
          refine lv_iconst (v := nI 1) hx hb dX3_canRunIn_46 (by decide) ?_
          refine n_iand hx hb dX3_canRunIn_47 ?_
          refine lv_iconst (v := nI 1) hx hb dX3_canRunIn_48 (by decide) ?_
          refine n_icmp_eq (tgt := 78) hx hb dX3_canRunIn_49 (by decide) (Nat.lt_of_le_of_lt Nat.and_le_right (by decide)) (by decide) (fun c_49 => ?_) (fun c_49 => ?_)
          · refine lv_iconst (v := nI 1) hx hb dX3_canRunIn_78 (by decide) ?_
            refine lv_goto (tgt := 83) hx hb dX3_canRunIn_79 (by decide) ?_
            refine lv_istore (lv' := [(5, .int (nI 1)), (4, .int (nI i)), (3, .int (nI (bN (cnP r u (tb f) i)))), (0, .ref (G 3)), (1, .int (nI u)), (2, .int (nI f))]) hx hb dX3_canRunIn_83 hl (by decide) rfl (fun ls hl => ?_)
            refine lv_iload_n hx hb dX3_canRunIn_85 rfl (lv_at hl 2 rfl) ?_
            refine n_ifb_eq (tgt := 112) hx hb dX3_canRunIn_86 (by decide) (fun c_86 => ?_) (fun c_86 => ?_)
            · refine lv_iconst (v := nI 0) hx hb dX3_canRunIn_112 (by decide) ?_
              refine lv_istore_n (lv' := [(3, .int (nI 0)), (5, .int (nI 1)), (4, .int (nI i)), (0, .ref (G 3)), (1, .int (nI u)), (2, .int (nI f))]) hx hb dX3_canRunIn_113 rfl hl (by decide) rfl (fun ls hl => ?_)
              refine lv_iinc (v := nI (i + 1)) (lv' := [(4, .int (nI (i + 1))), (3, .int (nI 0)), (5, .int (nI 1)), (0, .ref (G 3)), (1, .int (nI u)), (2, .int (nI f))]) hx hb dX3_canRunIn_114 hl (k := 2) rfl (nI_add i 1) (by decide) rfl (fun ls hl => ?_)
              refine lv_goto (tgt := 33) hx hb dX3_canRunIn_117 (by decide) ?_
              exact ih33 (i + 1) (by omega) (by omega)   _ _ _ _ hRc hRr hRo hP hD hS (show lv_has ls 6 [(4, .int (nI (i + 1))), (3, .int (nI (bN (cnP r u (tb f) (i + 1))))), (0, .ref (G 3)), (1, .int (nI u)), (2, .int (nI f))] from by rw [show ((.int (nI (bN (cnP r u (tb f) (i + 1)))) : Value)) = .int (nI 0) from by exact congrArg (fun z => Value.int (nI z)) (bN_f (cnP_f1 c_86))]; exact lv_sub hl [0, 1, 3, 4, 5] rfl)
            · refine lv_aload_n hx hb dX3_canRunIn_89 rfl (lv_at hl 3 rfl) ?_
              refine va_get (D := D) (ci := 4) (v := .ref (G 11)) (C := RX3) (T := TX3) (N := 23) hx hb hts inX3 hown hK hP 3 (Q_m hRr) rfl 7 (by decide) (hts (.fieldLink RX3 29 "BootStageModel" "needs" "[Z") (by decide +kernel)) (fun _ h9 => h9) rfl dX3_canRunIn_90 ?_
              refine lv_iload_n hx hb dX3_canRunIn_93 rfl (lv_at hl 4 rfl) ?_
              refine lv_iload hx hb dX3_canRunIn_94 (lv_at hl 1 rfl) ?_
              refine y_calli (va_runS (As := [.int (nI u), .int (nI i)]) (rest := [.ref (G 11)]) ⟨hx, hb, hml, hown, hts⟩ (k_X3_edge l D G h0 c r o u i) (va_cwS 2 hts gX3_canRunIn_X3_edge rfl rfl rfl (by decide +kernel) ⟨Nat.le_of_ble_eq_true rfl, Nat.le_of_ble_eq_true rfl⟩) ⟨fun a U g mk q => ⟨q.1, Pr_cg q.2⟩, fun U hU hW => ⟨rfl, Pr_mk hE hRc hRr hRo hP hD hS hU hW⟩⟩ rfl rfl hl.1 rfl (lv_room (Nat.le_of_ble_eq_true rfl)) dX3_canRunIn_96 ⟨Nat.le_of_ble_eq_true rfl, Nat.le_of_ble_eq_true rfl⟩) hS (fun v9 _ H locs wl hv9 hRc hRr hRo hP hD hS => ?_)
              refine n_top (y := .int (nI (20 * u + i))) (congrArg Value.int hv9) ?_
              clear hv9 v9
              refine x_zald hx hb hK hP 11 (Q_a7 hRr) (by first | omega | decide | assumption) (by decide) dX3_canRunIn_99 (v := nI (r 7 (20 * u + i))) rfl ?_
              refine n_if_eq (tgt := 108) hx hb dX3_canRunIn_100 (by decide) (hBr _ _ (by decide)) (fun c_100 => ?_) (fun c_100 => ?_)
              · refine lv_iconst (v := nI 1) hx hb dX3_canRunIn_108 (by decide) ?_
                refine lv_goto (tgt := 113) hx hb dX3_canRunIn_109 (by decide) ?_
                refine lv_istore_n (lv' := [(3, .int (nI 1)), (5, .int (nI 1)), (4, .int (nI i)), (0, .ref (G 3)), (1, .int (nI u)), (2, .int (nI f))]) hx hb dX3_canRunIn_113 rfl hl (by decide) rfl (fun ls hl => ?_)
                refine lv_iinc (v := nI (i + 1)) (lv' := [(4, .int (nI (i + 1))), (3, .int (nI 1)), (5, .int (nI 1)), (0, .ref (G 3)), (1, .int (nI u)), (2, .int (nI f))]) hx hb dX3_canRunIn_114 hl (k := 2) rfl (nI_add i 1) (by decide) rfl (fun ls hl => ?_)
                refine lv_goto (tgt := 33) hx hb dX3_canRunIn_117 (by decide) ?_
                exact ih33 (i + 1) (by omega) (by omega)   _ _ _ _ hRc hRr hRo hP hD hS (show lv_has ls 6 [(4, .int (nI (i + 1))), (3, .int (nI (bN (cnP r u (tb f) (i + 1))))), (0, .ref (G 3)), (1, .int (nI u)), (2, .int (nI f))] from by rw [show ((.int (nI (bN (cnP r u (tb f) (i + 1)))) : Value)) = .int (nI 1) from by exact congrArg (fun z => Value.int (nI z)) (bN_t (cnP_t c_86 (Or.inl c_100)))]; exact lv_sub hl [0, 1, 3, 4, 5] rfl)
              · refine lv_iload hx hb dX3_canRunIn_103 (lv_at hl 0 rfl) ?_
                refine n_if_eq (tgt := 112) hx hb dX3_canRunIn_105 (by decide) (by decide) (fun c_105 => absurd c_105 (by decide)) (fun c_105 => ?_)
                refine lv_iconst (v := nI 1) hx hb dX3_canRunIn_108 (by decide) ?_
                refine lv_goto (tgt := 113) hx hb dX3_canRunIn_109 (by decide) ?_
                refine lv_istore_n (lv' := [(3, .int (nI 1)), (5, .int (nI 1)), (4, .int (nI i)), (0, .ref (G 3)), (1, .int (nI u)), (2, .int (nI f))]) hx hb dX3_canRunIn_113 rfl hl (by decide) rfl (fun ls hl => ?_)
                refine lv_iinc (v := nI (i + 1)) (lv' := [(4, .int (nI (i + 1))), (3, .int (nI 1)), (5, .int (nI 1)), (0, .ref (G 3)), (1, .int (nI u)), (2, .int (nI f))]) hx hb dX3_canRunIn_114 hl (k := 2) rfl (nI_add i 1) (by decide) rfl (fun ls hl => ?_)
                refine lv_goto (tgt := 33) hx hb dX3_canRunIn_117 (by decide) ?_
                exact ih33 (i + 1) (by omega) (by omega)   _ _ _ _ hRc hRr hRo hP hD hS (show lv_has ls 6 [(4, .int (nI (i + 1))), (3, .int (nI (bN (cnP r u (tb f) (i + 1))))), (0, .ref (G 3)), (1, .int (nI u)), (2, .int (nI f))] from by rw [show ((.int (nI (bN (cnP r u (tb f) (i + 1)))) : Value)) = .int (nI 1) from by exact congrArg (fun z => Value.int (nI z)) (bN_t (cnP_t c_86 (Or.inr (Or.inl (bit1.mp c_49)))))]; exact lv_sub hl [0, 1, 3, 4, 5] rfl)
          · refine lv_aload_n hx hb dX3_canRunIn_52 rfl (lv_at hl 2 rfl) ?_
            refine va_get (D := D) (ci := 4) (v := .ref (G 9)) (C := RX3) (T := TX3) (N := 23) hx hb hts inX3 hown hK hP 3 (Q_m hRr) rfl 5 (by decide) (hts (.fieldLink RX3 22 "BootStageModel" "standIns" "[I") (by decide +kernel)) (fun _ h9 => h9) rfl dX3_canRunIn_53 ?_
            refine lv_iload hx hb dX3_canRunIn_56 (lv_at hl 0 rfl) ?_
            refine x_iald hx hb hK hP 9 (Q_a5 hRr) (by first | omega | decide | assumption) (by decide) dX3_canRunIn_58 (v := siI (r 5 i)) rfl ?_
            rcases (show r 5 i = 0 ∨ ∃ w, r 5 i = w + 1 from by cases h9 : r 5 i with | zero => exact Or.inl rfl | succ w => exact Or.inr ⟨w, rfl⟩) with hz_58 | ⟨w_58, hz_58⟩
            · refine n_top (y := .int (-1)) (congrArg Value.int (by rw [hz_58]; exact siI_0)) ?_
              refine lv_iconst (v := (-1)) hx hb dX3_canRunIn_59 (by decide) ?_
              refine lv_icmp_eq (tgt := 82) hx hb dX3_canRunIn_60 (by decide) (fun c_60 => ?_) (fun c_60 => absurd c_60 (by decide))
              refine lv_iconst (v := nI 0) hx hb dX3_canRunIn_82 (by decide) ?_
              refine lv_istore (lv' := [(5, .int (nI 0)), (4, .int (nI i)), (3, .int (nI (bN (cnP r u (tb f) i)))), (0, .ref (G 3)), (1, .int (nI u)), (2, .int (nI f))]) hx hb dX3_canRunIn_83 hl (by decide) rfl (fun ls hl => ?_)
              refine lv_iload_n hx hb dX3_canRunIn_85 rfl (lv_at hl 2 rfl) ?_
              refine n_ifb_eq (tgt := 112) hx hb dX3_canRunIn_86 (by decide) (fun c_86 => ?_) (fun c_86 => ?_)
              · refine lv_iconst (v := nI 0) hx hb dX3_canRunIn_112 (by decide) ?_
                refine lv_istore_n (lv' := [(3, .int (nI 0)), (5, .int (nI 0)), (4, .int (nI i)), (0, .ref (G 3)), (1, .int (nI u)), (2, .int (nI f))]) hx hb dX3_canRunIn_113 rfl hl (by decide) rfl (fun ls hl => ?_)
                refine lv_iinc (v := nI (i + 1)) (lv' := [(4, .int (nI (i + 1))), (3, .int (nI 0)), (5, .int (nI 0)), (0, .ref (G 3)), (1, .int (nI u)), (2, .int (nI f))]) hx hb dX3_canRunIn_114 hl (k := 2) rfl (nI_add i 1) (by decide) rfl (fun ls hl => ?_)
                refine lv_goto (tgt := 33) hx hb dX3_canRunIn_117 (by decide) ?_
                exact ih33 (i + 1) (by omega) (by omega)   _ _ _ _ hRc hRr hRo hP hD hS (show lv_has ls 6 [(4, .int (nI (i + 1))), (3, .int (nI (bN (cnP r u (tb f) (i + 1))))), (0, .ref (G 3)), (1, .int (nI u)), (2, .int (nI f))] from by rw [show ((.int (nI (bN (cnP r u (tb f) (i + 1)))) : Value)) = .int (nI 0) from by exact congrArg (fun z => Value.int (nI z)) (bN_f (cnP_f1 c_86))]; exact lv_sub hl [0, 1, 3, 4, 5] rfl)
              · refine lv_aload_n hx hb dX3_canRunIn_89 rfl (lv_at hl 3 rfl) ?_
                refine va_get (D := D) (ci := 4) (v := .ref (G 11)) (C := RX3) (T := TX3) (N := 23) hx hb hts inX3 hown hK hP 3 (Q_m hRr) rfl 7 (by decide) (hts (.fieldLink RX3 29 "BootStageModel" "needs" "[Z") (by decide +kernel)) (fun _ h9 => h9) rfl dX3_canRunIn_90 ?_
                refine lv_iload_n hx hb dX3_canRunIn_93 rfl (lv_at hl 4 rfl) ?_
                refine lv_iload hx hb dX3_canRunIn_94 (lv_at hl 1 rfl) ?_
                refine y_calli (va_runS (As := [.int (nI u), .int (nI i)]) (rest := [.ref (G 11)]) ⟨hx, hb, hml, hown, hts⟩ (k_X3_edge l D G h0 c r o u i) (va_cwS 2 hts gX3_canRunIn_X3_edge rfl rfl rfl (by decide +kernel) ⟨Nat.le_of_ble_eq_true rfl, Nat.le_of_ble_eq_true rfl⟩) ⟨fun a U g mk q => ⟨q.1, Pr_cg q.2⟩, fun U hU hW => ⟨rfl, Pr_mk hE hRc hRr hRo hP hD hS hU hW⟩⟩ rfl rfl hl.1 rfl (lv_room (Nat.le_of_ble_eq_true rfl)) dX3_canRunIn_96 ⟨Nat.le_of_ble_eq_true rfl, Nat.le_of_ble_eq_true rfl⟩) hS (fun v9 _ H locs wl hv9 hRc hRr hRo hP hD hS => ?_)
                refine n_top (y := .int (nI (20 * u + i))) (congrArg Value.int hv9) ?_
                clear hv9 v9
                refine x_zald hx hb hK hP 11 (Q_a7 hRr) (by first | omega | decide | assumption) (by decide) dX3_canRunIn_99 (v := nI (r 7 (20 * u + i))) rfl ?_
                refine n_if_eq (tgt := 108) hx hb dX3_canRunIn_100 (by decide) (hBr _ _ (by decide)) (fun c_100 => ?_) (fun c_100 => ?_)
                · refine lv_iconst (v := nI 1) hx hb dX3_canRunIn_108 (by decide) ?_
                  refine lv_goto (tgt := 113) hx hb dX3_canRunIn_109 (by decide) ?_
                  refine lv_istore_n (lv' := [(3, .int (nI 1)), (5, .int (nI 0)), (4, .int (nI i)), (0, .ref (G 3)), (1, .int (nI u)), (2, .int (nI f))]) hx hb dX3_canRunIn_113 rfl hl (by decide) rfl (fun ls hl => ?_)
                  refine lv_iinc (v := nI (i + 1)) (lv' := [(4, .int (nI (i + 1))), (3, .int (nI 1)), (5, .int (nI 0)), (0, .ref (G 3)), (1, .int (nI u)), (2, .int (nI f))]) hx hb dX3_canRunIn_114 hl (k := 2) rfl (nI_add i 1) (by decide) rfl (fun ls hl => ?_)
                  refine lv_goto (tgt := 33) hx hb dX3_canRunIn_117 (by decide) ?_
                  exact ih33 (i + 1) (by omega) (by omega)   _ _ _ _ hRc hRr hRo hP hD hS (show lv_has ls 6 [(4, .int (nI (i + 1))), (3, .int (nI (bN (cnP r u (tb f) (i + 1))))), (0, .ref (G 3)), (1, .int (nI u)), (2, .int (nI f))] from by rw [show ((.int (nI (bN (cnP r u (tb f) (i + 1)))) : Value)) = .int (nI 1) from by exact congrArg (fun z => Value.int (nI z)) (bN_t (cnP_t c_86 (Or.inl c_100)))]; exact lv_sub hl [0, 1, 3, 4, 5] rfl)
                · refine lv_iload hx hb dX3_canRunIn_103 (lv_at hl 0 rfl) ?_
                  refine n_if_eq (tgt := 112) hx hb dX3_canRunIn_105 (by decide) (by decide) (fun c_105 => ?_) (fun c_105 => absurd c_105 (by decide))
                  refine lv_iconst (v := nI 0) hx hb dX3_canRunIn_112 (by decide) ?_
                  refine lv_istore_n (lv' := [(3, .int (nI 0)), (5, .int (nI 0)), (4, .int (nI i)), (0, .ref (G 3)), (1, .int (nI u)), (2, .int (nI f))]) hx hb dX3_canRunIn_113 rfl hl (by decide) rfl (fun ls hl => ?_)
                  refine lv_iinc (v := nI (i + 1)) (lv' := [(4, .int (nI (i + 1))), (3, .int (nI 0)), (5, .int (nI 0)), (0, .ref (G 3)), (1, .int (nI u)), (2, .int (nI f))]) hx hb dX3_canRunIn_114 hl (k := 2) rfl (nI_add i 1) (by decide) rfl (fun ls hl => ?_)
                  refine lv_goto (tgt := 33) hx hb dX3_canRunIn_117 (by decide) ?_
                  exact ih33 (i + 1) (by omega) (by omega)   _ _ _ _ hRc hRr hRo hP hD hS (show lv_has ls 6 [(4, .int (nI (i + 1))), (3, .int (nI (bN (cnP r u (tb f) (i + 1))))), (0, .ref (G 3)), (1, .int (nI u)), (2, .int (nI f))] from by rw [show ((.int (nI (bN (cnP r u (tb f) (i + 1)))) : Value)) = .int (nI 0) from by exact congrArg (fun z => Value.int (nI z)) (bN_f (cnP_f2 (Nat.ne_of_gt c_100) (fun q => q.elim (fun q => c_49 (bit1.mpr q)) (fun q => q.1 hz_58))))]; exact lv_sub hl [0, 1, 3, 4, 5] rfl)
            · have h_w_58 : w_58 < 20 := by have h9 := hs i; omega
              refine n_top (y := .int (nI w_58)) (congrArg Value.int (by rw [hz_58]; exact siI_s _)) ?_
              refine lv_iconst (v := (-1)) hx hb dX3_canRunIn_59 (by decide) ?_
              refine lv_icmp_eq (tgt := 82) hx hb dX3_canRunIn_60 (by decide) (fun c_60 => absurd c_60 (fun z => nI_pos (show w_58 < 2 ^ 31 from (by omega)) (by rw [z]; decide))) (fun c_60 => ?_)
              refine lv_iload_n hx hb dX3_canRunIn_63 rfl (lv_at hl 4 rfl) ?_
              refine lv_aload_n hx hb dX3_canRunIn_64 rfl (lv_at hl 2 rfl) ?_
              refine va_get (D := D) (ci := 4) (v := .ref (G 9)) (C := RX3) (T := TX3) (N := 23) hx hb hts inX3 hown hK hP 3 (Q_m hRr) rfl 5 (by decide) (hts (.fieldLink RX3 22 "BootStageModel" "standIns" "[I") (by decide +kernel)) (fun _ h9 => h9) rfl dX3_canRunIn_65 ?_
              refine lv_iload hx hb dX3_canRunIn_68 (lv_at hl 0 rfl) ?_
              refine x_iald hx hb hK hP 9 (Q_a5 hRr) (by first | omega | decide | assumption) (by decide) dX3_canRunIn_70 (v := siI (r 5 i)) rfl ?_
              refine n_top (y := .int (nI w_58)) (congrArg Value.int (by rw [hz_58]; exact siI_s _)) ?_
              refine n_ishr hx hb dX3_canRunIn_71 (Nat.lt_trans hf (by decide)) (by omega) ?_
              refine lv_iconst (v := nI 1) hx hb dX3_canRunIn_72 (by decide) ?_
              refine n_iand hx hb dX3_canRunIn_73 ?_
              refine lv_iconst (v := nI 1) hx hb dX3_canRunIn_74 (by decide) ?_
              refine n_icmp_ne (tgt := 82) hx hb dX3_canRunIn_75 (by decide) (Nat.lt_of_le_of_lt Nat.and_le_right (by decide)) (by decide) (fun c_75 => ?_) (fun c_75 => ?_)
              · refine lv_iconst (v := nI 0) hx hb dX3_canRunIn_82 (by decide) ?_
                refine lv_istore (lv' := [(5, .int (nI 0)), (4, .int (nI i)), (3, .int (nI (bN (cnP r u (tb f) i)))), (0, .ref (G 3)), (1, .int (nI u)), (2, .int (nI f))]) hx hb dX3_canRunIn_83 hl (by decide) rfl (fun ls hl => ?_)
                refine lv_iload_n hx hb dX3_canRunIn_85 rfl (lv_at hl 2 rfl) ?_
                refine n_ifb_eq (tgt := 112) hx hb dX3_canRunIn_86 (by decide) (fun c_86 => ?_) (fun c_86 => ?_)
                · refine lv_iconst (v := nI 0) hx hb dX3_canRunIn_112 (by decide) ?_
                  refine lv_istore_n (lv' := [(3, .int (nI 0)), (5, .int (nI 0)), (4, .int (nI i)), (0, .ref (G 3)), (1, .int (nI u)), (2, .int (nI f))]) hx hb dX3_canRunIn_113 rfl hl (by decide) rfl (fun ls hl => ?_)
                  refine lv_iinc (v := nI (i + 1)) (lv' := [(4, .int (nI (i + 1))), (3, .int (nI 0)), (5, .int (nI 0)), (0, .ref (G 3)), (1, .int (nI u)), (2, .int (nI f))]) hx hb dX3_canRunIn_114 hl (k := 2) rfl (nI_add i 1) (by decide) rfl (fun ls hl => ?_)
                  refine lv_goto (tgt := 33) hx hb dX3_canRunIn_117 (by decide) ?_
                  exact ih33 (i + 1) (by omega) (by omega)   _ _ _ _ hRc hRr hRo hP hD hS (show lv_has ls 6 [(4, .int (nI (i + 1))), (3, .int (nI (bN (cnP r u (tb f) (i + 1))))), (0, .ref (G 3)), (1, .int (nI u)), (2, .int (nI f))] from by rw [show ((.int (nI (bN (cnP r u (tb f) (i + 1)))) : Value)) = .int (nI 0) from by exact congrArg (fun z => Value.int (nI z)) (bN_f (cnP_f1 c_86))]; exact lv_sub hl [0, 1, 3, 4, 5] rfl)
                · refine lv_aload_n hx hb dX3_canRunIn_89 rfl (lv_at hl 3 rfl) ?_
                  refine va_get (D := D) (ci := 4) (v := .ref (G 11)) (C := RX3) (T := TX3) (N := 23) hx hb hts inX3 hown hK hP 3 (Q_m hRr) rfl 7 (by decide) (hts (.fieldLink RX3 29 "BootStageModel" "needs" "[Z") (by decide +kernel)) (fun _ h9 => h9) rfl dX3_canRunIn_90 ?_
                  refine lv_iload_n hx hb dX3_canRunIn_93 rfl (lv_at hl 4 rfl) ?_
                  refine lv_iload hx hb dX3_canRunIn_94 (lv_at hl 1 rfl) ?_
                  refine y_calli (va_runS (As := [.int (nI u), .int (nI i)]) (rest := [.ref (G 11)]) ⟨hx, hb, hml, hown, hts⟩ (k_X3_edge l D G h0 c r o u i) (va_cwS 2 hts gX3_canRunIn_X3_edge rfl rfl rfl (by decide +kernel) ⟨Nat.le_of_ble_eq_true rfl, Nat.le_of_ble_eq_true rfl⟩) ⟨fun a U g mk q => ⟨q.1, Pr_cg q.2⟩, fun U hU hW => ⟨rfl, Pr_mk hE hRc hRr hRo hP hD hS hU hW⟩⟩ rfl rfl hl.1 rfl (lv_room (Nat.le_of_ble_eq_true rfl)) dX3_canRunIn_96 ⟨Nat.le_of_ble_eq_true rfl, Nat.le_of_ble_eq_true rfl⟩) hS (fun v9 _ H locs wl hv9 hRc hRr hRo hP hD hS => ?_)
                  refine n_top (y := .int (nI (20 * u + i))) (congrArg Value.int hv9) ?_
                  clear hv9 v9
                  refine x_zald hx hb hK hP 11 (Q_a7 hRr) (by first | omega | decide | assumption) (by decide) dX3_canRunIn_99 (v := nI (r 7 (20 * u + i))) rfl ?_
                  refine n_if_eq (tgt := 108) hx hb dX3_canRunIn_100 (by decide) (hBr _ _ (by decide)) (fun c_100 => ?_) (fun c_100 => ?_)
                  · refine lv_iconst (v := nI 1) hx hb dX3_canRunIn_108 (by decide) ?_
                    refine lv_goto (tgt := 113) hx hb dX3_canRunIn_109 (by decide) ?_
                    refine lv_istore_n (lv' := [(3, .int (nI 1)), (5, .int (nI 0)), (4, .int (nI i)), (0, .ref (G 3)), (1, .int (nI u)), (2, .int (nI f))]) hx hb dX3_canRunIn_113 rfl hl (by decide) rfl (fun ls hl => ?_)
                    refine lv_iinc (v := nI (i + 1)) (lv' := [(4, .int (nI (i + 1))), (3, .int (nI 1)), (5, .int (nI 0)), (0, .ref (G 3)), (1, .int (nI u)), (2, .int (nI f))]) hx hb dX3_canRunIn_114 hl (k := 2) rfl (nI_add i 1) (by decide) rfl (fun ls hl => ?_)
                    refine lv_goto (tgt := 33) hx hb dX3_canRunIn_117 (by decide) ?_
                    exact ih33 (i + 1) (by omega) (by omega)   _ _ _ _ hRc hRr hRo hP hD hS (show lv_has ls 6 [(4, .int (nI (i + 1))), (3, .int (nI (bN (cnP r u (tb f) (i + 1))))), (0, .ref (G 3)), (1, .int (nI u)), (2, .int (nI f))] from by rw [show ((.int (nI (bN (cnP r u (tb f) (i + 1)))) : Value)) = .int (nI 1) from by exact congrArg (fun z => Value.int (nI z)) (bN_t (cnP_t c_86 (Or.inl c_100)))]; exact lv_sub hl [0, 1, 3, 4, 5] rfl)
                  · refine lv_iload hx hb dX3_canRunIn_103 (lv_at hl 0 rfl) ?_
                    refine n_if_eq (tgt := 112) hx hb dX3_canRunIn_105 (by decide) (by decide) (fun c_105 => ?_) (fun c_105 => absurd c_105 (by decide))
                    refine lv_iconst (v := nI 0) hx hb dX3_canRunIn_112 (by decide) ?_
                    refine lv_istore_n (lv' := [(3, .int (nI 0)), (5, .int (nI 0)), (4, .int (nI i)), (0, .ref (G 3)), (1, .int (nI u)), (2, .int (nI f))]) hx hb dX3_canRunIn_113 rfl hl (by decide) rfl (fun ls hl => ?_)
                    refine lv_iinc (v := nI (i + 1)) (lv' := [(4, .int (nI (i + 1))), (3, .int (nI 0)), (5, .int (nI 0)), (0, .ref (G 3)), (1, .int (nI u)), (2, .int (nI f))]) hx hb dX3_canRunIn_114 hl (k := 2) rfl (nI_add i 1) (by decide) rfl (fun ls hl => ?_)
                    refine lv_goto (tgt := 33) hx hb dX3_canRunIn_117 (by decide) ?_
                    exact ih33 (i + 1) (by omega) (by omega)   _ _ _ _ hRc hRr hRo hP hD hS (show lv_has ls 6 [(4, .int (nI (i + 1))), (3, .int (nI (bN (cnP r u (tb f) (i + 1))))), (0, .ref (G 3)), (1, .int (nI u)), (2, .int (nI f))] from by rw [show ((.int (nI (bN (cnP r u (tb f) (i + 1)))) : Value)) = .int (nI 0) from by exact congrArg (fun z => Value.int (nI z)) (bN_f (cnP_f2 (Nat.ne_of_gt c_100) (fun q => q.elim (fun q => c_49 (bit1.mpr q)) (fun q => c_75 (bit1.mpr (by have q2 := q.2; rwa [hz_58, Nat.add_sub_cancel] at q2))))))]; exact lv_sub hl [0, 1, 3, 4, 5] rfl)
              · refine lv_iconst (v := nI 1) hx hb dX3_canRunIn_78 (by decide) ?_
                refine lv_goto (tgt := 83) hx hb dX3_canRunIn_79 (by decide) ?_
                refine lv_istore (lv' := [(5, .int (nI 1)), (4, .int (nI i)), (3, .int (nI (bN (cnP r u (tb f) i)))), (0, .ref (G 3)), (1, .int (nI u)), (2, .int (nI f))]) hx hb dX3_canRunIn_83 hl (by decide) rfl (fun ls hl => ?_)
                refine lv_iload_n hx hb dX3_canRunIn_85 rfl (lv_at hl 2 rfl) ?_
                refine n_ifb_eq (tgt := 112) hx hb dX3_canRunIn_86 (by decide) (fun c_86 => ?_) (fun c_86 => ?_)
                · refine lv_iconst (v := nI 0) hx hb dX3_canRunIn_112 (by decide) ?_
                  refine lv_istore_n (lv' := [(3, .int (nI 0)), (5, .int (nI 1)), (4, .int (nI i)), (0, .ref (G 3)), (1, .int (nI u)), (2, .int (nI f))]) hx hb dX3_canRunIn_113 rfl hl (by decide) rfl (fun ls hl => ?_)
                  refine lv_iinc (v := nI (i + 1)) (lv' := [(4, .int (nI (i + 1))), (3, .int (nI 0)), (5, .int (nI 1)), (0, .ref (G 3)), (1, .int (nI u)), (2, .int (nI f))]) hx hb dX3_canRunIn_114 hl (k := 2) rfl (nI_add i 1) (by decide) rfl (fun ls hl => ?_)
                  refine lv_goto (tgt := 33) hx hb dX3_canRunIn_117 (by decide) ?_
                  exact ih33 (i + 1) (by omega) (by omega)   _ _ _ _ hRc hRr hRo hP hD hS (show lv_has ls 6 [(4, .int (nI (i + 1))), (3, .int (nI (bN (cnP r u (tb f) (i + 1))))), (0, .ref (G 3)), (1, .int (nI u)), (2, .int (nI f))] from by rw [show ((.int (nI (bN (cnP r u (tb f) (i + 1)))) : Value)) = .int (nI 0) from by exact congrArg (fun z => Value.int (nI z)) (bN_f (cnP_f1 c_86))]; exact lv_sub hl [0, 1, 3, 4, 5] rfl)
                · refine lv_aload_n hx hb dX3_canRunIn_89 rfl (lv_at hl 3 rfl) ?_
                  refine va_get (D := D) (ci := 4) (v := .ref (G 11)) (C := RX3) (T := TX3) (N := 23) hx hb hts inX3 hown hK hP 3 (Q_m hRr) rfl 7 (by decide) (hts (.fieldLink RX3 29 "BootStageModel" "needs" "[Z") (by decide +kernel)) (fun _ h9 => h9) rfl dX3_canRunIn_90 ?_
                  refine lv_iload_n hx hb dX3_canRunIn_93 rfl (lv_at hl 4 rfl) ?_
                  refine lv_iload hx hb dX3_canRunIn_94 (lv_at hl 1 rfl) ?_
                  refine y_calli (va_runS (As := [.int (nI u), .int (nI i)]) (rest := [.ref (G 11)]) ⟨hx, hb, hml, hown, hts⟩ (k_X3_edge l D G h0 c r o u i) (va_cwS 2 hts gX3_canRunIn_X3_edge rfl rfl rfl (by decide +kernel) ⟨Nat.le_of_ble_eq_true rfl, Nat.le_of_ble_eq_true rfl⟩) ⟨fun a U g mk q => ⟨q.1, Pr_cg q.2⟩, fun U hU hW => ⟨rfl, Pr_mk hE hRc hRr hRo hP hD hS hU hW⟩⟩ rfl rfl hl.1 rfl (lv_room (Nat.le_of_ble_eq_true rfl)) dX3_canRunIn_96 ⟨Nat.le_of_ble_eq_true rfl, Nat.le_of_ble_eq_true rfl⟩) hS (fun v9 _ H locs wl hv9 hRc hRr hRo hP hD hS => ?_)
                  refine n_top (y := .int (nI (20 * u + i))) (congrArg Value.int hv9) ?_
                  clear hv9 v9
                  refine x_zald hx hb hK hP 11 (Q_a7 hRr) (by first | omega | decide | assumption) (by decide) dX3_canRunIn_99 (v := nI (r 7 (20 * u + i))) rfl ?_
                  refine n_if_eq (tgt := 108) hx hb dX3_canRunIn_100 (by decide) (hBr _ _ (by decide)) (fun c_100 => ?_) (fun c_100 => ?_)
                  · refine lv_iconst (v := nI 1) hx hb dX3_canRunIn_108 (by decide) ?_
                    refine lv_goto (tgt := 113) hx hb dX3_canRunIn_109 (by decide) ?_
                    refine lv_istore_n (lv' := [(3, .int (nI 1)), (5, .int (nI 1)), (4, .int (nI i)), (0, .ref (G 3)), (1, .int (nI u)), (2, .int (nI f))]) hx hb dX3_canRunIn_113 rfl hl (by decide) rfl (fun ls hl => ?_)
                    refine lv_iinc (v := nI (i + 1)) (lv' := [(4, .int (nI (i + 1))), (3, .int (nI 1)), (5, .int (nI 1)), (0, .ref (G 3)), (1, .int (nI u)), (2, .int (nI f))]) hx hb dX3_canRunIn_114 hl (k := 2) rfl (nI_add i 1) (by decide) rfl (fun ls hl => ?_)
                    refine lv_goto (tgt := 33) hx hb dX3_canRunIn_117 (by decide) ?_
                    exact ih33 (i + 1) (by omega) (by omega)   _ _ _ _ hRc hRr hRo hP hD hS (show lv_has ls 6 [(4, .int (nI (i + 1))), (3, .int (nI (bN (cnP r u (tb f) (i + 1))))), (0, .ref (G 3)), (1, .int (nI u)), (2, .int (nI f))] from by rw [show ((.int (nI (bN (cnP r u (tb f) (i + 1)))) : Value)) = .int (nI 1) from by exact congrArg (fun z => Value.int (nI z)) (bN_t (cnP_t c_86 (Or.inl c_100)))]; exact lv_sub hl [0, 1, 3, 4, 5] rfl)
                  · refine lv_iload hx hb dX3_canRunIn_103 (lv_at hl 0 rfl) ?_
                    refine n_if_eq (tgt := 112) hx hb dX3_canRunIn_105 (by decide) (by decide) (fun c_105 => absurd c_105 (by decide)) (fun c_105 => ?_)
                    refine lv_iconst (v := nI 1) hx hb dX3_canRunIn_108 (by decide) ?_
                    refine lv_goto (tgt := 113) hx hb dX3_canRunIn_109 (by decide) ?_
                    refine lv_istore_n (lv' := [(3, .int (nI 1)), (5, .int (nI 1)), (4, .int (nI i)), (0, .ref (G 3)), (1, .int (nI u)), (2, .int (nI f))]) hx hb dX3_canRunIn_113 rfl hl (by decide) rfl (fun ls hl => ?_)
                    refine lv_iinc (v := nI (i + 1)) (lv' := [(4, .int (nI (i + 1))), (3, .int (nI 1)), (5, .int (nI 1)), (0, .ref (G 3)), (1, .int (nI u)), (2, .int (nI f))]) hx hb dX3_canRunIn_114 hl (k := 2) rfl (nI_add i 1) (by decide) rfl (fun ls hl => ?_)
                    refine lv_goto (tgt := 33) hx hb dX3_canRunIn_117 (by decide) ?_
                    exact ih33 (i + 1) (by omega) (by omega)   _ _ _ _ hRc hRr hRo hP hD hS (show lv_has ls 6 [(4, .int (nI (i + 1))), (3, .int (nI (bN (cnP r u (tb f) (i + 1))))), (0, .ref (G 3)), (1, .int (nI u)), (2, .int (nI f))] from by rw [show ((.int (nI (bN (cnP r u (tb f) (i + 1)))) : Value)) = .int (nI 1) from by exact congrArg (fun z => Value.int (nI z)) (bN_t (cnP_t c_86 (Or.inr (Or.inr ⟨by omega, by rw [hz_58, Nat.add_sub_cancel]; exact bit1.mp c_75⟩))))]; exact lv_sub hl [0, 1, 3, 4, 5] rfl)
    exact L33 _ 0 (Nat.lt_succ_self _) (by omega)   _ _ _ _ hRc hRr hRo hP hD hS (show lv_has ls 6 [(4, .int (nI 0)), (3, .int (nI (bN (cnP r u (tb f) 0)))), (0, .ref (G 3)), (1, .int (nI u)), (2, .int (nI f))] from by rw [show ((.int (nI (bN (cnP r u (tb f) 0))) : Value)) = .int (nI 0) from by exact congrArg (fun z => Value.int (nI z)) (bN_f (fun q => by have h9 := q.1.1; omega))]; exact lv_sub hl [0, 1, 2, 3, 4] rfl)
  · refine lv_aload_n hx hb dX3_canRunIn_9 rfl (lv_at hl 0 rfl) ?_
    refine va_get (D := D) (ci := 4) (v := .ref (G 8)) (C := RX3) (T := TX3) (N := 23) hx hb hts inX3 hown hK hP 3 (Q_m hRr) rfl 4 (by decide) (hts (.fieldLink RX3 19 "BootStageModel" "faults" "[I") (by decide +kernel)) (fun _ h9 => h9) rfl dX3_canRunIn_10 ?_
    refine lv_iload_n hx hb dX3_canRunIn_13 rfl (lv_at hl 1 rfl) ?_
    refine x_iald hx hb hK hP 8 (Q_a4 hRr) (by first | omega | decide | assumption) (by decide) dX3_canRunIn_14 (v := nI (r 4 u)) rfl ?_
    refine lv_aload_n hx hb dX3_canRunIn_15 rfl (lv_at hl 0 rfl) ?_
    refine va_get (D := D) (ci := 4) (v := .ref (G 7)) (C := RX3) (T := TX3) (N := 23) hx hb hts inX3 hown hK hP 3 (Q_m hRr) rfl 3 (by decide) (hts (.fieldLink RX3 16 "BootStageModel" "retries" "[I") (by decide +kernel)) (fun _ h9 => h9) rfl dX3_canRunIn_16 ?_
    refine lv_iload_n hx hb dX3_canRunIn_19 rfl (lv_at hl 1 rfl) ?_
    refine x_iald hx hb hK hP 7 (Q_a3 hRr) (by first | omega | decide | assumption) (by decide) dX3_canRunIn_20 (v := nI (r 3 u)) rfl ?_
    refine n_icmp_gt (tgt := 28) hx hb dX3_canRunIn_21 (by decide) (hBr _ _ (by decide)) (hBr _ _ (by decide)) (fun c_21 => ?_) (fun c_21 => ?_)
    · refine lv_iconst (v := nI 0) hx hb dX3_canRunIn_28 (by decide) ?_
      refine lv_istore_n (lv' := [(3, .int (nI 0)), (0, .ref (G 3)), (1, .int (nI u)), (2, .int (nI f))]) hx hb dX3_canRunIn_29 rfl hl (by decide) rfl (fun ls hl => ?_)
      refine lv_iconst (v := nI 0) hx hb dX3_canRunIn_30 (by decide) ?_
      refine lv_istore (lv' := [(4, .int (nI 0)), (3, .int (nI 0)), (0, .ref (G 3)), (1, .int (nI u)), (2, .int (nI f))]) hx hb dX3_canRunIn_31 hl (by decide) rfl (fun ls hl => ?_)
      have L33 : ∀ (d i : Nat), r 30 0 - i < d → i ≤ r 30 0 → ∀ (H : Heap) (locs : List Loc) (wl : va_W) (ls : Array Slot), Rc G c wl → Rr G r wl → Ro G o wl → va_P D vwCl wl H → va_D (fun q => h0 ≤ q) wl → va_S (fun q => h0 ≤ q) s.heap H locs → lv_has ls 6 [(4, .int (nI i)), (3, .int (nI (bN (cnP r u (tb f) i)))), (0, .ref (G 3)), (1, .int (nI u)), (2, .int (nI f))] → W p l e (headSpec wsX3_canRunIn ({ frames := 1, cells := 0, slots := 0, locals := 21 } : Room)).room s m ([.ref (G 3), .int (nI u), .int (nI f)] : List Value).toArray below meth cd H locs 0 0 Q (F0 m 33 ls []) := by
        intro d33
        induction d33 with
        | zero => intro i hd; exact absurd hd (Nat.not_lt_zero _)
        | succ d33 ih33 =>
          intro i hd hi  H locs wl ls hRc hRr hRo hP hD hS hl
          refine lv_iload hx hb dX3_canRunIn_33 (lv_at hl 0 rfl) ?_
          refine lv_aload_n hx hb dX3_canRunIn_35 rfl (lv_at hl 2 rfl) ?_
          refine va_get (D := D) (ci := 4) (v := .int (nI (r 30 0))) (C := RX3) (T := TX3) (N := 23) hx hb hts inX3 hown hK hP 3 (Q_m hRr) rfl 0 (by decide) (hts (.fieldLink RX3 60 "BootStageModel" "units" "I") (by decide +kernel)) (fun _ h9 => h9) rfl dX3_canRunIn_36 ?_
          refine n_icmp_ge (tgt := 120) hx hb dX3_canRunIn_39 (by decide) (by omega) (hBr _ _ (by decide)) (fun c_39 => ?_) (fun c_39 => ?_)
          · refine lv_iload_n hx hb dX3_canRunIn_120 rfl (lv_at hl 1 rfl) ?_
            rw [hQ]
            exact W.zret (v := nI (bN (cnP r u (tb f) i))) (ty := .boolean) hx hb hr (nb_le (by first | exact bN_le _ | decide | omega | assumption)) (fun t ht hW => ⟨⟨_, (), rfl, (show nI (bN (cnP r u (tb f) i)) = nI (bN (cnP r u (tb f) (r 30 0))) from by rw [show i = r 30 0 by omega]), Wr_mk hRc hRr hRo hP hD ht⟩, hS.F ht⟩) hS.2.2 dX3_canRunIn_121
          · refine lv_iload_n hx hb dX3_canRunIn_42 rfl (lv_at hl 4 rfl) ?_
            refine lv_iload hx hb dX3_canRunIn_43 (lv_at hl 0 rfl) ?_
            refine n_ishr hx hb dX3_canRunIn_45 (Nat.lt_trans hf (by decide)) (by omega) ?_
            refine lv_iconst (v := nI 1) hx hb dX3_canRunIn_46 (by decide) ?_
            refine n_iand hx hb dX3_canRunIn_47 ?_
            refine lv_iconst (v := nI 1) hx hb dX3_canRunIn_48 (by decide) ?_
            refine n_icmp_eq (tgt := 78) hx hb dX3_canRunIn_49 (by decide) (Nat.lt_of_le_of_lt Nat.and_le_right (by decide)) (by decide) (fun c_49 => ?_) (fun c_49 => ?_)
            · refine lv_iconst (v := nI 1) hx hb dX3_canRunIn_78 (by decide) ?_
              refine lv_goto (tgt := 83) hx hb dX3_canRunIn_79 (by decide) ?_
              refine lv_istore (lv' := [(5, .int (nI 1)), (4, .int (nI i)), (3, .int (nI (bN (cnP r u (tb f) i)))), (0, .ref (G 3)), (1, .int (nI u)), (2, .int (nI f))]) hx hb dX3_canRunIn_83 hl (by decide) rfl (fun ls hl => ?_)
              refine lv_iload_n hx hb dX3_canRunIn_85 rfl (lv_at hl 2 rfl) ?_
              refine n_ifb_eq (tgt := 112) hx hb dX3_canRunIn_86 (by decide) (fun c_86 => ?_) (fun c_86 => ?_)
              · refine lv_iconst (v := nI 0) hx hb dX3_canRunIn_112 (by decide) ?_
                refine lv_istore_n (lv' := [(3, .int (nI 0)), (5, .int (nI 1)), (4, .int (nI i)), (0, .ref (G 3)), (1, .int (nI u)), (2, .int (nI f))]) hx hb dX3_canRunIn_113 rfl hl (by decide) rfl (fun ls hl => ?_)
                refine lv_iinc (v := nI (i + 1)) (lv' := [(4, .int (nI (i + 1))), (3, .int (nI 0)), (5, .int (nI 1)), (0, .ref (G 3)), (1, .int (nI u)), (2, .int (nI f))]) hx hb dX3_canRunIn_114 hl (k := 2) rfl (nI_add i 1) (by decide) rfl (fun ls hl => ?_)
                refine lv_goto (tgt := 33) hx hb dX3_canRunIn_117 (by decide) ?_
                exact ih33 (i + 1) (by omega) (by omega)   _ _ _ _ hRc hRr hRo hP hD hS (show lv_has ls 6 [(4, .int (nI (i + 1))), (3, .int (nI (bN (cnP r u (tb f) (i + 1))))), (0, .ref (G 3)), (1, .int (nI u)), (2, .int (nI f))] from by rw [show ((.int (nI (bN (cnP r u (tb f) (i + 1)))) : Value)) = .int (nI 0) from by exact congrArg (fun z => Value.int (nI z)) (bN_f (cnP_f1 c_86))]; exact lv_sub hl [0, 1, 3, 4, 5] rfl)
              · refine lv_aload_n hx hb dX3_canRunIn_89 rfl (lv_at hl 3 rfl) ?_
                refine va_get (D := D) (ci := 4) (v := .ref (G 11)) (C := RX3) (T := TX3) (N := 23) hx hb hts inX3 hown hK hP 3 (Q_m hRr) rfl 7 (by decide) (hts (.fieldLink RX3 29 "BootStageModel" "needs" "[Z") (by decide +kernel)) (fun _ h9 => h9) rfl dX3_canRunIn_90 ?_
                refine lv_iload_n hx hb dX3_canRunIn_93 rfl (lv_at hl 4 rfl) ?_
                refine lv_iload hx hb dX3_canRunIn_94 (lv_at hl 1 rfl) ?_
                refine y_calli (va_runS (As := [.int (nI u), .int (nI i)]) (rest := [.ref (G 11)]) ⟨hx, hb, hml, hown, hts⟩ (k_X3_edge l D G h0 c r o u i) (va_cwS 2 hts gX3_canRunIn_X3_edge rfl rfl rfl (by decide +kernel) ⟨Nat.le_of_ble_eq_true rfl, Nat.le_of_ble_eq_true rfl⟩) ⟨fun a U g mk q => ⟨q.1, Pr_cg q.2⟩, fun U hU hW => ⟨rfl, Pr_mk hE hRc hRr hRo hP hD hS hU hW⟩⟩ rfl rfl hl.1 rfl (lv_room (Nat.le_of_ble_eq_true rfl)) dX3_canRunIn_96 ⟨Nat.le_of_ble_eq_true rfl, Nat.le_of_ble_eq_true rfl⟩) hS (fun v9 _ H locs wl hv9 hRc hRr hRo hP hD hS => ?_)
                refine n_top (y := .int (nI (20 * u + i))) (congrArg Value.int hv9) ?_
                clear hv9 v9
                refine x_zald hx hb hK hP 11 (Q_a7 hRr) (by first | omega | decide | assumption) (by decide) dX3_canRunIn_99 (v := nI (r 7 (20 * u + i))) rfl ?_
                refine n_if_eq (tgt := 108) hx hb dX3_canRunIn_100 (by decide) (hBr _ _ (by decide)) (fun c_100 => ?_) (fun c_100 => ?_)
                · refine lv_iconst (v := nI 1) hx hb dX3_canRunIn_108 (by decide) ?_
                  refine lv_goto (tgt := 113) hx hb dX3_canRunIn_109 (by decide) ?_
                  refine lv_istore_n (lv' := [(3, .int (nI 1)), (5, .int (nI 1)), (4, .int (nI i)), (0, .ref (G 3)), (1, .int (nI u)), (2, .int (nI f))]) hx hb dX3_canRunIn_113 rfl hl (by decide) rfl (fun ls hl => ?_)
                  refine lv_iinc (v := nI (i + 1)) (lv' := [(4, .int (nI (i + 1))), (3, .int (nI 1)), (5, .int (nI 1)), (0, .ref (G 3)), (1, .int (nI u)), (2, .int (nI f))]) hx hb dX3_canRunIn_114 hl (k := 2) rfl (nI_add i 1) (by decide) rfl (fun ls hl => ?_)
                  refine lv_goto (tgt := 33) hx hb dX3_canRunIn_117 (by decide) ?_
                  exact ih33 (i + 1) (by omega) (by omega)   _ _ _ _ hRc hRr hRo hP hD hS (show lv_has ls 6 [(4, .int (nI (i + 1))), (3, .int (nI (bN (cnP r u (tb f) (i + 1))))), (0, .ref (G 3)), (1, .int (nI u)), (2, .int (nI f))] from by rw [show ((.int (nI (bN (cnP r u (tb f) (i + 1)))) : Value)) = .int (nI 1) from by exact congrArg (fun z => Value.int (nI z)) (bN_t (cnP_t c_86 (Or.inl c_100)))]; exact lv_sub hl [0, 1, 3, 4, 5] rfl)
                · refine lv_iload hx hb dX3_canRunIn_103 (lv_at hl 0 rfl) ?_
                  refine n_if_eq (tgt := 112) hx hb dX3_canRunIn_105 (by decide) (by decide) (fun c_105 => absurd c_105 (by decide)) (fun c_105 => ?_)
                  refine lv_iconst (v := nI 1) hx hb dX3_canRunIn_108 (by decide) ?_
                  refine lv_goto (tgt := 113) hx hb dX3_canRunIn_109 (by decide) ?_
                  refine lv_istore_n (lv' := [(3, .int (nI 1)), (5, .int (nI 1)), (4, .int (nI i)), (0, .ref (G 3)), (1, .int (nI u)), (2, .int (nI f))]) hx hb dX3_canRunIn_113 rfl hl (by decide) rfl (fun ls hl => ?_)
                  refine lv_iinc (v := nI (i + 1)) (lv' := [(4, .int (nI (i + 1))), (3, .int (nI 1)), (5, .int (nI 1)), (0, .ref (G 3)), (1, .int (nI u)), (2, .int (nI f))]) hx hb dX3_canRunIn_114 hl (k := 2) rfl (nI_add i 1) (by decide) rfl (fun ls hl => ?_)
                  refine lv_goto (tgt := 33) hx hb dX3_canRunIn_117 (by decide) ?_
                  exact ih33 (i + 1) (by omega) (by omega)   _ _ _ _ hRc hRr hRo hP hD hS (show lv_has ls 6 [(4, .int (nI (i + 1))), (3, .int (nI (bN (cnP r u (tb f) (i + 1))))), (0, .ref (G 3)), (1, .int (nI u)), (2, .int (nI f))] from by rw [show ((.int (nI (bN (cnP r u (tb f) (i + 1)))) : Value)) = .int (nI 1) from by exact congrArg (fun z => Value.int (nI z)) (bN_t (cnP_t c_86 (Or.inr (Or.inl (bit1.mp c_49)))))]; exact lv_sub hl [0, 1, 3, 4, 5] rfl)
            · refine lv_aload_n hx hb dX3_canRunIn_52 rfl (lv_at hl 2 rfl) ?_
              refine va_get (D := D) (ci := 4) (v := .ref (G 9)) (C := RX3) (T := TX3) (N := 23) hx hb hts inX3 hown hK hP 3 (Q_m hRr) rfl 5 (by decide) (hts (.fieldLink RX3 22 "BootStageModel" "standIns" "[I") (by decide +kernel)) (fun _ h9 => h9) rfl dX3_canRunIn_53 ?_
              refine lv_iload hx hb dX3_canRunIn_56 (lv_at hl 0 rfl) ?_
              refine x_iald hx hb hK hP 9 (Q_a5 hRr) (by first | omega | decide | assumption) (by decide) dX3_canRunIn_58 (v := siI (r 5 i)) rfl ?_
              rcases (show r 5 i = 0 ∨ ∃ w, r 5 i = w + 1 from by cases h9 : r 5 i with | zero => exact Or.inl rfl | succ w => exact Or.inr ⟨w, rfl⟩) with hz_58 | ⟨w_58, hz_58⟩
              · refine n_top (y := .int (-1)) (congrArg Value.int (by rw [hz_58]; exact siI_0)) ?_
                refine lv_iconst (v := (-1)) hx hb dX3_canRunIn_59 (by decide) ?_
                refine lv_icmp_eq (tgt := 82) hx hb dX3_canRunIn_60 (by decide) (fun c_60 => ?_) (fun c_60 => absurd c_60 (by decide))
                refine lv_iconst (v := nI 0) hx hb dX3_canRunIn_82 (by decide) ?_
                refine lv_istore (lv' := [(5, .int (nI 0)), (4, .int (nI i)), (3, .int (nI (bN (cnP r u (tb f) i)))), (0, .ref (G 3)), (1, .int (nI u)), (2, .int (nI f))]) hx hb dX3_canRunIn_83 hl (by decide) rfl (fun ls hl => ?_)
                refine lv_iload_n hx hb dX3_canRunIn_85 rfl (lv_at hl 2 rfl) ?_
                refine n_ifb_eq (tgt := 112) hx hb dX3_canRunIn_86 (by decide) (fun c_86 => ?_) (fun c_86 => ?_)
                · refine lv_iconst (v := nI 0) hx hb dX3_canRunIn_112 (by decide) ?_
                  refine lv_istore_n (lv' := [(3, .int (nI 0)), (5, .int (nI 0)), (4, .int (nI i)), (0, .ref (G 3)), (1, .int (nI u)), (2, .int (nI f))]) hx hb dX3_canRunIn_113 rfl hl (by decide) rfl (fun ls hl => ?_)
                  refine lv_iinc (v := nI (i + 1)) (lv' := [(4, .int (nI (i + 1))), (3, .int (nI 0)), (5, .int (nI 0)), (0, .ref (G 3)), (1, .int (nI u)), (2, .int (nI f))]) hx hb dX3_canRunIn_114 hl (k := 2) rfl (nI_add i 1) (by decide) rfl (fun ls hl => ?_)
                  refine lv_goto (tgt := 33) hx hb dX3_canRunIn_117 (by decide) ?_
                  exact ih33 (i + 1) (by omega) (by omega)   _ _ _ _ hRc hRr hRo hP hD hS (show lv_has ls 6 [(4, .int (nI (i + 1))), (3, .int (nI (bN (cnP r u (tb f) (i + 1))))), (0, .ref (G 3)), (1, .int (nI u)), (2, .int (nI f))] from by rw [show ((.int (nI (bN (cnP r u (tb f) (i + 1)))) : Value)) = .int (nI 0) from by exact congrArg (fun z => Value.int (nI z)) (bN_f (cnP_f1 c_86))]; exact lv_sub hl [0, 1, 3, 4, 5] rfl)
                · refine lv_aload_n hx hb dX3_canRunIn_89 rfl (lv_at hl 3 rfl) ?_
                  refine va_get (D := D) (ci := 4) (v := .ref (G 11)) (C := RX3) (T := TX3) (N := 23) hx hb hts inX3 hown hK hP 3 (Q_m hRr) rfl 7 (by decide) (hts (.fieldLink RX3 29 "BootStageModel" "needs" "[Z") (by decide +kernel)) (fun _ h9 => h9) rfl dX3_canRunIn_90 ?_
                  refine lv_iload_n hx hb dX3_canRunIn_93 rfl (lv_at hl 4 rfl) ?_
                  refine lv_iload hx hb dX3_canRunIn_94 (lv_at hl 1 rfl) ?_
                  refine y_calli (va_runS (As := [.int (nI u), .int (nI i)]) (rest := [.ref (G 11)]) ⟨hx, hb, hml, hown, hts⟩ (k_X3_edge l D G h0 c r o u i) (va_cwS 2 hts gX3_canRunIn_X3_edge rfl rfl rfl (by decide +kernel) ⟨Nat.le_of_ble_eq_true rfl, Nat.le_of_ble_eq_true rfl⟩) ⟨fun a U g mk q => ⟨q.1, Pr_cg q.2⟩, fun U hU hW => ⟨rfl, Pr_mk hE hRc hRr hRo hP hD hS hU hW⟩⟩ rfl rfl hl.1 rfl (lv_room (Nat.le_of_ble_eq_true rfl)) dX3_canRunIn_96 ⟨Nat.le_of_ble_eq_true rfl, Nat.le_of_ble_eq_true rfl⟩) hS (fun v9 _ H locs wl hv9 hRc hRr hRo hP hD hS => ?_)
                  refine n_top (y := .int (nI (20 * u + i))) (congrArg Value.int hv9) ?_
                  clear hv9 v9
                  refine x_zald hx hb hK hP 11 (Q_a7 hRr) (by first | omega | decide | assumption) (by decide) dX3_canRunIn_99 (v := nI (r 7 (20 * u + i))) rfl ?_
                  refine n_if_eq (tgt := 108) hx hb dX3_canRunIn_100 (by decide) (hBr _ _ (by decide)) (fun c_100 => ?_) (fun c_100 => ?_)
                  · refine lv_iconst (v := nI 1) hx hb dX3_canRunIn_108 (by decide) ?_
                    refine lv_goto (tgt := 113) hx hb dX3_canRunIn_109 (by decide) ?_
                    refine lv_istore_n (lv' := [(3, .int (nI 1)), (5, .int (nI 0)), (4, .int (nI i)), (0, .ref (G 3)), (1, .int (nI u)), (2, .int (nI f))]) hx hb dX3_canRunIn_113 rfl hl (by decide) rfl (fun ls hl => ?_)
                    refine lv_iinc (v := nI (i + 1)) (lv' := [(4, .int (nI (i + 1))), (3, .int (nI 1)), (5, .int (nI 0)), (0, .ref (G 3)), (1, .int (nI u)), (2, .int (nI f))]) hx hb dX3_canRunIn_114 hl (k := 2) rfl (nI_add i 1) (by decide) rfl (fun ls hl => ?_)
                    refine lv_goto (tgt := 33) hx hb dX3_canRunIn_117 (by decide) ?_
                    exact ih33 (i + 1) (by omega) (by omega)   _ _ _ _ hRc hRr hRo hP hD hS (show lv_has ls 6 [(4, .int (nI (i + 1))), (3, .int (nI (bN (cnP r u (tb f) (i + 1))))), (0, .ref (G 3)), (1, .int (nI u)), (2, .int (nI f))] from by rw [show ((.int (nI (bN (cnP r u (tb f) (i + 1)))) : Value)) = .int (nI 1) from by exact congrArg (fun z => Value.int (nI z)) (bN_t (cnP_t c_86 (Or.inl c_100)))]; exact lv_sub hl [0, 1, 3, 4, 5] rfl)
                  · refine lv_iload hx hb dX3_canRunIn_103 (lv_at hl 0 rfl) ?_
                    refine n_if_eq (tgt := 112) hx hb dX3_canRunIn_105 (by decide) (by decide) (fun c_105 => ?_) (fun c_105 => absurd c_105 (by decide))
                    refine lv_iconst (v := nI 0) hx hb dX3_canRunIn_112 (by decide) ?_
                    refine lv_istore_n (lv' := [(3, .int (nI 0)), (5, .int (nI 0)), (4, .int (nI i)), (0, .ref (G 3)), (1, .int (nI u)), (2, .int (nI f))]) hx hb dX3_canRunIn_113 rfl hl (by decide) rfl (fun ls hl => ?_)
                    refine lv_iinc (v := nI (i + 1)) (lv' := [(4, .int (nI (i + 1))), (3, .int (nI 0)), (5, .int (nI 0)), (0, .ref (G 3)), (1, .int (nI u)), (2, .int (nI f))]) hx hb dX3_canRunIn_114 hl (k := 2) rfl (nI_add i 1) (by decide) rfl (fun ls hl => ?_)
                    refine lv_goto (tgt := 33) hx hb dX3_canRunIn_117 (by decide) ?_
                    exact ih33 (i + 1) (by omega) (by omega)   _ _ _ _ hRc hRr hRo hP hD hS (show lv_has ls 6 [(4, .int (nI (i + 1))), (3, .int (nI (bN (cnP r u (tb f) (i + 1))))), (0, .ref (G 3)), (1, .int (nI u)), (2, .int (nI f))] from by rw [show ((.int (nI (bN (cnP r u (tb f) (i + 1)))) : Value)) = .int (nI 0) from by exact congrArg (fun z => Value.int (nI z)) (bN_f (cnP_f2 (Nat.ne_of_gt c_100) (fun q => q.elim (fun q => c_49 (bit1.mpr q)) (fun q => q.1 hz_58))))]; exact lv_sub hl [0, 1, 3, 4, 5] rfl)
              · have h_w_58 : w_58 < 20 := by have h9 := hs i; omega
                refine n_top (y := .int (nI w_58)) (congrArg Value.int (by rw [hz_58]; exact siI_s _)) ?_
                refine lv_iconst (v := (-1)) hx hb dX3_canRunIn_59 (by decide) ?_
                refine lv_icmp_eq (tgt := 82) hx hb dX3_canRunIn_60 (by decide) (fun c_60 => absurd c_60 (fun z => nI_pos (show w_58 < 2 ^ 31 from (by omega)) (by rw [z]; decide))) (fun c_60 => ?_)
                refine lv_iload_n hx hb dX3_canRunIn_63 rfl (lv_at hl 4 rfl) ?_
                refine lv_aload_n hx hb dX3_canRunIn_64 rfl (lv_at hl 2 rfl) ?_
                refine va_get (D := D) (ci := 4) (v := .ref (G 9)) (C := RX3) (T := TX3) (N := 23) hx hb hts inX3 hown hK hP 3 (Q_m hRr) rfl 5 (by decide) (hts (.fieldLink RX3 22 "BootStageModel" "standIns" "[I") (by decide +kernel)) (fun _ h9 => h9) rfl dX3_canRunIn_65 ?_
                refine lv_iload hx hb dX3_canRunIn_68 (lv_at hl 0 rfl) ?_
                refine x_iald hx hb hK hP 9 (Q_a5 hRr) (by first | omega | decide | assumption) (by decide) dX3_canRunIn_70 (v := siI (r 5 i)) rfl ?_
                refine n_top (y := .int (nI w_58)) (congrArg Value.int (by rw [hz_58]; exact siI_s _)) ?_
                refine n_ishr hx hb dX3_canRunIn_71 (Nat.lt_trans hf (by decide)) (by omega) ?_
                refine lv_iconst (v := nI 1) hx hb dX3_canRunIn_72 (by decide) ?_
                refine n_iand hx hb dX3_canRunIn_73 ?_
                refine lv_iconst (v := nI 1) hx hb dX3_canRunIn_74 (by decide) ?_
                refine n_icmp_ne (tgt := 82) hx hb dX3_canRunIn_75 (by decide) (Nat.lt_of_le_of_lt Nat.and_le_right (by decide)) (by decide) (fun c_75 => ?_) (fun c_75 => ?_)
                · refine lv_iconst (v := nI 0) hx hb dX3_canRunIn_82 (by decide) ?_
                  refine lv_istore (lv' := [(5, .int (nI 0)), (4, .int (nI i)), (3, .int (nI (bN (cnP r u (tb f) i)))), (0, .ref (G 3)), (1, .int (nI u)), (2, .int (nI f))]) hx hb dX3_canRunIn_83 hl (by decide) rfl (fun ls hl => ?_)
                  refine lv_iload_n hx hb dX3_canRunIn_85 rfl (lv_at hl 2 rfl) ?_
                  refine n_ifb_eq (tgt := 112) hx hb dX3_canRunIn_86 (by decide) (fun c_86 => ?_) (fun c_86 => ?_)
                  · refine lv_iconst (v := nI 0) hx hb dX3_canRunIn_112 (by decide) ?_
                    refine lv_istore_n (lv' := [(3, .int (nI 0)), (5, .int (nI 0)), (4, .int (nI i)), (0, .ref (G 3)), (1, .int (nI u)), (2, .int (nI f))]) hx hb dX3_canRunIn_113 rfl hl (by decide) rfl (fun ls hl => ?_)
                    refine lv_iinc (v := nI (i + 1)) (lv' := [(4, .int (nI (i + 1))), (3, .int (nI 0)), (5, .int (nI 0)), (0, .ref (G 3)), (1, .int (nI u)), (2, .int (nI f))]) hx hb dX3_canRunIn_114 hl (k := 2) rfl (nI_add i 1) (by decide) rfl (fun ls hl => ?_)
                    refine lv_goto (tgt := 33) hx hb dX3_canRunIn_117 (by decide) ?_
                    exact ih33 (i + 1) (by omega) (by omega)   _ _ _ _ hRc hRr hRo hP hD hS (show lv_has ls 6 [(4, .int (nI (i + 1))), (3, .int (nI (bN (cnP r u (tb f) (i + 1))))), (0, .ref (G 3)), (1, .int (nI u)), (2, .int (nI f))] from by rw [show ((.int (nI (bN (cnP r u (tb f) (i + 1)))) : Value)) = .int (nI 0) from by exact congrArg (fun z => Value.int (nI z)) (bN_f (cnP_f1 c_86))]; exact lv_sub hl [0, 1, 3, 4, 5] rfl)
                  · refine lv_aload_n hx hb dX3_canRunIn_89 rfl (lv_at hl 3 rfl) ?_
                    refine va_get (D := D) (ci := 4) (v := .ref (G 11)) (C := RX3) (T := TX3) (N := 23) hx hb hts inX3 hown hK hP 3 (Q_m hRr) rfl 7 (by decide) (hts (.fieldLink RX3 29 "BootStageModel" "needs" "[Z") (by decide +kernel)) (fun _ h9 => h9) rfl dX3_canRunIn_90 ?_
                    refine lv_iload_n hx hb dX3_canRunIn_93 rfl (lv_at hl 4 rfl) ?_
                    refine lv_iload hx hb dX3_canRunIn_94 (lv_at hl 1 rfl) ?_
                    refine y_calli (va_runS (As := [.int (nI u), .int (nI i)]) (rest := [.ref (G 11)]) ⟨hx, hb, hml, hown, hts⟩ (k_X3_edge l D G h0 c r o u i) (va_cwS 2 hts gX3_canRunIn_X3_edge rfl rfl rfl (by decide +kernel) ⟨Nat.le_of_ble_eq_true rfl, Nat.le_of_ble_eq_true rfl⟩) ⟨fun a U g mk q => ⟨q.1, Pr_cg q.2⟩, fun U hU hW => ⟨rfl, Pr_mk hE hRc hRr hRo hP hD hS hU hW⟩⟩ rfl rfl hl.1 rfl (lv_room (Nat.le_of_ble_eq_true rfl)) dX3_canRunIn_96 ⟨Nat.le_of_ble_eq_true rfl, Nat.le_of_ble_eq_true rfl⟩) hS (fun v9 _ H locs wl hv9 hRc hRr hRo hP hD hS => ?_)
                    refine n_top (y := .int (nI (20 * u + i))) (congrArg Value.int hv9) ?_
                    clear hv9 v9
                    refine x_zald hx hb hK hP 11 (Q_a7 hRr) (by first | omega | decide | assumption) (by decide) dX3_canRunIn_99 (v := nI (r 7 (20 * u + i))) rfl ?_
                    refine n_if_eq (tgt := 108) hx hb dX3_canRunIn_100 (by decide) (hBr _ _ (by decide)) (fun c_100 => ?_) (fun c_100 => ?_)
                    · refine lv_iconst (v := nI 1) hx hb dX3_canRunIn_108 (by decide) ?_
                      refine lv_goto (tgt := 113) hx hb dX3_canRunIn_109 (by decide) ?_
                      refine lv_istore_n (lv' := [(3, .int (nI 1)), (5, .int (nI 0)), (4, .int (nI i)), (0, .ref (G 3)), (1, .int (nI u)), (2, .int (nI f))]) hx hb dX3_canRunIn_113 rfl hl (by decide) rfl (fun ls hl => ?_)
                      refine lv_iinc (v := nI (i + 1)) (lv' := [(4, .int (nI (i + 1))), (3, .int (nI 1)), (5, .int (nI 0)), (0, .ref (G 3)), (1, .int (nI u)), (2, .int (nI f))]) hx hb dX3_canRunIn_114 hl (k := 2) rfl (nI_add i 1) (by decide) rfl (fun ls hl => ?_)
                      refine lv_goto (tgt := 33) hx hb dX3_canRunIn_117 (by decide) ?_
                      exact ih33 (i + 1) (by omega) (by omega)   _ _ _ _ hRc hRr hRo hP hD hS (show lv_has ls 6 [(4, .int (nI (i + 1))), (3, .int (nI (bN (cnP r u (tb f) (i + 1))))), (0, .ref (G 3)), (1, .int (nI u)), (2, .int (nI f))] from by rw [show ((.int (nI (bN (cnP r u (tb f) (i + 1)))) : Value)) = .int (nI 1) from by exact congrArg (fun z => Value.int (nI z)) (bN_t (cnP_t c_86 (Or.inl c_100)))]; exact lv_sub hl [0, 1, 3, 4, 5] rfl)
                    · refine lv_iload hx hb dX3_canRunIn_103 (lv_at hl 0 rfl) ?_
                      refine n_if_eq (tgt := 112) hx hb dX3_canRunIn_105 (by decide) (by decide) (fun c_105 => ?_) (fun c_105 => absurd c_105 (by decide))
                      refine lv_iconst (v := nI 0) hx hb dX3_canRunIn_112 (by decide) ?_
                      refine lv_istore_n (lv' := [(3, .int (nI 0)), (5, .int (nI 0)), (4, .int (nI i)), (0, .ref (G 3)), (1, .int (nI u)), (2, .int (nI f))]) hx hb dX3_canRunIn_113 rfl hl (by decide) rfl (fun ls hl => ?_)
                      refine lv_iinc (v := nI (i + 1)) (lv' := [(4, .int (nI (i + 1))), (3, .int (nI 0)), (5, .int (nI 0)), (0, .ref (G 3)), (1, .int (nI u)), (2, .int (nI f))]) hx hb dX3_canRunIn_114 hl (k := 2) rfl (nI_add i 1) (by decide) rfl (fun ls hl => ?_)
                      refine lv_goto (tgt := 33) hx hb dX3_canRunIn_117 (by decide) ?_
                      exact ih33 (i + 1) (by omega) (by omega)   _ _ _ _ hRc hRr hRo hP hD hS (show lv_has ls 6 [(4, .int (nI (i + 1))), (3, .int (nI (bN (cnP r u (tb f) (i + 1))))), (0, .ref (G 3)), (1, .int (nI u)), (2, .int (nI f))] from by rw [show ((.int (nI (bN (cnP r u (tb f) (i + 1)))) : Value)) = .int (nI 0) from by exact congrArg (fun z => Value.int (nI z)) (bN_f (cnP_f2 (Nat.ne_of_gt c_100) (fun q => q.elim (fun q => c_49 (bit1.mpr q)) (fun q => c_75 (bit1.mpr (by have q2 := q.2; rwa [hz_58, Nat.add_sub_cancel] at q2))))))]; exact lv_sub hl [0, 1, 3, 4, 5] rfl)
                · refine lv_iconst (v := nI 1) hx hb dX3_canRunIn_78 (by decide) ?_
                  refine lv_goto (tgt := 83) hx hb dX3_canRunIn_79 (by decide) ?_
                  refine lv_istore (lv' := [(5, .int (nI 1)), (4, .int (nI i)), (3, .int (nI (bN (cnP r u (tb f) i)))), (0, .ref (G 3)), (1, .int (nI u)), (2, .int (nI f))]) hx hb dX3_canRunIn_83 hl (by decide) rfl (fun ls hl => ?_)
                  refine lv_iload_n hx hb dX3_canRunIn_85 rfl (lv_at hl 2 rfl) ?_
                  refine n_ifb_eq (tgt := 112) hx hb dX3_canRunIn_86 (by decide) (fun c_86 => ?_) (fun c_86 => ?_)
                  · refine lv_iconst (v := nI 0) hx hb dX3_canRunIn_112 (by decide) ?_
                    refine lv_istore_n (lv' := [(3, .int (nI 0)), (5, .int (nI 1)), (4, .int (nI i)), (0, .ref (G 3)), (1, .int (nI u)), (2, .int (nI f))]) hx hb dX3_canRunIn_113 rfl hl (by decide) rfl (fun ls hl => ?_)
                    refine lv_iinc (v := nI (i + 1)) (lv' := [(4, .int (nI (i + 1))), (3, .int (nI 0)), (5, .int (nI 1)), (0, .ref (G 3)), (1, .int (nI u)), (2, .int (nI f))]) hx hb dX3_canRunIn_114 hl (k := 2) rfl (nI_add i 1) (by decide) rfl (fun ls hl => ?_)
                    refine lv_goto (tgt := 33) hx hb dX3_canRunIn_117 (by decide) ?_
                    exact ih33 (i + 1) (by omega) (by omega)   _ _ _ _ hRc hRr hRo hP hD hS (show lv_has ls 6 [(4, .int (nI (i + 1))), (3, .int (nI (bN (cnP r u (tb f) (i + 1))))), (0, .ref (G 3)), (1, .int (nI u)), (2, .int (nI f))] from by rw [show ((.int (nI (bN (cnP r u (tb f) (i + 1)))) : Value)) = .int (nI 0) from by exact congrArg (fun z => Value.int (nI z)) (bN_f (cnP_f1 c_86))]; exact lv_sub hl [0, 1, 3, 4, 5] rfl)
                  · refine lv_aload_n hx hb dX3_canRunIn_89 rfl (lv_at hl 3 rfl) ?_
                    refine va_get (D := D) (ci := 4) (v := .ref (G 11)) (C := RX3) (T := TX3) (N := 23) hx hb hts inX3 hown hK hP 3 (Q_m hRr) rfl 7 (by decide) (hts (.fieldLink RX3 29 "BootStageModel" "needs" "[Z") (by decide +kernel)) (fun _ h9 => h9) rfl dX3_canRunIn_90 ?_
                    refine lv_iload_n hx hb dX3_canRunIn_93 rfl (lv_at hl 4 rfl) ?_
                    refine lv_iload hx hb dX3_canRunIn_94 (lv_at hl 1 rfl) ?_
                    refine y_calli (va_runS (As := [.int (nI u), .int (nI i)]) (rest := [.ref (G 11)]) ⟨hx, hb, hml, hown, hts⟩ (k_X3_edge l D G h0 c r o u i) (va_cwS 2 hts gX3_canRunIn_X3_edge rfl rfl rfl (by decide +kernel) ⟨Nat.le_of_ble_eq_true rfl, Nat.le_of_ble_eq_true rfl⟩) ⟨fun a U g mk q => ⟨q.1, Pr_cg q.2⟩, fun U hU hW => ⟨rfl, Pr_mk hE hRc hRr hRo hP hD hS hU hW⟩⟩ rfl rfl hl.1 rfl (lv_room (Nat.le_of_ble_eq_true rfl)) dX3_canRunIn_96 ⟨Nat.le_of_ble_eq_true rfl, Nat.le_of_ble_eq_true rfl⟩) hS (fun v9 _ H locs wl hv9 hRc hRr hRo hP hD hS => ?_)
                    refine n_top (y := .int (nI (20 * u + i))) (congrArg Value.int hv9) ?_
                    clear hv9 v9
                    refine x_zald hx hb hK hP 11 (Q_a7 hRr) (by first | omega | decide | assumption) (by decide) dX3_canRunIn_99 (v := nI (r 7 (20 * u + i))) rfl ?_
                    refine n_if_eq (tgt := 108) hx hb dX3_canRunIn_100 (by decide) (hBr _ _ (by decide)) (fun c_100 => ?_) (fun c_100 => ?_)
                    · refine lv_iconst (v := nI 1) hx hb dX3_canRunIn_108 (by decide) ?_
                      refine lv_goto (tgt := 113) hx hb dX3_canRunIn_109 (by decide) ?_
                      refine lv_istore_n (lv' := [(3, .int (nI 1)), (5, .int (nI 1)), (4, .int (nI i)), (0, .ref (G 3)), (1, .int (nI u)), (2, .int (nI f))]) hx hb dX3_canRunIn_113 rfl hl (by decide) rfl (fun ls hl => ?_)
                      refine lv_iinc (v := nI (i + 1)) (lv' := [(4, .int (nI (i + 1))), (3, .int (nI 1)), (5, .int (nI 1)), (0, .ref (G 3)), (1, .int (nI u)), (2, .int (nI f))]) hx hb dX3_canRunIn_114 hl (k := 2) rfl (nI_add i 1) (by decide) rfl (fun ls hl => ?_)
                      refine lv_goto (tgt := 33) hx hb dX3_canRunIn_117 (by decide) ?_
                      exact ih33 (i + 1) (by omega) (by omega)   _ _ _ _ hRc hRr hRo hP hD hS (show lv_has ls 6 [(4, .int (nI (i + 1))), (3, .int (nI (bN (cnP r u (tb f) (i + 1))))), (0, .ref (G 3)), (1, .int (nI u)), (2, .int (nI f))] from by rw [show ((.int (nI (bN (cnP r u (tb f) (i + 1)))) : Value)) = .int (nI 1) from by exact congrArg (fun z => Value.int (nI z)) (bN_t (cnP_t c_86 (Or.inl c_100)))]; exact lv_sub hl [0, 1, 3, 4, 5] rfl)
                    · refine lv_iload hx hb dX3_canRunIn_103 (lv_at hl 0 rfl) ?_
                      refine n_if_eq (tgt := 112) hx hb dX3_canRunIn_105 (by decide) (by decide) (fun c_105 => absurd c_105 (by decide)) (fun c_105 => ?_)
                      refine lv_iconst (v := nI 1) hx hb dX3_canRunIn_108 (by decide) ?_
                      refine lv_goto (tgt := 113) hx hb dX3_canRunIn_109 (by decide) ?_
                      refine lv_istore_n (lv' := [(3, .int (nI 1)), (5, .int (nI 1)), (4, .int (nI i)), (0, .ref (G 3)), (1, .int (nI u)), (2, .int (nI f))]) hx hb dX3_canRunIn_113 rfl hl (by decide) rfl (fun ls hl => ?_)
                      refine lv_iinc (v := nI (i + 1)) (lv' := [(4, .int (nI (i + 1))), (3, .int (nI 1)), (5, .int (nI 1)), (0, .ref (G 3)), (1, .int (nI u)), (2, .int (nI f))]) hx hb dX3_canRunIn_114 hl (k := 2) rfl (nI_add i 1) (by decide) rfl (fun ls hl => ?_)
                      refine lv_goto (tgt := 33) hx hb dX3_canRunIn_117 (by decide) ?_
                      exact ih33 (i + 1) (by omega) (by omega)   _ _ _ _ hRc hRr hRo hP hD hS (show lv_has ls 6 [(4, .int (nI (i + 1))), (3, .int (nI (bN (cnP r u (tb f) (i + 1))))), (0, .ref (G 3)), (1, .int (nI u)), (2, .int (nI f))] from by rw [show ((.int (nI (bN (cnP r u (tb f) (i + 1)))) : Value)) = .int (nI 1) from by exact congrArg (fun z => Value.int (nI z)) (bN_t (cnP_t c_86 (Or.inr (Or.inr ⟨by omega, by rw [hz_58, Nat.add_sub_cancel]; exact bit1.mp c_75⟩))))]; exact lv_sub hl [0, 1, 3, 4, 5] rfl)
      exact L33 _ 0 (Nat.lt_succ_self _) (by omega)   _ _ _ _ hRc hRr hRo hP hD hS (show lv_has ls 6 [(4, .int (nI 0)), (3, .int (nI (bN (cnP r u (tb f) 0)))), (0, .ref (G 3)), (1, .int (nI u)), (2, .int (nI f))] from by rw [show ((.int (nI (bN (cnP r u (tb f) 0))) : Value)) = .int (nI 0) from by exact congrArg (fun z => Value.int (nI z)) (bN_f (fun q => by have h9 := q.1.2; omega))]; exact lv_sub hl [0, 1, 2, 3, 4] rfl)
    · refine lv_iconst (v := nI 1) hx hb dX3_canRunIn_24 (by decide) ?_
      refine lv_goto (tgt := 29) hx hb dX3_canRunIn_25 (by decide) ?_
      refine lv_istore_n (lv' := [(3, .int (nI 1)), (0, .ref (G 3)), (1, .int (nI u)), (2, .int (nI f))]) hx hb dX3_canRunIn_29 rfl hl (by decide) rfl (fun ls hl => ?_)
      refine lv_iconst (v := nI 0) hx hb dX3_canRunIn_30 (by decide) ?_
      refine lv_istore (lv' := [(4, .int (nI 0)), (3, .int (nI 1)), (0, .ref (G 3)), (1, .int (nI u)), (2, .int (nI f))]) hx hb dX3_canRunIn_31 hl (by decide) rfl (fun ls hl => ?_)
      have L33 : ∀ (d i : Nat), r 30 0 - i < d → i ≤ r 30 0 → ∀ (H : Heap) (locs : List Loc) (wl : va_W) (ls : Array Slot), Rc G c wl → Rr G r wl → Ro G o wl → va_P D vwCl wl H → va_D (fun q => h0 ≤ q) wl → va_S (fun q => h0 ≤ q) s.heap H locs → lv_has ls 6 [(4, .int (nI i)), (3, .int (nI (bN (cnP r u (tb f) i)))), (0, .ref (G 3)), (1, .int (nI u)), (2, .int (nI f))] → W p l e (headSpec wsX3_canRunIn ({ frames := 1, cells := 0, slots := 0, locals := 21 } : Room)).room s m ([.ref (G 3), .int (nI u), .int (nI f)] : List Value).toArray below meth cd H locs 0 0 Q (F0 m 33 ls []) := by
        intro d33
        induction d33 with
        | zero => intro i hd; exact absurd hd (Nat.not_lt_zero _)
        | succ d33 ih33 =>
          intro i hd hi  H locs wl ls hRc hRr hRo hP hD hS hl
          refine lv_iload hx hb dX3_canRunIn_33 (lv_at hl 0 rfl) ?_
          refine lv_aload_n hx hb dX3_canRunIn_35 rfl (lv_at hl 2 rfl) ?_
          refine va_get (D := D) (ci := 4) (v := .int (nI (r 30 0))) (C := RX3) (T := TX3) (N := 23) hx hb hts inX3 hown hK hP 3 (Q_m hRr) rfl 0 (by decide) (hts (.fieldLink RX3 60 "BootStageModel" "units" "I") (by decide +kernel)) (fun _ h9 => h9) rfl dX3_canRunIn_36 ?_
          refine n_icmp_ge (tgt := 120) hx hb dX3_canRunIn_39 (by decide) (by omega) (hBr _ _ (by decide)) (fun c_39 => ?_) (fun c_39 => ?_)
          · refine lv_iload_n hx hb dX3_canRunIn_120 rfl (lv_at hl 1 rfl) ?_
            rw [hQ]
            exact W.zret (v := nI (bN (cnP r u (tb f) i))) (ty := .boolean) hx hb hr (nb_le (by first | exact bN_le _ | decide | omega | assumption)) (fun t ht hW => ⟨⟨_, (), rfl, (show nI (bN (cnP r u (tb f) i)) = nI (bN (cnP r u (tb f) (r 30 0))) from by rw [show i = r 30 0 by omega]), Wr_mk hRc hRr hRo hP hD ht⟩, hS.F ht⟩) hS.2.2 dX3_canRunIn_121
          · refine lv_iload_n hx hb dX3_canRunIn_42 rfl (lv_at hl 4 rfl) ?_
            refine lv_iload hx hb dX3_canRunIn_43 (lv_at hl 0 rfl) ?_
            refine n_ishr hx hb dX3_canRunIn_45 (Nat.lt_trans hf (by decide)) (by omega) ?_
            refine lv_iconst (v := nI 1) hx hb dX3_canRunIn_46 (by decide) ?_
            refine n_iand hx hb dX3_canRunIn_47 ?_
            refine lv_iconst (v := nI 1) hx hb dX3_canRunIn_48 (by decide) ?_
            refine n_icmp_eq (tgt := 78) hx hb dX3_canRunIn_49 (by decide) (Nat.lt_of_le_of_lt Nat.and_le_right (by decide)) (by decide) (fun c_49 => ?_) (fun c_49 => ?_)
            · refine lv_iconst (v := nI 1) hx hb dX3_canRunIn_78 (by decide) ?_
              refine lv_goto (tgt := 83) hx hb dX3_canRunIn_79 (by decide) ?_
              refine lv_istore (lv' := [(5, .int (nI 1)), (4, .int (nI i)), (3, .int (nI (bN (cnP r u (tb f) i)))), (0, .ref (G 3)), (1, .int (nI u)), (2, .int (nI f))]) hx hb dX3_canRunIn_83 hl (by decide) rfl (fun ls hl => ?_)
              refine lv_iload_n hx hb dX3_canRunIn_85 rfl (lv_at hl 2 rfl) ?_
              refine n_ifb_eq (tgt := 112) hx hb dX3_canRunIn_86 (by decide) (fun c_86 => ?_) (fun c_86 => ?_)
              · refine lv_iconst (v := nI 0) hx hb dX3_canRunIn_112 (by decide) ?_
                refine lv_istore_n (lv' := [(3, .int (nI 0)), (5, .int (nI 1)), (4, .int (nI i)), (0, .ref (G 3)), (1, .int (nI u)), (2, .int (nI f))]) hx hb dX3_canRunIn_113 rfl hl (by decide) rfl (fun ls hl => ?_)
                refine lv_iinc (v := nI (i + 1)) (lv' := [(4, .int (nI (i + 1))), (3, .int (nI 0)), (5, .int (nI 1)), (0, .ref (G 3)), (1, .int (nI u)), (2, .int (nI f))]) hx hb dX3_canRunIn_114 hl (k := 2) rfl (nI_add i 1) (by decide) rfl (fun ls hl => ?_)
                refine lv_goto (tgt := 33) hx hb dX3_canRunIn_117 (by decide) ?_
                exact ih33 (i + 1) (by omega) (by omega)   _ _ _ _ hRc hRr hRo hP hD hS (show lv_has ls 6 [(4, .int (nI (i + 1))), (3, .int (nI (bN (cnP r u (tb f) (i + 1))))), (0, .ref (G 3)), (1, .int (nI u)), (2, .int (nI f))] from by rw [show ((.int (nI (bN (cnP r u (tb f) (i + 1)))) : Value)) = .int (nI 0) from by exact congrArg (fun z => Value.int (nI z)) (bN_f (cnP_f1 c_86))]; exact lv_sub hl [0, 1, 3, 4, 5] rfl)
              · refine lv_aload_n hx hb dX3_canRunIn_89 rfl (lv_at hl 3 rfl) ?_
                refine va_get (D := D) (ci := 4) (v := .ref (G 11)) (C := RX3) (T := TX3) (N := 23) hx hb hts inX3 hown hK hP 3 (Q_m hRr) rfl 7 (by decide) (hts (.fieldLink RX3 29 "BootStageModel" "needs" "[Z") (by decide +kernel)) (fun _ h9 => h9) rfl dX3_canRunIn_90 ?_
                refine lv_iload_n hx hb dX3_canRunIn_93 rfl (lv_at hl 4 rfl) ?_
                refine lv_iload hx hb dX3_canRunIn_94 (lv_at hl 1 rfl) ?_
                refine y_calli (va_runS (As := [.int (nI u), .int (nI i)]) (rest := [.ref (G 11)]) ⟨hx, hb, hml, hown, hts⟩ (k_X3_edge l D G h0 c r o u i) (va_cwS 2 hts gX3_canRunIn_X3_edge rfl rfl rfl (by decide +kernel) ⟨Nat.le_of_ble_eq_true rfl, Nat.le_of_ble_eq_true rfl⟩) ⟨fun a U g mk q => ⟨q.1, Pr_cg q.2⟩, fun U hU hW => ⟨rfl, Pr_mk hE hRc hRr hRo hP hD hS hU hW⟩⟩ rfl rfl hl.1 rfl (lv_room (Nat.le_of_ble_eq_true rfl)) dX3_canRunIn_96 ⟨Nat.le_of_ble_eq_true rfl, Nat.le_of_ble_eq_true rfl⟩) hS (fun v9 _ H locs wl hv9 hRc hRr hRo hP hD hS => ?_)
                refine n_top (y := .int (nI (20 * u + i))) (congrArg Value.int hv9) ?_
                clear hv9 v9
                refine x_zald hx hb hK hP 11 (Q_a7 hRr) (by first | omega | decide | assumption) (by decide) dX3_canRunIn_99 (v := nI (r 7 (20 * u + i))) rfl ?_
                refine n_if_eq (tgt := 108) hx hb dX3_canRunIn_100 (by decide) (hBr _ _ (by decide)) (fun c_100 => ?_) (fun c_100 => ?_)
                · refine lv_iconst (v := nI 1) hx hb dX3_canRunIn_108 (by decide) ?_
                  refine lv_goto (tgt := 113) hx hb dX3_canRunIn_109 (by decide) ?_
                  refine lv_istore_n (lv' := [(3, .int (nI 1)), (5, .int (nI 1)), (4, .int (nI i)), (0, .ref (G 3)), (1, .int (nI u)), (2, .int (nI f))]) hx hb dX3_canRunIn_113 rfl hl (by decide) rfl (fun ls hl => ?_)
                  refine lv_iinc (v := nI (i + 1)) (lv' := [(4, .int (nI (i + 1))), (3, .int (nI 1)), (5, .int (nI 1)), (0, .ref (G 3)), (1, .int (nI u)), (2, .int (nI f))]) hx hb dX3_canRunIn_114 hl (k := 2) rfl (nI_add i 1) (by decide) rfl (fun ls hl => ?_)
                  refine lv_goto (tgt := 33) hx hb dX3_canRunIn_117 (by decide) ?_
                  exact ih33 (i + 1) (by omega) (by omega)   _ _ _ _ hRc hRr hRo hP hD hS (show lv_has ls 6 [(4, .int (nI (i + 1))), (3, .int (nI (bN (cnP r u (tb f) (i + 1))))), (0, .ref (G 3)), (1, .int (nI u)), (2, .int (nI f))] from by rw [show ((.int (nI (bN (cnP r u (tb f) (i + 1)))) : Value)) = .int (nI 1) from by exact congrArg (fun z => Value.int (nI z)) (bN_t (cnP_t c_86 (Or.inl c_100)))]; exact lv_sub hl [0, 1, 3, 4, 5] rfl)
                · refine lv_iload hx hb dX3_canRunIn_103 (lv_at hl 0 rfl) ?_
                  refine n_if_eq (tgt := 112) hx hb dX3_canRunIn_105 (by decide) (by decide) (fun c_105 => absurd c_105 (by decide)) (fun c_105 => ?_)
                  refine lv_iconst (v := nI 1) hx hb dX3_canRunIn_108 (by decide) ?_
                  refine lv_goto (tgt := 113) hx hb dX3_canRunIn_109 (by decide) ?_
                  refine lv_istore_n (lv' := [(3, .int (nI 1)), (5, .int (nI 1)), (4, .int (nI i)), (0, .ref (G 3)), (1, .int (nI u)), (2, .int (nI f))]) hx hb dX3_canRunIn_113 rfl hl (by decide) rfl (fun ls hl => ?_)
                  refine lv_iinc (v := nI (i + 1)) (lv' := [(4, .int (nI (i + 1))), (3, .int (nI 1)), (5, .int (nI 1)), (0, .ref (G 3)), (1, .int (nI u)), (2, .int (nI f))]) hx hb dX3_canRunIn_114 hl (k := 2) rfl (nI_add i 1) (by decide) rfl (fun ls hl => ?_)
                  refine lv_goto (tgt := 33) hx hb dX3_canRunIn_117 (by decide) ?_
                  exact ih33 (i + 1) (by omega) (by omega)   _ _ _ _ hRc hRr hRo hP hD hS (show lv_has ls 6 [(4, .int (nI (i + 1))), (3, .int (nI (bN (cnP r u (tb f) (i + 1))))), (0, .ref (G 3)), (1, .int (nI u)), (2, .int (nI f))] from by rw [show ((.int (nI (bN (cnP r u (tb f) (i + 1)))) : Value)) = .int (nI 1) from by exact congrArg (fun z => Value.int (nI z)) (bN_t (cnP_t c_86 (Or.inr (Or.inl (bit1.mp c_49)))))]; exact lv_sub hl [0, 1, 3, 4, 5] rfl)
            · refine lv_aload_n hx hb dX3_canRunIn_52 rfl (lv_at hl 2 rfl) ?_
              refine va_get (D := D) (ci := 4) (v := .ref (G 9)) (C := RX3) (T := TX3) (N := 23) hx hb hts inX3 hown hK hP 3 (Q_m hRr) rfl 5 (by decide) (hts (.fieldLink RX3 22 "BootStageModel" "standIns" "[I") (by decide +kernel)) (fun _ h9 => h9) rfl dX3_canRunIn_53 ?_
              refine lv_iload hx hb dX3_canRunIn_56 (lv_at hl 0 rfl) ?_
              refine x_iald hx hb hK hP 9 (Q_a5 hRr) (by first | omega | decide | assumption) (by decide) dX3_canRunIn_58 (v := siI (r 5 i)) rfl ?_
              rcases (show r 5 i = 0 ∨ ∃ w, r 5 i = w + 1 from by cases h9 : r 5 i with | zero => exact Or.inl rfl | succ w => exact Or.inr ⟨w, rfl⟩) with hz_58 | ⟨w_58, hz_58⟩
              · refine n_top (y := .int (-1)) (congrArg Value.int (by rw [hz_58]; exact siI_0)) ?_
                refine lv_iconst (v := (-1)) hx hb dX3_canRunIn_59 (by decide) ?_
                refine lv_icmp_eq (tgt := 82) hx hb dX3_canRunIn_60 (by decide) (fun c_60 => ?_) (fun c_60 => absurd c_60 (by decide))
                refine lv_iconst (v := nI 0) hx hb dX3_canRunIn_82 (by decide) ?_
                refine lv_istore (lv' := [(5, .int (nI 0)), (4, .int (nI i)), (3, .int (nI (bN (cnP r u (tb f) i)))), (0, .ref (G 3)), (1, .int (nI u)), (2, .int (nI f))]) hx hb dX3_canRunIn_83 hl (by decide) rfl (fun ls hl => ?_)
                refine lv_iload_n hx hb dX3_canRunIn_85 rfl (lv_at hl 2 rfl) ?_
                refine n_ifb_eq (tgt := 112) hx hb dX3_canRunIn_86 (by decide) (fun c_86 => ?_) (fun c_86 => ?_)
                · refine lv_iconst (v := nI 0) hx hb dX3_canRunIn_112 (by decide) ?_
                  refine lv_istore_n (lv' := [(3, .int (nI 0)), (5, .int (nI 0)), (4, .int (nI i)), (0, .ref (G 3)), (1, .int (nI u)), (2, .int (nI f))]) hx hb dX3_canRunIn_113 rfl hl (by decide) rfl (fun ls hl => ?_)
                  refine lv_iinc (v := nI (i + 1)) (lv' := [(4, .int (nI (i + 1))), (3, .int (nI 0)), (5, .int (nI 0)), (0, .ref (G 3)), (1, .int (nI u)), (2, .int (nI f))]) hx hb dX3_canRunIn_114 hl (k := 2) rfl (nI_add i 1) (by decide) rfl (fun ls hl => ?_)
                  refine lv_goto (tgt := 33) hx hb dX3_canRunIn_117 (by decide) ?_
                  exact ih33 (i + 1) (by omega) (by omega)   _ _ _ _ hRc hRr hRo hP hD hS (show lv_has ls 6 [(4, .int (nI (i + 1))), (3, .int (nI (bN (cnP r u (tb f) (i + 1))))), (0, .ref (G 3)), (1, .int (nI u)), (2, .int (nI f))] from by rw [show ((.int (nI (bN (cnP r u (tb f) (i + 1)))) : Value)) = .int (nI 0) from by exact congrArg (fun z => Value.int (nI z)) (bN_f (cnP_f1 c_86))]; exact lv_sub hl [0, 1, 3, 4, 5] rfl)
                · refine lv_aload_n hx hb dX3_canRunIn_89 rfl (lv_at hl 3 rfl) ?_
                  refine va_get (D := D) (ci := 4) (v := .ref (G 11)) (C := RX3) (T := TX3) (N := 23) hx hb hts inX3 hown hK hP 3 (Q_m hRr) rfl 7 (by decide) (hts (.fieldLink RX3 29 "BootStageModel" "needs" "[Z") (by decide +kernel)) (fun _ h9 => h9) rfl dX3_canRunIn_90 ?_
                  refine lv_iload_n hx hb dX3_canRunIn_93 rfl (lv_at hl 4 rfl) ?_
                  refine lv_iload hx hb dX3_canRunIn_94 (lv_at hl 1 rfl) ?_
                  refine y_calli (va_runS (As := [.int (nI u), .int (nI i)]) (rest := [.ref (G 11)]) ⟨hx, hb, hml, hown, hts⟩ (k_X3_edge l D G h0 c r o u i) (va_cwS 2 hts gX3_canRunIn_X3_edge rfl rfl rfl (by decide +kernel) ⟨Nat.le_of_ble_eq_true rfl, Nat.le_of_ble_eq_true rfl⟩) ⟨fun a U g mk q => ⟨q.1, Pr_cg q.2⟩, fun U hU hW => ⟨rfl, Pr_mk hE hRc hRr hRo hP hD hS hU hW⟩⟩ rfl rfl hl.1 rfl (lv_room (Nat.le_of_ble_eq_true rfl)) dX3_canRunIn_96 ⟨Nat.le_of_ble_eq_true rfl, Nat.le_of_ble_eq_true rfl⟩) hS (fun v9 _ H locs wl hv9 hRc hRr hRo hP hD hS => ?_)
                  refine n_top (y := .int (nI (20 * u + i))) (congrArg Value.int hv9) ?_
                  clear hv9 v9
                  refine x_zald hx hb hK hP 11 (Q_a7 hRr) (by first | omega | decide | assumption) (by decide) dX3_canRunIn_99 (v := nI (r 7 (20 * u + i))) rfl ?_
                  refine n_if_eq (tgt := 108) hx hb dX3_canRunIn_100 (by decide) (hBr _ _ (by decide)) (fun c_100 => ?_) (fun c_100 => ?_)
                  · refine lv_iconst (v := nI 1) hx hb dX3_canRunIn_108 (by decide) ?_
                    refine lv_goto (tgt := 113) hx hb dX3_canRunIn_109 (by decide) ?_
                    refine lv_istore_n (lv' := [(3, .int (nI 1)), (5, .int (nI 0)), (4, .int (nI i)), (0, .ref (G 3)), (1, .int (nI u)), (2, .int (nI f))]) hx hb dX3_canRunIn_113 rfl hl (by decide) rfl (fun ls hl => ?_)
                    refine lv_iinc (v := nI (i + 1)) (lv' := [(4, .int (nI (i + 1))), (3, .int (nI 1)), (5, .int (nI 0)), (0, .ref (G 3)), (1, .int (nI u)), (2, .int (nI f))]) hx hb dX3_canRunIn_114 hl (k := 2) rfl (nI_add i 1) (by decide) rfl (fun ls hl => ?_)
                    refine lv_goto (tgt := 33) hx hb dX3_canRunIn_117 (by decide) ?_
                    exact ih33 (i + 1) (by omega) (by omega)   _ _ _ _ hRc hRr hRo hP hD hS (show lv_has ls 6 [(4, .int (nI (i + 1))), (3, .int (nI (bN (cnP r u (tb f) (i + 1))))), (0, .ref (G 3)), (1, .int (nI u)), (2, .int (nI f))] from by rw [show ((.int (nI (bN (cnP r u (tb f) (i + 1)))) : Value)) = .int (nI 1) from by exact congrArg (fun z => Value.int (nI z)) (bN_t (cnP_t c_86 (Or.inl c_100)))]; exact lv_sub hl [0, 1, 3, 4, 5] rfl)
                  · refine lv_iload hx hb dX3_canRunIn_103 (lv_at hl 0 rfl) ?_
                    refine n_if_eq (tgt := 112) hx hb dX3_canRunIn_105 (by decide) (by decide) (fun c_105 => ?_) (fun c_105 => absurd c_105 (by decide))
                    refine lv_iconst (v := nI 0) hx hb dX3_canRunIn_112 (by decide) ?_
                    refine lv_istore_n (lv' := [(3, .int (nI 0)), (5, .int (nI 0)), (4, .int (nI i)), (0, .ref (G 3)), (1, .int (nI u)), (2, .int (nI f))]) hx hb dX3_canRunIn_113 rfl hl (by decide) rfl (fun ls hl => ?_)
                    refine lv_iinc (v := nI (i + 1)) (lv' := [(4, .int (nI (i + 1))), (3, .int (nI 0)), (5, .int (nI 0)), (0, .ref (G 3)), (1, .int (nI u)), (2, .int (nI f))]) hx hb dX3_canRunIn_114 hl (k := 2) rfl (nI_add i 1) (by decide) rfl (fun ls hl => ?_)
                    refine lv_goto (tgt := 33) hx hb dX3_canRunIn_117 (by decide) ?_
                    exact ih33 (i + 1) (by omega) (by omega)   _ _ _ _ hRc hRr hRo hP hD hS (show lv_has ls 6 [(4, .int (nI (i + 1))), (3, .int (nI (bN (cnP r u (tb f) (i + 1))))), (0, .ref (G 3)), (1, .int (nI u)), (2, .int (nI f))] from by rw [show ((.int (nI (bN (cnP r u (tb f) (i + 1)))) : Value)) = .int (nI 0) from by exact congrArg (fun z => Value.int (nI z)) (bN_f (cnP_f2 (Nat.ne_of_gt c_100) (fun q => q.elim (fun q => c_49 (bit1.mpr q)) (fun q => q.1 hz_58))))]; exact lv_sub hl [0, 1, 3, 4, 5] rfl)
              · have h_w_58 : w_58 < 20 := by have h9 := hs i; omega
                refine n_top (y := .int (nI w_58)) (congrArg Value.int (by rw [hz_58]; exact siI_s _)) ?_
                refine lv_iconst (v := (-1)) hx hb dX3_canRunIn_59 (by decide) ?_
                refine lv_icmp_eq (tgt := 82) hx hb dX3_canRunIn_60 (by decide) (fun c_60 => absurd c_60 (fun z => nI_pos (show w_58 < 2 ^ 31 from (by omega)) (by rw [z]; decide))) (fun c_60 => ?_)
                refine lv_iload_n hx hb dX3_canRunIn_63 rfl (lv_at hl 4 rfl) ?_
                refine lv_aload_n hx hb dX3_canRunIn_64 rfl (lv_at hl 2 rfl) ?_
                refine va_get (D := D) (ci := 4) (v := .ref (G 9)) (C := RX3) (T := TX3) (N := 23) hx hb hts inX3 hown hK hP 3 (Q_m hRr) rfl 5 (by decide) (hts (.fieldLink RX3 22 "BootStageModel" "standIns" "[I") (by decide +kernel)) (fun _ h9 => h9) rfl dX3_canRunIn_65 ?_
                refine lv_iload hx hb dX3_canRunIn_68 (lv_at hl 0 rfl) ?_
                refine x_iald hx hb hK hP 9 (Q_a5 hRr) (by first | omega | decide | assumption) (by decide) dX3_canRunIn_70 (v := siI (r 5 i)) rfl ?_
                refine n_top (y := .int (nI w_58)) (congrArg Value.int (by rw [hz_58]; exact siI_s _)) ?_
                refine n_ishr hx hb dX3_canRunIn_71 (Nat.lt_trans hf (by decide)) (by omega) ?_
                refine lv_iconst (v := nI 1) hx hb dX3_canRunIn_72 (by decide) ?_
                refine n_iand hx hb dX3_canRunIn_73 ?_
                refine lv_iconst (v := nI 1) hx hb dX3_canRunIn_74 (by decide) ?_
                refine n_icmp_ne (tgt := 82) hx hb dX3_canRunIn_75 (by decide) (Nat.lt_of_le_of_lt Nat.and_le_right (by decide)) (by decide) (fun c_75 => ?_) (fun c_75 => ?_)
                · refine lv_iconst (v := nI 0) hx hb dX3_canRunIn_82 (by decide) ?_
                  refine lv_istore (lv' := [(5, .int (nI 0)), (4, .int (nI i)), (3, .int (nI (bN (cnP r u (tb f) i)))), (0, .ref (G 3)), (1, .int (nI u)), (2, .int (nI f))]) hx hb dX3_canRunIn_83 hl (by decide) rfl (fun ls hl => ?_)
                  refine lv_iload_n hx hb dX3_canRunIn_85 rfl (lv_at hl 2 rfl) ?_
                  refine n_ifb_eq (tgt := 112) hx hb dX3_canRunIn_86 (by decide) (fun c_86 => ?_) (fun c_86 => ?_)
                  · refine lv_iconst (v := nI 0) hx hb dX3_canRunIn_112 (by decide) ?_
                    refine lv_istore_n (lv' := [(3, .int (nI 0)), (5, .int (nI 0)), (4, .int (nI i)), (0, .ref (G 3)), (1, .int (nI u)), (2, .int (nI f))]) hx hb dX3_canRunIn_113 rfl hl (by decide) rfl (fun ls hl => ?_)
                    refine lv_iinc (v := nI (i + 1)) (lv' := [(4, .int (nI (i + 1))), (3, .int (nI 0)), (5, .int (nI 0)), (0, .ref (G 3)), (1, .int (nI u)), (2, .int (nI f))]) hx hb dX3_canRunIn_114 hl (k := 2) rfl (nI_add i 1) (by decide) rfl (fun ls hl => ?_)
                    refine lv_goto (tgt := 33) hx hb dX3_canRunIn_117 (by decide) ?_
                    exact ih33 (i + 1) (by omega) (by omega)   _ _ _ _ hRc hRr hRo hP hD hS (show lv_has ls 6 [(4, .int (nI (i + 1))), (3, .int (nI (bN (cnP r u (tb f) (i + 1))))), (0, .ref (G 3)), (1, .int (nI u)), (2, .int (nI f))] from by rw [show ((.int (nI (bN (cnP r u (tb f) (i + 1)))) : Value)) = .int (nI 0) from by exact congrArg (fun z => Value.int (nI z)) (bN_f (cnP_f1 c_86))]; exact lv_sub hl [0, 1, 3, 4, 5] rfl)
                  · refine lv_aload_n hx hb dX3_canRunIn_89 rfl (lv_at hl 3 rfl) ?_
                    refine va_get (D := D) (ci := 4) (v := .ref (G 11)) (C := RX3) (T := TX3) (N := 23) hx hb hts inX3 hown hK hP 3 (Q_m hRr) rfl 7 (by decide) (hts (.fieldLink RX3 29 "BootStageModel" "needs" "[Z") (by decide +kernel)) (fun _ h9 => h9) rfl dX3_canRunIn_90 ?_
                    refine lv_iload_n hx hb dX3_canRunIn_93 rfl (lv_at hl 4 rfl) ?_
                    refine lv_iload hx hb dX3_canRunIn_94 (lv_at hl 1 rfl) ?_
                    refine y_calli (va_runS (As := [.int (nI u), .int (nI i)]) (rest := [.ref (G 11)]) ⟨hx, hb, hml, hown, hts⟩ (k_X3_edge l D G h0 c r o u i) (va_cwS 2 hts gX3_canRunIn_X3_edge rfl rfl rfl (by decide +kernel) ⟨Nat.le_of_ble_eq_true rfl, Nat.le_of_ble_eq_true rfl⟩) ⟨fun a U g mk q => ⟨q.1, Pr_cg q.2⟩, fun U hU hW => ⟨rfl, Pr_mk hE hRc hRr hRo hP hD hS hU hW⟩⟩ rfl rfl hl.1 rfl (lv_room (Nat.le_of_ble_eq_true rfl)) dX3_canRunIn_96 ⟨Nat.le_of_ble_eq_true rfl, Nat.le_of_ble_eq_true rfl⟩) hS (fun v9 _ H locs wl hv9 hRc hRr hRo hP hD hS => ?_)
                    refine n_top (y := .int (nI (20 * u + i))) (congrArg Value.int hv9) ?_
                    clear hv9 v9
                    refine x_zald hx hb hK hP 11 (Q_a7 hRr) (by first | omega | decide | assumption) (by decide) dX3_canRunIn_99 (v := nI (r 7 (20 * u + i))) rfl ?_
                    refine n_if_eq (tgt := 108) hx hb dX3_canRunIn_100 (by decide) (hBr _ _ (by decide)) (fun c_100 => ?_) (fun c_100 => ?_)
                    · refine lv_iconst (v := nI 1) hx hb dX3_canRunIn_108 (by decide) ?_
                      refine lv_goto (tgt := 113) hx hb dX3_canRunIn_109 (by decide) ?_
                      refine lv_istore_n (lv' := [(3, .int (nI 1)), (5, .int (nI 0)), (4, .int (nI i)), (0, .ref (G 3)), (1, .int (nI u)), (2, .int (nI f))]) hx hb dX3_canRunIn_113 rfl hl (by decide) rfl (fun ls hl => ?_)
                      refine lv_iinc (v := nI (i + 1)) (lv' := [(4, .int (nI (i + 1))), (3, .int (nI 1)), (5, .int (nI 0)), (0, .ref (G 3)), (1, .int (nI u)), (2, .int (nI f))]) hx hb dX3_canRunIn_114 hl (k := 2) rfl (nI_add i 1) (by decide) rfl (fun ls hl => ?_)
                      refine lv_goto (tgt := 33) hx hb dX3_canRunIn_117 (by decide) ?_
                      exact ih33 (i + 1) (by omega) (by omega)   _ _ _ _ hRc hRr hRo hP hD hS (show lv_has ls 6 [(4, .int (nI (i + 1))), (3, .int (nI (bN (cnP r u (tb f) (i + 1))))), (0, .ref (G 3)), (1, .int (nI u)), (2, .int (nI f))] from by rw [show ((.int (nI (bN (cnP r u (tb f) (i + 1)))) : Value)) = .int (nI 1) from by exact congrArg (fun z => Value.int (nI z)) (bN_t (cnP_t c_86 (Or.inl c_100)))]; exact lv_sub hl [0, 1, 3, 4, 5] rfl)
                    · refine lv_iload hx hb dX3_canRunIn_103 (lv_at hl 0 rfl) ?_
                      refine n_if_eq (tgt := 112) hx hb dX3_canRunIn_105 (by decide) (by decide) (fun c_105 => ?_) (fun c_105 => absurd c_105 (by decide))
                      refine lv_iconst (v := nI 0) hx hb dX3_canRunIn_112 (by decide) ?_
                      refine lv_istore_n (lv' := [(3, .int (nI 0)), (5, .int (nI 0)), (4, .int (nI i)), (0, .ref (G 3)), (1, .int (nI u)), (2, .int (nI f))]) hx hb dX3_canRunIn_113 rfl hl (by decide) rfl (fun ls hl => ?_)
                      refine lv_iinc (v := nI (i + 1)) (lv' := [(4, .int (nI (i + 1))), (3, .int (nI 0)), (5, .int (nI 0)), (0, .ref (G 3)), (1, .int (nI u)), (2, .int (nI f))]) hx hb dX3_canRunIn_114 hl (k := 2) rfl (nI_add i 1) (by decide) rfl (fun ls hl => ?_)
                      refine lv_goto (tgt := 33) hx hb dX3_canRunIn_117 (by decide) ?_
                      exact ih33 (i + 1) (by omega) (by omega)   _ _ _ _ hRc hRr hRo hP hD hS (show lv_has ls 6 [(4, .int (nI (i + 1))), (3, .int (nI (bN (cnP r u (tb f) (i + 1))))), (0, .ref (G 3)), (1, .int (nI u)), (2, .int (nI f))] from by rw [show ((.int (nI (bN (cnP r u (tb f) (i + 1)))) : Value)) = .int (nI 0) from by exact congrArg (fun z => Value.int (nI z)) (bN_f (cnP_f2 (Nat.ne_of_gt c_100) (fun q => q.elim (fun q => c_49 (bit1.mpr q)) (fun q => c_75 (bit1.mpr (by have q2 := q.2; rwa [hz_58, Nat.add_sub_cancel] at q2))))))]; exact lv_sub hl [0, 1, 3, 4, 5] rfl)
                · refine lv_iconst (v := nI 1) hx hb dX3_canRunIn_78 (by decide) ?_
                  refine lv_goto (tgt := 83) hx hb dX3_canRunIn_79 (by decide) ?_
                  refine lv_istore (lv' := [(5, .int (nI 1)), (4, .int (nI i)), (3, .int (nI (bN (cnP r u (tb f) i)))), (0, .ref (G 3)), (1, .int (nI u)), (2, .int (nI f))]) hx hb dX3_canRunIn_83 hl (by decide) rfl (fun ls hl => ?_)
                  refine lv_iload_n hx hb dX3_canRunIn_85 rfl (lv_at hl 2 rfl) ?_
                  refine n_ifb_eq (tgt := 112) hx hb dX3_canRunIn_86 (by decide) (fun c_86 => ?_) (fun c_86 => ?_)
                  · refine lv_iconst (v := nI 0) hx hb dX3_canRunIn_112 (by decide) ?_
                    refine lv_istore_n (lv' := [(3, .int (nI 0)), (5, .int (nI 1)), (4, .int (nI i)), (0, .ref (G 3)), (1, .int (nI u)), (2, .int (nI f))]) hx hb dX3_canRunIn_113 rfl hl (by decide) rfl (fun ls hl => ?_)
                    refine lv_iinc (v := nI (i + 1)) (lv' := [(4, .int (nI (i + 1))), (3, .int (nI 0)), (5, .int (nI 1)), (0, .ref (G 3)), (1, .int (nI u)), (2, .int (nI f))]) hx hb dX3_canRunIn_114 hl (k := 2) rfl (nI_add i 1) (by decide) rfl (fun ls hl => ?_)
                    refine lv_goto (tgt := 33) hx hb dX3_canRunIn_117 (by decide) ?_
                    exact ih33 (i + 1) (by omega) (by omega)   _ _ _ _ hRc hRr hRo hP hD hS (show lv_has ls 6 [(4, .int (nI (i + 1))), (3, .int (nI (bN (cnP r u (tb f) (i + 1))))), (0, .ref (G 3)), (1, .int (nI u)), (2, .int (nI f))] from by rw [show ((.int (nI (bN (cnP r u (tb f) (i + 1)))) : Value)) = .int (nI 0) from by exact congrArg (fun z => Value.int (nI z)) (bN_f (cnP_f1 c_86))]; exact lv_sub hl [0, 1, 3, 4, 5] rfl)
                  · refine lv_aload_n hx hb dX3_canRunIn_89 rfl (lv_at hl 3 rfl) ?_
                    refine va_get (D := D) (ci := 4) (v := .ref (G 11)) (C := RX3) (T := TX3) (N := 23) hx hb hts inX3 hown hK hP 3 (Q_m hRr) rfl 7 (by decide) (hts (.fieldLink RX3 29 "BootStageModel" "needs" "[Z") (by decide +kernel)) (fun _ h9 => h9) rfl dX3_canRunIn_90 ?_
                    refine lv_iload_n hx hb dX3_canRunIn_93 rfl (lv_at hl 4 rfl) ?_
                    refine lv_iload hx hb dX3_canRunIn_94 (lv_at hl 1 rfl) ?_
                    refine y_calli (va_runS (As := [.int (nI u), .int (nI i)]) (rest := [.ref (G 11)]) ⟨hx, hb, hml, hown, hts⟩ (k_X3_edge l D G h0 c r o u i) (va_cwS 2 hts gX3_canRunIn_X3_edge rfl rfl rfl (by decide +kernel) ⟨Nat.le_of_ble_eq_true rfl, Nat.le_of_ble_eq_true rfl⟩) ⟨fun a U g mk q => ⟨q.1, Pr_cg q.2⟩, fun U hU hW => ⟨rfl, Pr_mk hE hRc hRr hRo hP hD hS hU hW⟩⟩ rfl rfl hl.1 rfl (lv_room (Nat.le_of_ble_eq_true rfl)) dX3_canRunIn_96 ⟨Nat.le_of_ble_eq_true rfl, Nat.le_of_ble_eq_true rfl⟩) hS (fun v9 _ H locs wl hv9 hRc hRr hRo hP hD hS => ?_)
                    refine n_top (y := .int (nI (20 * u + i))) (congrArg Value.int hv9) ?_
                    clear hv9 v9
                    refine x_zald hx hb hK hP 11 (Q_a7 hRr) (by first | omega | decide | assumption) (by decide) dX3_canRunIn_99 (v := nI (r 7 (20 * u + i))) rfl ?_
                    refine n_if_eq (tgt := 108) hx hb dX3_canRunIn_100 (by decide) (hBr _ _ (by decide)) (fun c_100 => ?_) (fun c_100 => ?_)
                    · refine lv_iconst (v := nI 1) hx hb dX3_canRunIn_108 (by decide) ?_
                      refine lv_goto (tgt := 113) hx hb dX3_canRunIn_109 (by decide) ?_
                      refine lv_istore_n (lv' := [(3, .int (nI 1)), (5, .int (nI 1)), (4, .int (nI i)), (0, .ref (G 3)), (1, .int (nI u)), (2, .int (nI f))]) hx hb dX3_canRunIn_113 rfl hl (by decide) rfl (fun ls hl => ?_)
                      refine lv_iinc (v := nI (i + 1)) (lv' := [(4, .int (nI (i + 1))), (3, .int (nI 1)), (5, .int (nI 1)), (0, .ref (G 3)), (1, .int (nI u)), (2, .int (nI f))]) hx hb dX3_canRunIn_114 hl (k := 2) rfl (nI_add i 1) (by decide) rfl (fun ls hl => ?_)
                      refine lv_goto (tgt := 33) hx hb dX3_canRunIn_117 (by decide) ?_
                      exact ih33 (i + 1) (by omega) (by omega)   _ _ _ _ hRc hRr hRo hP hD hS (show lv_has ls 6 [(4, .int (nI (i + 1))), (3, .int (nI (bN (cnP r u (tb f) (i + 1))))), (0, .ref (G 3)), (1, .int (nI u)), (2, .int (nI f))] from by rw [show ((.int (nI (bN (cnP r u (tb f) (i + 1)))) : Value)) = .int (nI 1) from by exact congrArg (fun z => Value.int (nI z)) (bN_t (cnP_t c_86 (Or.inl c_100)))]; exact lv_sub hl [0, 1, 3, 4, 5] rfl)
                    · refine lv_iload hx hb dX3_canRunIn_103 (lv_at hl 0 rfl) ?_
                      refine n_if_eq (tgt := 112) hx hb dX3_canRunIn_105 (by decide) (by decide) (fun c_105 => absurd c_105 (by decide)) (fun c_105 => ?_)
                      refine lv_iconst (v := nI 1) hx hb dX3_canRunIn_108 (by decide) ?_
                      refine lv_goto (tgt := 113) hx hb dX3_canRunIn_109 (by decide) ?_
                      refine lv_istore_n (lv' := [(3, .int (nI 1)), (5, .int (nI 1)), (4, .int (nI i)), (0, .ref (G 3)), (1, .int (nI u)), (2, .int (nI f))]) hx hb dX3_canRunIn_113 rfl hl (by decide) rfl (fun ls hl => ?_)
                      refine lv_iinc (v := nI (i + 1)) (lv' := [(4, .int (nI (i + 1))), (3, .int (nI 1)), (5, .int (nI 1)), (0, .ref (G 3)), (1, .int (nI u)), (2, .int (nI f))]) hx hb dX3_canRunIn_114 hl (k := 2) rfl (nI_add i 1) (by decide) rfl (fun ls hl => ?_)
                      refine lv_goto (tgt := 33) hx hb dX3_canRunIn_117 (by decide) ?_
                      exact ih33 (i + 1) (by omega) (by omega)   _ _ _ _ hRc hRr hRo hP hD hS (show lv_has ls 6 [(4, .int (nI (i + 1))), (3, .int (nI (bN (cnP r u (tb f) (i + 1))))), (0, .ref (G 3)), (1, .int (nI u)), (2, .int (nI f))] from by rw [show ((.int (nI (bN (cnP r u (tb f) (i + 1)))) : Value)) = .int (nI 1) from by exact congrArg (fun z => Value.int (nI z)) (bN_t (cnP_t c_86 (Or.inr (Or.inr ⟨by omega, by rw [hz_58, Nat.add_sub_cancel]; exact bit1.mp c_75⟩))))]; exact lv_sub hl [0, 1, 3, 4, 5] rfl)
      exact L33 _ 0 (Nat.lt_succ_self _) (by omega)   _ _ _ _ hRc hRr hRo hP hD hS (show lv_has ls 6 [(4, .int (nI 0)), (3, .int (nI (bN (cnP r u (tb f) 0)))), (0, .ref (G 3)), (1, .int (nI u)), (2, .int (nI f))] from by rw [show ((.int (nI (bN (cnP r u (tb f) 0))) : Value)) = .int (nI 1) from by exact congrArg (fun z => Value.int (nI z)) (bN_t ⟨⟨c_6, c_21⟩, alQ_0⟩)]; exact lv_sub hl [0, 1, 2, 3, 4] rfl)
theorem cnP_mono {r : Nat → Nat → Nat} {u i : Nat} {S T : Nat → Prop} (h : ∀ v, S v → T v) (hc : cnP r u S i) : cnP r u T i :=
  ⟨hc.1, fun v hv => (hc.2 v hv).elim Or.inl (fun z => Or.inr (z.elim (fun z => Or.inl (h _ z)) (fun z => Or.inr ⟨z.1, h _ z.2⟩)))⟩
theorem cnP_thr {r : Nat → Nat → Nat} {u i w : Nat} {S : Nat → Prop} : cnP (up2 r 30 22 w) u S i ↔ cnP r u S i := Iff.rfl
theorem anN_bit {f u v : Nat} : tb (anN f (2 ^ u)) v ↔ tb f v ∧ v ≠ u := by
  unfold tb anN
  rw [Nat.testBit_xor, Nat.testBit_and, Nat.testBit_two_pow]
  by_cases e : u = v
  · subst e; cases f.testBit u <;> simp
  · have e2 : v ≠ u := fun z => e z.symm
    cases f.testBit v <;> simp [e, e2]
theorem le_bits : ∀ {g f : Nat}, (∀ v, tb g v → tb f v) → g ≤ f := by
  intro g
  induction g using Nat.strongRecOn with
  | ind g ih =>
    intro f h
    rcases Nat.eq_zero_or_pos g with e | e
    · omega
    · have h2 : g / 2 ≤ f / 2 := ih (g / 2) (by omega) (fun v hv => by
        have := h (v + 1) (by unfold tb at hv ⊢; rw [Nat.testBit_succ]; exact hv)
        unfold tb at this ⊢; rw [Nat.testBit_succ] at this; exact this)
      have h0 := h 0
      unfold tb at h0
      rw [Nat.testBit_zero, Nat.testBit_zero] at h0
      simp only [decide_eq_true_eq] at h0
      omega
theorem anN_le {f u : Nat} : anN f (2 ^ u) ≤ f := le_bits (fun v h => (anN_bit.mp h).1)
theorem bit0 {f v : Nat} : (f / 2 ^ v) &&& 1 = 0 ↔ ¬ tb f v := by
  unfold tb
  rw [← bit1]
  have : (f / 2 ^ v) &&& 1 < 2 ^ 1 := Nat.and_lt_two_pow _ (by decide)
  omega
theorem bits_lt {n u : Nat} : tb (2 ^ n - 1) u ↔ u < n := by
  unfold tb
  rw [Nat.testBit_two_pow_sub_one]
  exact decide_eq_true_iff
set_option maxHeartbeats 4000000 in
set_option maxRecDepth 100000 in
theorem k_X3_canRun (l : Launch) (D : va_G) (G : Nat → Nat) (h0 : Nat) (c r : Nat → Nat → Nat) (o : Nat) (hI : IR r) : Met l yX3_canRun wsX3_canRun ({ frames := 2, cells := 0, slots := 0, locals := 46 } : Room) (va_Pc [.ref (G 3)] (fun U => Pr D G h0 c r o U)) (va_Qi (fun (v9 : Int32) (u9 : Nat → Nat → Nat) => (∃ f, v9 = nI f ∧ f < 2 ^ 20 ∧ (∀ u, u < r 30 0 → tb f u → cnP r u (tb f) (r 30 0)) ∧ (∀ u, tb f u → u < r 30 0) ∧ (∀ S : Nat → Prop, (∀ u, S u → u < r 30 0 ∧ cnP r u S (r 30 0)) → ∀ u, S u → tb f u)) ∧ u9 = up2 r 30 22 0) (fun (u9 : Nat → Nat → Nat) t => Wr D G h0 c u9 o t) (fun q => h0 ≤ q)) 0 0 (fun q => h0 ≤ q) := by
  refine Met.ofW (cc := cX3_canRun) (maxL := 4) (ret := (some .int)) (by decide) rfl ?_
  intro p e s m args below meth cd s₁ B hml hv
  obtain ⟨rfl, hE, wl, hRc, hRr, hRo, hP, hD⟩ := hv
  have hx := B.exec
  have hb := B.bytes
  have hr := B.returns
  have hts := atoms_spec (ws := wsX3_canRun) B.pre
  have hown : s.vm.findClass RX3 = some m.cls := findClass_of_methodNamed B.named
  have hlocks := B.notSynchronized
  have hK := hE.2.1
  have hS : va_S (fun q => h0 ≤ q) s.heap s.heap [] := va_S.rf
  have hl := lv_entry ([.ref (G 3)]) (n := 4) (Nat.le_of_ble_eq_true rfl)
  rw [lg_entry_eq]
  generalize (lg_sl ([.ref (G 3)]) ++ List.replicate (4 - (lg_sl ([.ref (G 3)])).length) Slot.unset).toArray = ls at hl ⊢
  have hl : lv_has ls 4 [(0, .ref (G 3))] := hl
  have inX3 : ∀ w ∈ wsX30, w ∈ wsX3_canRun := by decide +kernel
  obtain ⟨Q, hQ⟩ : ∃ Q, Q = MQ below (va_Qi (fun (v9 : Int32) (u9 : Nat → Nat → Nat) => (∃ f, v9 = nI f ∧ f < 2 ^ 20 ∧ (∀ u, u < r 30 0 → tb f u → cnP r u (tb f) (r 30 0)) ∧ (∀ u, tb f u → u < r 30 0) ∧ (∀ S : Nat → Prop, (∀ u, S u → u < r 30 0 ∧ cnP r u S (r 30 0)) → ∀ u, S u → tb f u)) ∧ u9 = up2 r 30 22 0) (fun (u9 : Nat → Nat → Nat) t => Wr D G h0 c u9 o t) (fun q => h0 ≤ q)) ([.ref (G 3)] : List Value).toArray s 0 0 (fun q => h0 ≤ q) := ⟨_, rfl⟩
  rw [← hQ]
  have hBr := IR_B hI
  have hn := IR_n hI
  have hs := IR_s hI
  have hIt : IR (up2 r 30 22 0) := IR_obj hI (Or.inr (Or.inr (Or.inr (Or.inr (Or.inr (Or.inr ⟨rfl, by decide⟩))))))
  have hpw : 2 ^ r 30 0 ≤ 2 ^ 20 := Nat.pow_le_pow_right (by decide) hn
  have hpp : 0 < 2 ^ r 30 0 := Nat.pow_pos (by decide)
  refine lv_aload_n hx hb dX3_canRun_0 rfl (lv_at hl 0 rfl) ?_
  refine lv_iconst (v := nI 0) hx hb dX3_canRun_1 (by decide) ?_
  refine x_put (D := D) (G := G) (ci := 4) (ty := .int) (C := RX3) (T := TX3) (N := 23) (Z := fun wl => Rc G c wl ∧ Rr G (up2 r 30 22 0) wl ∧ Ro G o wl) hx hb hts inX3 tyX3 tyX3_ok nmX3 hown hK hP hD hS 3 (Q_m hRr) rfl 22 (by decide) (hts (.fieldLink RX3 56 "BootStageModel" "thrown" "I") (by decide +kernel)) (fun _ h9 => h9) rfl (by decide +kernel) rfl rfl (Nat.le_of_ble_eq_true rfl) dX3_canRun_2 ⟨Rc_fr hRc (by decide) (by decide), P_m22 0 hRr, Ro_fr hRo (by decide)⟩ (fun H locs wl hZ hP hD hS => ?_)
  obtain ⟨hRc, hRr, hRo⟩ := hZ
  refine lv_iconst (v := nI 1) hx hb dX3_canRun_5 (by decide) ?_
  refine lv_aload_n hx hb dX3_canRun_6 rfl (lv_at hl 0 rfl) ?_
  refine va_get (D := D) (ci := 4) (v := .int (nI (r 30 0))) (C := RX3) (T := TX3) (N := 23) hx hb hts inX3 hown hK hP 3 (Q_m hRr) rfl 0 (by decide) (hts (.fieldLink RX3 60 "BootStageModel" "units" "I") (by decide +kernel)) (fun _ h9 => h9) (congrArg (fun z => some (Value.int (nI z))) (show (up2 r 30 22 0) 30 0 = r 30 0 from by simp [up2])) dX3_canRun_7 ?_
  refine n_bit hx hb dX3_canRun_10 (by omega) ?_
  refine lv_iconst (v := nI 1) hx hb dX3_canRun_11 (by decide) ?_
  refine n_isub hx hb dX3_canRun_12 (by first | omega | decide | assumption) ?_
  refine lv_istore_n (lv' := [(1, .int (nI ((2 ^ (r 30 0)) - 1))), (0, .ref (G 3))]) hx hb dX3_canRun_13 rfl hl (by decide) rfl (fun ls hl => ?_)
  refine lv_iconst (v := nI 0) hx hb dX3_canRun_14 (by decide) ?_
  refine lv_istore_n (lv' := [(2, .int (nI 0)), (1, .int (nI ((2 ^ (r 30 0)) - 1))), (0, .ref (G 3))]) hx hb dX3_canRun_15 rfl hl (by decide) rfl (fun ls hl => ?_)
  have L16 : ∀ (d tt : Nat), 2 ^ 20 - tt < d → tt ≤ 2 ^ 20 → ∀ (f1 g1 : Nat), (f1 < 2 ^ 20) → (g1 < 2 ^ 20) → (tt + f1 < 2 ^ 20 ∨ g1 = f1) → (∀ v, tb f1 v → v < r 30 0) → (∀ S : Nat → Prop, (∀ u, S u → u < r 30 0 ∧ cnP r u S (r 30 0)) → ∀ u, S u → tb f1 u) → (g1 = f1 → ∀ u, u < r 30 0 → tb f1 u → cnP r u (tb f1) (r 30 0)) → ∀ (H : Heap) (locs : List Loc) (wl : va_W) (ls : Array Slot), Rc G c wl → Rr G (up2 r 30 22 0) wl → Ro G o wl → va_P D vwCl wl H → va_D (fun q => h0 ≤ q) wl → va_S (fun q => h0 ≤ q) s.heap H locs → lv_has ls 4 [(1, .int (nI f1)), (2, .int (nI g1)), (0, .ref (G 3))] → W p l e (headSpec wsX3_canRun ({ frames := 2, cells := 0, slots := 0, locals := 46 } : Room)).room s m ([.ref (G 3)] : List Value).toArray below meth cd H locs 0 0 Q (F0 m 16 ls []) := by
    intro d16
    induction d16 with
    | zero => intro tt hd; exact absurd hd (Nat.not_lt_zero _)
    | succ d16 ih16 =>
      intro tt hd hi f1 g1  hf1 hg1 hm hlt hgr1 hst1 H locs wl ls hRc hRr hRo hP hD hS hl
      refine lv_iload_n hx hb dX3_canRun_16 rfl (lv_at hl 1 rfl) ?_
      refine lv_iload_n hx hb dX3_canRun_17 rfl (lv_at hl 0 rfl) ?_
      refine n_icmp_eq (tgt := 71) hx hb dX3_canRun_18 (by decide) (by omega) (by omega) (fun c_18 => ?_) (fun c_18 => ?_)
      · refine lv_iload_n hx hb dX3_canRun_71 rfl (lv_at hl 0 rfl) ?_
        rw [hQ]
        have hrel : (fun (v9 : Int32) (u9 : Nat → Nat → Nat) => (∃ f, v9 = nI f ∧ f < 2 ^ 20 ∧ (∀ u, u < r 30 0 → tb f u → cnP r u (tb f) (r 30 0)) ∧ (∀ u, tb f u → u < r 30 0) ∧ (∀ S : Nat → Prop, (∀ u, S u → u < r 30 0 ∧ cnP r u S (r 30 0)) → ∀ u, S u → tb f u)) ∧ u9 = up2 r 30 22 0) (nI f1) (up2 r 30 22 0) := by exact ⟨⟨f1, rfl, hf1, hst1 c_18, hlt, hgr1⟩, rfl⟩
        exact W.iret (v := nI f1) hx hb hr (fun t ht hW => ⟨⟨_, (up2 r 30 22 0), rfl, hrel, Wr_mk hRc hRr hRo hP hD ht⟩, hS.F ht⟩) hS.2.2 dX3_canRun_72
      · refine lv_iload_n hx hb dX3_canRun_21 rfl (lv_at hl 0 rfl) ?_
        refine lv_istore_n (lv' := [(2, .int (nI f1)), (1, .int (nI f1)), (0, .ref (G 3))]) hx hb dX3_canRun_22 rfl hl (by decide) rfl (fun ls hl => ?_)
        refine lv_iconst (v := nI 0) hx hb dX3_canRun_23 (by decide) ?_
        refine lv_istore_n (lv' := [(3, .int (nI 0)), (2, .int (nI f1)), (1, .int (nI f1)), (0, .ref (G 3))]) hx hb dX3_canRun_24 rfl hl (by decide) rfl (fun ls hl => ?_)
        have L25 : ∀ (d i : Nat), r 30 0 - i < d → i ≤ r 30 0 → ∀ (f2 : Nat), (f2 < 2 ^ 20) → (f2 ≤ f1) → (∀ v, tb f2 v → tb f1 v) → (∀ S : Nat → Prop, (∀ u, S u → u < r 30 0 ∧ cnP r u S (r 30 0)) → ∀ u, S u → tb f2 u) → (f2 = f1 → ∀ u, u < i → tb f1 u → cnP r u (tb f1) (r 30 0)) → ∀ (H : Heap) (locs : List Loc) (wl : va_W) (ls : Array Slot), Rc G c wl → Rr G (up2 r 30 22 0) wl → Ro G o wl → va_P D vwCl wl H → va_D (fun q => h0 ≤ q) wl → va_S (fun q => h0 ≤ q) s.heap H locs → lv_has ls 4 [(3, .int (nI i)), (1, .int (nI f2)), (2, .int (nI f1)), (0, .ref (G 3))] → W p l e (headSpec wsX3_canRun ({ frames := 2, cells := 0, slots := 0, locals := 46 } : Room)).room s m ([.ref (G 3)] : List Value).toArray below meth cd H locs 0 0 Q (F0 m 25 ls []) := by
          intro d25
          induction d25 with
          | zero => intro i hd; exact absurd hd (Nat.not_lt_zero _)
          | succ d25 ih25 =>
            intro i hd hi f2  hf2 hle hsub hgr hst H locs wl ls hRc hRr hRo hP hD hS hl
            refine lv_iload_n hx hb dX3_canRun_25 rfl (lv_at hl 0 rfl) ?_
            refine lv_aload_n hx hb dX3_canRun_26 rfl (lv_at hl 3 rfl) ?_
            refine va_get (D := D) (ci := 4) (v := .int (nI (r 30 0))) (C := RX3) (T := TX3) (N := 23) hx hb hts inX3 hown hK hP 3 (Q_m hRr) rfl 0 (by decide) (hts (.fieldLink RX3 60 "BootStageModel" "units" "I") (by decide +kernel)) (fun _ h9 => h9) (congrArg (fun z => some (Value.int (nI z))) (show (up2 r 30 22 0) 30 0 = r 30 0 from by simp [up2])) dX3_canRun_27 ?_
            refine n_icmp_ge (tgt := 68) hx hb dX3_canRun_30 (by decide) (by omega) (hBr _ _ (by decide)) (fun c_30 => ?_) (fun c_30 => ?_)
            · refine lv_goto (tgt := 16) hx hb dX3_canRun_68 (by decide) ?_
              exact ih16 (tt + 1) (by omega) (by omega) (f2) (f1) (by exact hf2) (by exact hf1) (by rcases Nat.eq_or_lt_of_le hle with e | e; (exact Or.inr e.symm); left; omega) (by exact fun v hv => hlt v (hsub v hv)) (by exact hgr) (by intro e9 u hu hb9; rw [← e9] at hb9 ⊢; exact hst e9.symm u (by omega) hb9) _ _ _ _ hRc hRr hRo hP hD hS (lv_sub hl [1, 2, 3] rfl)
            · refine lv_iload_n hx hb dX3_canRun_33 rfl (lv_at hl 1 rfl) ?_
              refine lv_iload_n hx hb dX3_canRun_34 rfl (lv_at hl 1 rfl) ?_
              refine lv_iload_n hx hb dX3_canRun_35 rfl (lv_at hl 0 rfl) ?_
              refine n_ishr hx hb dX3_canRun_36 (by omega) (by omega) ?_
              refine lv_iconst (v := nI 1) hx hb dX3_canRun_37 (by decide) ?_
              refine n_iand hx hb dX3_canRun_38 ?_
              refine n_if_eq (tgt := 51) hx hb dX3_canRun_39 (by decide) (Nat.lt_of_le_of_lt Nat.and_le_right (by decide)) (fun c_39 => ?_) (fun c_39 => ?_)
              · refine lv_iload_n hx hb dX3_canRun_51 rfl (lv_at hl 1 rfl) ?_
                refine lv_goto (tgt := 60) hx hb dX3_canRun_52 (by decide) ?_
                refine n_iand hx hb dX3_canRun_60 ?_
                refine lv_istore_n (lv' := [(1, .int (nI (f2 &&& f2))), (3, .int (nI i)), (2, .int (nI f1)), (0, .ref (G 3))]) hx hb dX3_canRun_61 rfl hl (by decide) rfl (fun ls hl => ?_)
                refine lv_iinc (v := nI (i + 1)) (lv' := [(3, .int (nI (i + 1))), (1, .int (nI (f2 &&& f2))), (2, .int (nI f1)), (0, .ref (G 3))]) hx hb dX3_canRun_62 hl (k := 1) rfl (nI_add i 1) (by decide) rfl (fun ls hl => ?_)
                refine lv_goto (tgt := 25) hx hb dX3_canRun_65 (by decide) ?_
                exact ih25 (i + 1) (by omega) (by omega) (f2 &&& f2) (by rw [Nat.and_self]; exact hf2) (by rw [Nat.and_self]; exact hle) (by intro v hv; rw [Nat.and_self] at hv; exact hsub v hv) (by rw [Nat.and_self]; exact hgr) (by intro e9 u hu hb9; rw [Nat.and_self] at e9; rcases Nat.lt_or_ge u i with e8 | e8; exact hst e9 u e8 hb9; have e7 : u = i := (by omega); subst e7; exact absurd hb9 (by rw [← e9]; exact bit0.mp c_39)) _ _ _ _ hRc hRr hRo hP hD hS (lv_sub hl [0, 1, 2, 3] rfl)
              · refine lv_aload_n hx hb dX3_canRun_42 rfl (lv_at hl 3 rfl) ?_
                refine lv_iload_n hx hb dX3_canRun_43 rfl (lv_at hl 0 rfl) ?_
                refine lv_iload_n hx hb dX3_canRun_44 rfl (lv_at hl 1 rfl) ?_
                refine y_calli (va_runV (As := [.int (nI i), .int (nI f2)]) (rest := [.int (nI f2)]) ⟨hx, hb, hml, hown, hts⟩ (k_X3_canRunIn l D G h0 c (up2 r 30 22 0) o hIt i f2 (by first | omega | assumption) (by first | omega | decide | assumption)) (cwV 2 hts gX3_canRun_X3_canRunIn rfl rfl rfl (by decide +kernel) ⟨Nat.le_of_ble_eq_true rfl, Nat.le_of_ble_eq_true rfl⟩) ⟨fun a U g mk q => ⟨q.1, Pr_cg q.2⟩, va_recv (ci := 4) (q0 := 3) hK hP rfl (Q_m hRr), fun U hU hW => ⟨rfl, Pr_mk hE hRc hRr hRo hP hD hS hU hW⟩⟩ rfl rfl hl.1 rfl (lv_room (Nat.le_of_ble_eq_true rfl)) dX3_canRun_45 ⟨Nat.le_of_ble_eq_true rfl, Nat.le_of_ble_eq_true rfl⟩) hS (fun v9 _ H locs wl hv9 hRc hRr hRo hP hD hS => ?_)
                refine n_top (y := .int (nI (bN (cnP (up2 r 30 22 0) i (tb f2) ((up2 r 30 22 0) 30 0))))) (congrArg Value.int hv9) ?_
                clear hv9 v9
                refine n_ifb_eq (tgt := 55) hx hb dX3_canRun_48 (by decide) (fun c_48 => ?_) (fun c_48 => ?_)
                · refine lv_iconst (v := nI 1) hx hb dX3_canRun_55 (by decide) ?_
                  refine lv_iload_n hx hb dX3_canRun_56 rfl (lv_at hl 0 rfl) ?_
                  refine n_bit hx hb dX3_canRun_57 (by omega) ?_
                  refine lv_iconst (v := (-1)) hx hb dX3_canRun_58 (by decide) ?_
                  refine lv_ixor hx hb dX3_canRun_59 ?_
                  refine n_nand hx hb dX3_canRun_60 ?_
                  refine lv_istore_n (lv' := [(1, .int (nI (anN f2 (2 ^ i)))), (3, .int (nI i)), (2, .int (nI f1)), (0, .ref (G 3))]) hx hb dX3_canRun_61 rfl hl (by decide) rfl (fun ls hl => ?_)
                  refine lv_iinc (v := nI (i + 1)) (lv' := [(3, .int (nI (i + 1))), (1, .int (nI (anN f2 (2 ^ i)))), (2, .int (nI f1)), (0, .ref (G 3))]) hx hb dX3_canRun_62 hl (k := 1) rfl (nI_add i 1) (by decide) rfl (fun ls hl => ?_)
                  refine lv_goto (tgt := 25) hx hb dX3_canRun_65 (by decide) ?_
                  exact ih25 (i + 1) (by omega) (by omega) (anN f2 (2 ^ i)) (by exact Nat.lt_of_le_of_lt anN_le hf2) (by exact Nat.le_trans anN_le hle) (by intro v hv; exact hsub v (anN_bit.mp hv).1) (by intro S hS9 v hv; refine anN_bit.mpr ⟨hgr S hS9 v hv, fun e9 => ?_⟩; subst e9; exact c_48 (cnP_mono (hgr S hS9) (hS9 _ hv).2)) (by intro e9 u hu hb9; exfalso; have h8 : tb (anN f2 (2 ^ i)) i := (by rw [e9]; exact hsub i (Classical.byContradiction (fun z => absurd (bit0.mpr z) (by omega)))); exact (anN_bit.mp h8).2 rfl) _ _ _ _ hRc hRr hRo hP hD hS (lv_sub hl [0, 1, 2, 3] rfl)
                · refine lv_iload_n hx hb dX3_canRun_51 rfl (lv_at hl 1 rfl) ?_
                  refine lv_goto (tgt := 60) hx hb dX3_canRun_52 (by decide) ?_
                  refine n_iand hx hb dX3_canRun_60 ?_
                  refine lv_istore_n (lv' := [(1, .int (nI (f2 &&& f2))), (3, .int (nI i)), (2, .int (nI f1)), (0, .ref (G 3))]) hx hb dX3_canRun_61 rfl hl (by decide) rfl (fun ls hl => ?_)
                  refine lv_iinc (v := nI (i + 1)) (lv' := [(3, .int (nI (i + 1))), (1, .int (nI (f2 &&& f2))), (2, .int (nI f1)), (0, .ref (G 3))]) hx hb dX3_canRun_62 hl (k := 1) rfl (nI_add i 1) (by decide) rfl (fun ls hl => ?_)
                  refine lv_goto (tgt := 25) hx hb dX3_canRun_65 (by decide) ?_
                  exact ih25 (i + 1) (by omega) (by omega) (f2 &&& f2) (by rw [Nat.and_self]; exact hf2) (by rw [Nat.and_self]; exact hle) (by intro v hv; rw [Nat.and_self] at hv; exact hsub v hv) (by rw [Nat.and_self]; exact hgr) (by intro e9 u hu hb9; rw [Nat.and_self] at e9; rcases Nat.lt_or_ge u i with e8 | e8; exact hst e9 u e8 hb9; have e7 : u = i := (by omega); subst e7; exact by rw [← e9]; exact c_48) _ _ _ _ hRc hRr hRo hP hD hS (lv_sub hl [0, 1, 2, 3] rfl)
        exact L25 _ 0 (Nat.lt_succ_self _) (by omega) (f1) (by exact hf1) (by exact Nat.le_refl _) (by exact fun _ h => h) (by exact hgr1) (by exact fun _ u hu => absurd hu (Nat.not_lt_zero _)) _ _ _ _ hRc hRr hRo hP hD hS (lv_sub hl [0, 2, 1, 3] rfl)
  exact L16 _ 0 (Nat.lt_succ_self _) (by omega) ((2 ^ (r 30 0)) - 1) (0) (by omega) (by decide) (by left; omega) (by exact fun v hv => bits_lt.mp hv) (by exact fun S h u hu => bits_lt.mpr (h u hu).1) (by intro e9 u hu hb9; rw [← e9] at hb9; exact absurd hb9 (by unfold tb; simp)) _ _ _ _ hRc hRr hRo hP hD hS (lv_sub hl [1, 0, 2] rfl)
theorem siI_dn {n m : Nat} (h : n = m + 1) : siI n + (-1) = siI m := by
  rw [h, siI_s]
  unfold siI
  rw [Int32.sub_eq_add_neg]
theorem IR_ask {r : Nat → Nat → Nat} {x : Int32} (h : IR r) : IR (up2 r 30 22 (1 - bN (okR r x))) := IR_obj h (Or.inr (Or.inr (Or.inr (Or.inr (Or.inr (Or.inr ⟨rfl, by have h9 := bN_le (okR r x); omega⟩))))))
set_option maxHeartbeats 4000000 in
set_option maxRecDepth 100000 in
theorem k_X3_waitsFor (l : Launch) (D : va_G) (G : Nat → Nat) (h0 : Nat) (c r : Nat → Nat → Nat) (o : Nat) (x : Int32) (hI : IR r) : Met l yX3_waitsFor wsX3_waitsFor ({ frames := 3, cells := 0, slots := 0, locals := 67 } : Room) (va_Pc [.ref (G 3), .int x] (fun U => Pr D G h0 c r o U)) (va_Qi (fun (v9 : Int32) (u9 : Nat → Nat → Nat) => (¬ okR r x ∧ u9 = up2 r 30 22 1) ∨ (∃ a, a < r 30 0 ∧ x = nI a ∧ v9 = siI (fP (fun v => r 17 a = 0 ∧ awR r a v) (r 30 0)) ∧ u9 = up2 r 30 22 0)) (fun (u9 : Nat → Nat → Nat) t => Wr D G h0 c u9 o t) (fun q => h0 ≤ q)) 0 0 (fun q => h0 ≤ q) := by
  refine Met.ofW (cc := cX3_waitsFor) (maxL := 4) (ret := (some .int)) (by decide) rfl ?_
  intro p e s m args below meth cd s₁ B hml hv
  obtain ⟨rfl, hE, wl, hRc, hRr, hRo, hP, hD⟩ := hv
  have hx := B.exec
  have hb := B.bytes
  have hr := B.returns
  have hts := atoms_spec (ws := wsX3_waitsFor) B.pre
  have hown : s.vm.findClass RX3 = some m.cls := findClass_of_methodNamed B.named
  have hlocks := B.notSynchronized
  have hK := hE.2.1
  have hS : va_S (fun q => h0 ≤ q) s.heap s.heap [] := va_S.rf
  have hl := lv_entry ([.ref (G 3), .int x]) (n := 4) (Nat.le_of_ble_eq_true rfl)
  rw [lg_entry_eq]
  generalize (lg_sl ([.ref (G 3), .int x]) ++ List.replicate (4 - (lg_sl ([.ref (G 3), .int x])).length) Slot.unset).toArray = ls at hl ⊢
  have hl : lv_has ls 4 [(0, .ref (G 3)), (1, .int x)] := hl
  have inX3 : ∀ w ∈ wsX30, w ∈ wsX3_waitsFor := by decide +kernel
  obtain ⟨Q, hQ⟩ : ∃ Q, Q = MQ below (va_Qi (fun (v9 : Int32) (u9 : Nat → Nat → Nat) => (¬ okR r x ∧ u9 = up2 r 30 22 1) ∨ (∃ a, a < r 30 0 ∧ x = nI a ∧ v9 = siI (fP (fun v => r 17 a = 0 ∧ awR r a v) (r 30 0)) ∧ u9 = up2 r 30 22 0)) (fun (u9 : Nat → Nat → Nat) t => Wr D G h0 c u9 o t) (fun q => h0 ≤ q)) ([.ref (G 3), .int x] : List Value).toArray s 0 0 (fun q => h0 ≤ q) := ⟨_, rfl⟩
  rw [← hQ]
  have hBr := IR_B hI
  have hn := IR_n hI
  have hs := IR_s hI
  have hIt := IR_ask (x := x) hI
  refine lv_aload_n hx hb dX3_waitsFor_0 rfl (lv_at hl 0 rfl) ?_
  refine lv_iload_n hx hb dX3_waitsFor_1 rfl (lv_at hl 1 rfl) ?_
  refine y_calli (va_runV (As := [.int x]) (rest := []) ⟨hx, hb, hml, hown, hts⟩ (k_X3_asks l D G h0 c r o x hn) (cwV 1 hts gX3_waitsFor_X3_asks rfl rfl rfl (by decide +kernel) ⟨Nat.le_of_ble_eq_true rfl, Nat.le_of_ble_eq_true rfl⟩) ⟨fun a U g mk q => ⟨q.1, Pr_cg q.2⟩, va_recv (ci := 4) (q0 := 3) hK hP rfl (Q_m hRr), fun U hU hW => ⟨rfl, Pr_mk hE hRc hRr hRo hP hD hS hU hW⟩⟩ rfl rfl hl.1 rfl (lv_room (Nat.le_of_ble_eq_true rfl)) dX3_waitsFor_2 ⟨Nat.le_of_ble_eq_true rfl, Nat.le_of_ble_eq_true rfl⟩) hS (fun v9 _ H locs wl hv9 hRc hRr hRo hP hD hS => ?_)
  refine n_top (y := .int (nI (bN (okR r x)))) (congrArg Value.int hv9) ?_
  clear hv9 v9
  refine n_ifb_ne (tgt := 10) hx hb dX3_waitsFor_5 (by decide) (fun c_5 => ?_) (fun c_5 => ?_)
  · obtain ⟨j_x, hj_x, hx_x⟩ := c_5
    refine lv_iconst (v := (-1)) hx hb dX3_waitsFor_10 (by decide) ?_
    refine lv_istore_n (lv' := [(2, .int (-1)), (0, .ref (G 3)), (1, .int x)]) hx hb dX3_waitsFor_11 rfl hl (by decide) rfl (fun ls hl => ?_)
    refine lv_aload_n hx hb dX3_waitsFor_12 rfl (lv_at hl 1 rfl) ?_
    refine va_get (D := D) (ci := 4) (v := .int (nI (r 30 0))) (C := RX3) (T := TX3) (N := 23) hx hb hts inX3 hown hK hP 3 (Q_m hRr) rfl 0 (by decide) (hts (.fieldLink RX3 60 "BootStageModel" "units" "I") (by decide +kernel)) (fun _ h9 => h9) (congrArg (fun z => some (Value.int (nI z))) (show (up2 r 30 22 (1 - bN (okR r x))) 30 0 = r 30 0 from by simp [up2])) dX3_waitsFor_13 ?_
    refine lv_iconst (v := nI 1) hx hb dX3_waitsFor_16 (by decide) ?_
    refine lv_isub hx hb dX3_waitsFor_17 ?_; refine n_top (y := .int (siI (r 30 0))) (congrArg Value.int (congrArg (nI (r 30 0) - ·) (show nI 1 = (1 : Int32) by decide))) ?_
    refine lv_istore_n (lv' := [(3, .int (siI (r 30 0))), (2, .int (-1)), (0, .ref (G 3)), (1, .int x)]) hx hb dX3_waitsFor_18 rfl hl (by decide) rfl (fun ls hl => ?_)
    have L19 : ∀ (d i : Nat), r 30 0 - i < d → i ≤ r 30 0 → ∀ (H : Heap) (locs : List Loc) (wl : va_W) (ls : Array Slot), Rc G c wl → Rr G (up2 r 30 22 (1 - bN (okR r x))) wl → Ro G o wl → va_P D vwCl wl H → va_D (fun q => h0 ≤ q) wl → va_S (fun q => h0 ≤ q) s.heap H locs → lv_has ls 4 [(2, .int (siI (gP (fun v => r 17 j_x = 0 ∧ awR r j_x v) (r 30 0) i))), (3, .int (siI (r 30 0 - i))), (0, .ref (G 3)), (1, .int x)] → W p l e (headSpec wsX3_waitsFor ({ frames := 3, cells := 0, slots := 0, locals := 67 } : Room)).room s m ([.ref (G 3), .int x] : List Value).toArray below meth cd H locs 0 0 Q (F0 m 19 ls []) := by
      intro d19
      induction d19 with
      | zero => intro i hd; exact absurd hd (Nat.not_lt_zero _)
      | succ d19 ih19 =>
        intro i hd hi  H locs wl ls hRc hRr hRo hP hD hS hl
        rcases (show r 30 0 - i = 0 ∨ ∃ w, r 30 0 - i = w + 1 from by cases h9 : r 30 0 - i with | zero => exact Or.inl rfl | succ w => exact Or.inr ⟨w, rfl⟩) with hzw | ⟨w, hzw⟩
        · skip
          refine lv_iload_n hx hb dX3_waitsFor_19 rfl (lv_at hl 1 rfl) ?_
          refine n_top (y := .int (-1)) (congrArg Value.int (by rw [hzw]; exact siI_0)) ?_
          refine lv_if_lt (tgt := 53) hx hb dX3_waitsFor_20 (by decide) (fun c_20 => ?_) (fun c_20 => absurd c_20 (by decide))
          refine lv_iload_n hx hb dX3_waitsFor_53 rfl (lv_at hl 0 rfl) ?_
          rw [hQ]
          have hrel : (fun (v9 : Int32) (u9 : Nat → Nat → Nat) => (¬ okR r x ∧ u9 = up2 r 30 22 1) ∨ (∃ a, a < r 30 0 ∧ x = nI a ∧ v9 = siI (fP (fun v => r 17 a = 0 ∧ awR r a v) (r 30 0)) ∧ u9 = up2 r 30 22 0)) (siI (gP (fun v => r 17 j_x = 0 ∧ awR r j_x v) (r 30 0) i)) (up2 r 30 22 (1 - bN (okR r x))) := by exact Or.inr ⟨j_x, hj_x, hx_x, by rw [show i = r 30 0 by omega, gP_all], by rw [bN_t (show okR r x from ⟨_, hj_x, hx_x⟩)]⟩
          exact W.iret (v := siI (gP (fun v => r 17 j_x = 0 ∧ awR r j_x v) (r 30 0) i)) hx hb hr (fun t ht hW => ⟨⟨_, (up2 r 30 22 (1 - bN (okR r x))), rfl, hrel, Wr_mk hRc hRr hRo hP hD ht⟩, hS.F ht⟩) hS.2.2 dX3_waitsFor_54
        · skip
          refine lv_iload_n hx hb dX3_waitsFor_19 rfl (lv_at hl 1 rfl) ?_
          refine n_top (y := .int (nI w)) (congrArg Value.int (by rw [hzw]; exact siI_s _)) ?_
          refine lv_if_lt (tgt := 53) hx hb dX3_waitsFor_20 (by decide) (fun c_20 => absurd c_20 (nI_pos (show w < 2 ^ 31 from (by omega)))) (fun c_20 => ?_)
          refine lv_aload_n hx hb dX3_waitsFor_23 rfl (lv_at hl 2 rfl) ?_
          refine va_get (D := D) (ci := 4) (v := .ref (G 15)) (C := RX3) (T := TX3) (N := 23) hx hb hts inX3 hown hK hP 3 (Q_m hRr) rfl 17 (by decide) (hts (.fieldLink RX3 41 "BootStageModel" "states" "[I") (by decide +kernel)) (fun _ h9 => h9) rfl dX3_waitsFor_24 ?_
          refine lv_iload_n hx hb dX3_waitsFor_27 rfl (lv_at hl 3 rfl) ?_
          refine n_top (y := .int (nI j_x)) (congrArg Value.int hx_x) ?_
          refine x_iald hx hb hK hP 15 (Q_a17 hRr) (by first | omega | decide | assumption) (by decide) dX3_waitsFor_28 (v := nI (r 17 j_x)) (congrArg nI (show (up2 r 30 22 (1 - bN (okR r x))) 17 j_x = r 17 j_x from by simp [up2])) ?_
          refine n_if_ne (tgt := 45) hx hb dX3_waitsFor_29 (by decide) (hBr _ _ (by decide)) (fun c_29 => ?_) (fun c_29 => ?_)
          · refine lv_iload_n hx hb dX3_waitsFor_45 rfl (lv_at hl 0 rfl) ?_
            refine lv_istore_n (lv' := [(2, .int (siI (gP (fun v => r 17 j_x = 0 ∧ awR r j_x v) (r 30 0) i))), (3, .int (siI (r 30 0 - i))), (0, .ref (G 3)), (1, .int x)]) hx hb dX3_waitsFor_46 rfl hl (by decide) rfl (fun ls hl => ?_)
            refine lv_iinc (v := siI (r 30 0 - (i + 1))) (lv' := [(3, .int (siI (r 30 0 - (i + 1)))), (2, .int (siI (gP (fun v => r 17 j_x = 0 ∧ awR r j_x v) (r 30 0) i))), (0, .ref (G 3)), (1, .int x)]) hx hb dX3_waitsFor_47 hl (k := 1) rfl (siI_dn (by omega)) (by decide) rfl (fun ls hl => ?_)
            refine lv_goto (tgt := 19) hx hb dX3_waitsFor_50 (by decide) ?_
            exact ih19 (i + 1) (by omega) (by omega)   _ _ _ _ hRc hRr hRo hP hD hS (show lv_has ls 4 [(2, .int (siI (gP (fun v => r 17 j_x = 0 ∧ awR r j_x v) (r 30 0) (i + 1)))), (3, .int (siI (r 30 0 - (i + 1)))), (0, .ref (G 3)), (1, .int x)] from by rw [show ((.int (siI (gP (fun v => r 17 j_x = 0 ∧ awR r j_x v) (r 30 0) (i + 1))) : Value)) = .int (siI (gP (fun v => r 17 j_x = 0 ∧ awR r j_x v) (r 30 0) i)) from by show Value.int (siI (gP (fun v => r 17 j_x = 0 ∧ awR r j_x v) (r 30 0) (i + 1))) = _; rw [gP_f (fun q => absurd q.1 (by omega))]]; exact lv_sub hl [1, 0, 2, 3] rfl)
          · refine lv_aload_n hx hb dX3_waitsFor_32 rfl (lv_at hl 2 rfl) ?_
            refine lv_iload_n hx hb dX3_waitsFor_33 rfl (lv_at hl 3 rfl) ?_
            refine n_top (y := .int (nI j_x)) (congrArg Value.int hx_x) ?_
            refine lv_iload_n hx hb dX3_waitsFor_34 rfl (lv_at hl 1 rfl) ?_
            refine n_top (y := .int (nI w)) (congrArg Value.int (by rw [hzw]; exact siI_s _)) ?_
            refine y_calli (va_runV (As := [.int (nI j_x), .int (nI w)]) (rest := []) ⟨hx, hb, hml, hown, hts⟩ (k_X3_waits l D G h0 c (up2 r 30 22 (1 - bN (okR r x))) o hIt j_x w (by first | omega | assumption) (by first | omega | assumption)) (cwV 2 hts gX3_waitsFor_X3_waits rfl rfl rfl (by decide +kernel) ⟨Nat.le_of_ble_eq_true rfl, Nat.le_of_ble_eq_true rfl⟩) ⟨fun a U g mk q => ⟨q.1, Pr_cg q.2⟩, va_recv (ci := 4) (q0 := 3) hK hP rfl (Q_m hRr), fun U hU hW => ⟨rfl, Pr_mk hE hRc hRr hRo hP hD hS hU hW⟩⟩ rfl rfl hl.1 rfl (lv_room (Nat.le_of_ble_eq_true rfl)) dX3_waitsFor_35 ⟨Nat.le_of_ble_eq_true rfl, Nat.le_of_ble_eq_true rfl⟩) hS (fun v9 _ H locs wl hv9 hRc hRr hRo hP hD hS => ?_)
            refine n_top (y := .int (nI (bN (awR (up2 r 30 22 (1 - bN (okR r x))) j_x w)))) (congrArg Value.int hv9) ?_
            clear hv9 v9
            refine n_ifb_eq (tgt := 45) hx hb dX3_waitsFor_38 (by decide) (fun c_38 => ?_) (fun c_38 => ?_)
            · refine lv_iload_n hx hb dX3_waitsFor_45 rfl (lv_at hl 0 rfl) ?_
              refine lv_istore_n (lv' := [(2, .int (siI (gP (fun v => r 17 j_x = 0 ∧ awR r j_x v) (r 30 0) i))), (3, .int (siI (r 30 0 - i))), (0, .ref (G 3)), (1, .int x)]) hx hb dX3_waitsFor_46 rfl hl (by decide) rfl (fun ls hl => ?_)
              refine lv_iinc (v := siI (r 30 0 - (i + 1))) (lv' := [(3, .int (siI (r 30 0 - (i + 1)))), (2, .int (siI (gP (fun v => r 17 j_x = 0 ∧ awR r j_x v) (r 30 0) i))), (0, .ref (G 3)), (1, .int x)]) hx hb dX3_waitsFor_47 hl (k := 1) rfl (siI_dn (by omega)) (by decide) rfl (fun ls hl => ?_)
              refine lv_goto (tgt := 19) hx hb dX3_waitsFor_50 (by decide) ?_
              exact ih19 (i + 1) (by omega) (by omega)   _ _ _ _ hRc hRr hRo hP hD hS (show lv_has ls 4 [(2, .int (siI (gP (fun v => r 17 j_x = 0 ∧ awR r j_x v) (r 30 0) (i + 1)))), (3, .int (siI (r 30 0 - (i + 1)))), (0, .ref (G 3)), (1, .int x)] from by rw [show ((.int (siI (gP (fun v => r 17 j_x = 0 ∧ awR r j_x v) (r 30 0) (i + 1))) : Value)) = .int (siI (gP (fun v => r 17 j_x = 0 ∧ awR r j_x v) (r 30 0) i)) from by show Value.int (siI (gP (fun v => r 17 j_x = 0 ∧ awR r j_x v) (r 30 0) (i + 1))) = _; rw [gP_f (fun q => c_38 (by have q2 := q.2; rwa [show r 30 0 - 1 - i = w by omega] at q2))]]; exact lv_sub hl [1, 0, 2, 3] rfl)
            · refine lv_iload_n hx hb dX3_waitsFor_41 rfl (lv_at hl 1 rfl) ?_
              refine n_top (y := .int (nI w)) (congrArg Value.int (by rw [hzw]; exact siI_s _)) ?_
              refine lv_goto (tgt := 46) hx hb dX3_waitsFor_42 (by decide) ?_
              refine lv_istore_n (lv' := [(2, .int (nI w)), (3, .int (siI (r 30 0 - i))), (0, .ref (G 3)), (1, .int x)]) hx hb dX3_waitsFor_46 rfl hl (by decide) rfl (fun ls hl => ?_)
              refine lv_iinc (v := siI (r 30 0 - (i + 1))) (lv' := [(3, .int (siI (r 30 0 - (i + 1)))), (2, .int (nI w)), (0, .ref (G 3)), (1, .int x)]) hx hb dX3_waitsFor_47 hl (k := 1) rfl (siI_dn (by omega)) (by decide) rfl (fun ls hl => ?_)
              refine lv_goto (tgt := 19) hx hb dX3_waitsFor_50 (by decide) ?_
              exact ih19 (i + 1) (by omega) (by omega)   _ _ _ _ hRc hRr hRo hP hD hS (show lv_has ls 4 [(2, .int (siI (gP (fun v => r 17 j_x = 0 ∧ awR r j_x v) (r 30 0) (i + 1)))), (3, .int (siI (r 30 0 - (i + 1)))), (0, .ref (G 3)), (1, .int x)] from by rw [show ((.int (siI (gP (fun v => r 17 j_x = 0 ∧ awR r j_x v) (r 30 0) (i + 1))) : Value)) = .int (nI w) from by show Value.int (siI (gP (fun v => r 17 j_x = 0 ∧ awR r j_x v) (r 30 0) (i + 1))) = _; rw [gP_t ⟨c_29, by rw [show r 30 0 - 1 - i = w by omega]; exact c_38⟩, show r 30 0 - 1 - i = w by omega]; exact congrArg Value.int (siI_s w)]; exact lv_sub hl [1, 0, 2, 3] rfl)
    exact L19 _ 0 (Nat.lt_succ_self _) (by omega)   _ _ _ _ hRc hRr hRo hP hD hS (show lv_has ls 4 [(2, .int (siI (gP (fun v => r 17 j_x = 0 ∧ awR r j_x v) (r 30 0) 0))), (3, .int (siI (r 30 0 - 0))), (0, .ref (G 3)), (1, .int x)] from by rw [show ((.int (siI (gP (fun v => r 17 j_x = 0 ∧ awR r j_x v) (r 30 0) 0)) : Value)) = .int (-1) from by exact congrArg Value.int (show siI 0 = -1 from siI_0), show ((.int (siI (r 30 0 - 0)) : Value)) = .int (siI (r 30 0)) from by rw [Nat.sub_zero]]; exact lv_sub hl [1, 0, 2, 3] rfl)
  · refine lv_iconst (v := nI 0) hx hb dX3_waitsFor_8 (by decide) ?_
    rw [hQ]
    have hrel : (fun (v9 : Int32) (u9 : Nat → Nat → Nat) => (¬ okR r x ∧ u9 = up2 r 30 22 1) ∨ (∃ a, a < r 30 0 ∧ x = nI a ∧ v9 = siI (fP (fun v => r 17 a = 0 ∧ awR r a v) (r 30 0)) ∧ u9 = up2 r 30 22 0)) (nI 0) (up2 r 30 22 (1 - bN (okR r x))) := by exact Or.inl ⟨c_5, by rw [bN_f c_5]⟩
    exact W.iret (v := nI 0) hx hb hr (fun t ht hW => ⟨⟨_, (up2 r 30 22 (1 - bN (okR r x))), rfl, hrel, Wr_mk hRc hRr hRo hP hD ht⟩, hS.F ht⟩) hS.2.2 dX3_waitsFor_9
