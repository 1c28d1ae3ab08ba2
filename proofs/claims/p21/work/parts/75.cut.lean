set_option maxHeartbeats 4000000 in
set_option maxRecDepth 100000 in
theorem k_L_cut (l : Launch) (D : va_G) (G : Nat → Nat) (h0 : Nat) (c r : Nat → Nat → Nat) (o : Nat) (n : Nat) (hn : n ≤ 8) (ρ : Nat → Nat → Nat) (hIρ : IR ρ) (e0 : ρ 30 0 = n) (h14 : ∀ u, u < n → r 14 u < 2 ^ n) (hE7 : ∀ u v, u < n → v < n → ((r 14 u).testBit v = true ↔ 0 < ρ 7 (20 * u + v))) (hL0 : LWr r ρ) (hWS : WSp ρ) (hBr : BR r) : Met l yL_cut wsL_cut ({ frames := 1, cells := 0, slots := 0, locals := 28 } : Room) (va_Pc [.ref (G 3), .ref (G 4), .int (nI n)] (fun U => Pr D G h0 c r o U)) (va_Qi (fun (v9 : Int32) (u9 : Nat → Nat → Nat) => ∃ J, v9 = nI J ∧ (∀ a j, a ≠ 2 → u9 a j = r a j) ∧ LWr u9 (cutI (r_clr (up2 ρ 30 22 0) 400) J) ∧ (∀ j, j < J → wkR (cutI (r_clr (up2 ρ 30 22 0) 400) j) ≠ 0) ∧ wkR (cutI (r_clr (up2 ρ 30 22 0) 400) J) = 0 ∧ BR u9 ∧ J ≤ 400) (fun (u9 : Nat → Nat → Nat) t => Wr D G h0 c u9 o t) (fun q => h0 ≤ q)) 0 0 (fun q => h0 ≤ q) := by
  refine Met.ofW (cc := cL_cut) (maxL := 8) (ret := (some .int)) (by decide) rfl ?_
  intro p e s m args below meth cd s₁ B hml hv
  obtain ⟨rfl, hE, wl, hRc, hRr, hRo, hP, hD⟩ := hv
  have hx := B.exec
  have hb := B.bytes
  have hr := B.returns
  have hts := atoms_spec (ws := wsL_cut) B.pre
  have hown : s.vm.findClass RL = some m.cls := findClass_of_methodNamed B.named
  have hlocks := B.notSynchronized
  have hK := hE.2.1
  have hS : va_S (fun q => h0 ≤ q) s.heap s.heap [] := va_S.rf
  have hl := lv_entry ([.ref (G 3), .ref (G 4), .int (nI n)]) (n := 8) (Nat.le_of_ble_eq_true rfl)
  rw [lg_entry_eq]
  generalize (lg_sl ([.ref (G 3), .ref (G 4), .int (nI n)]) ++ List.replicate (8 - (lg_sl ([.ref (G 3), .ref (G 4), .int (nI n)])).length) Slot.unset).toArray = ls at hl ⊢
  have hl : lv_has ls 8 [(0, .ref (G 3)), (1, .ref (G 4)), (2, .int (nI n))] := hl
  obtain ⟨Q, hQ⟩ : ∃ Q, Q = MQ below (va_Qi (fun (v9 : Int32) (u9 : Nat → Nat → Nat) => ∃ J, v9 = nI J ∧ (∀ a j, a ≠ 2 → u9 a j = r a j) ∧ LWr u9 (cutI (r_clr (up2 ρ 30 22 0) 400) J) ∧ (∀ j, j < J → wkR (cutI (r_clr (up2 ρ 30 22 0) 400) j) ≠ 0) ∧ wkR (cutI (r_clr (up2 ρ 30 22 0) 400) J) = 0 ∧ BR u9 ∧ J ≤ 400) (fun (u9 : Nat → Nat → Nat) t => Wr D G h0 c u9 o t) (fun q => h0 ≤ q)) ([.ref (G 3), .ref (G 4), .int (nI n)] : List Value).toArray s 0 0 (fun q => h0 ≤ q) := ⟨_, rfl⟩
  rw [← hQ]
  refine lv_iconst (v := nI 0) hx hb dL_cut_0 (by decide) ?_
  refine lv_istore_n (lv' := [(3, .int (nI 0)), (0, .ref (G 3)), (1, .ref (G 4)), (2, .int (nI n))]) hx hb dL_cut_1 rfl hl (by decide) rfl (fun ls hl => ?_)
  refine lv_iconst (v := nI 0) hx hb dL_cut_2 (by decide) ?_
  refine lv_istore (lv' := [(4, .int (nI 0)), (3, .int (nI 0)), (0, .ref (G 3)), (1, .ref (G 4)), (2, .int (nI n))]) hx hb dL_cut_3 hl (by decide) rfl (fun ls hl => ?_)
  have L5 : ∀ (d i : Nat), 64 - i < d → i ≤ 64 → ∀ (r1 : Nat → Nat → Nat), (∀ a j, a ≠ 2 → r1 a j = r a j) → (∀ k, k < i → r1 2 k = r 2 k &&& 1048575) → (∀ k, i ≤ k → r1 2 k = r 2 k) → (BR r1) → ∀ (H : Heap) (locs : List Loc) (wl : va_W) (ls : Array Slot), Rc G c wl → Rr G r1 wl → Ro G o wl → va_P D vwCl wl H → va_D (fun q => h0 ≤ q) wl → va_S (fun q => h0 ≤ q) s.heap H locs → lv_has ls 8 [(4, .int (nI i)), (3, .int (nI 0)), (0, .ref (G 3)), (1, .ref (G 4)), (2, .int (nI n))] → W p l e (headSpec wsL_cut ({ frames := 1, cells := 0, slots := 0, locals := 28 } : Room)).room s m ([.ref (G 3), .ref (G 4), .int (nI n)] : List Value).toArray below meth cd H locs 0 0 Q (F0 m 5 ls []) := by
    intro d5
    induction d5 with
    | zero => intro i hd; exact absurd hd (Nat.not_lt_zero _)
    | succ d5 ih5 =>
      intro i hd hi r1  hr1a hlo hhi hBr1 H locs wl ls hRc hRr hRo hP hD hS hl
      refine lv_iload hx hb dL_cut_5 (lv_at hl 0 rfl) ?_
      refine lv_bipush (v := nI 64) hx hb dL_cut_7 (by decide) ?_
      refine n_icmp_ge (tgt := 27) hx hb dL_cut_9 (by decide) (by omega) (by decide) (fun c_9 => ?_) (fun c_9 => ?_)
      · refine lv_iconst (v := nI 0) hx hb dL_cut_27 (by decide) ?_
        refine lv_istore (lv' := [(4, .int (nI 0)), (3, .int (nI 0)), (0, .ref (G 3)), (1, .ref (G 4)), (2, .int (nI n))]) hx hb dL_cut_28 hl (by decide) rfl (fun ls hl => ?_)
        have L30 : ∀ (d tt : Nat), 801 - tt < d → tt ≤ 801 → ∀ (r2 : Nat → Nat → Nat) (t F : Nat), (∀ a j, a ≠ 2 → r2 a j = r a j) → (LWr r2 (cutI (r_clr (up2 ρ 30 22 0) 400) t)) → (∀ j, j < t → wkR (cutI (r_clr (up2 ρ 30 22 0) 400) j) ≠ 0) → (F = 0 → wkR (cutI (r_clr (up2 ρ 30 22 0) 400) t) = 0) → (F ≤ 64) → ((F = 0 → tt = 2 * t + 1) ∧ (F ≠ 0 → tt = 2 * t)) → (unc (cutI (r_clr (up2 ρ 30 22 0) 400) t) + t = unc (r_clr (up2 ρ 30 22 0) 400)) → (BR r2) → ∀ (H : Heap) (locs : List Loc) (wl : va_W) (ls : Array Slot), Rc G c wl → Rr G r2 wl → Ro G o wl → va_P D vwCl wl H → va_D (fun q => h0 ≤ q) wl → va_S (fun q => h0 ≤ q) s.heap H locs → lv_has ls 8 [(3, .int (nI t)), (4, .int (siI F)), (0, .ref (G 3)), (1, .ref (G 4)), (2, .int (nI n))] → W p l e (headSpec wsL_cut ({ frames := 1, cells := 0, slots := 0, locals := 28 } : Room)).room s m ([.ref (G 3), .ref (G 4), .int (nI n)] : List Value).toArray below meth cd H locs 0 0 Q (F0 m 30 ls []) := by
          intro d30
          induction d30 with
          | zero => intro tt hd; exact absurd hd (Nat.not_lt_zero _)
          | succ d30 ih30 =>
            intro tt hd hi r2  t F  hr2a hLW hnz hF hF64 htt hun hBr2 H locs wl ls hRc hRr hRo hP hD hS hl
            have e0t : (cutI (r_clr (up2 ρ 30 22 0) 400) t) 30 0 = n := ((cutI_n _ 30 0 (by decide) t).trans (clr_n ρ (by decide) (by omega))).trans e0
            have e7t : ∀ e, (cutI (r_clr (up2 ρ 30 22 0) 400) t) 7 e = ρ 7 e := fun e => (cutI_n _ 7 e (by decide) t).trans (clr_n ρ (by decide) (by omega))
            have hu0 : unc (r_clr (up2 ρ 30 22 0) 400) ≤ 400 := ct_le _
            refine lv_iload hx hb dL_cut_30 (lv_at hl 1 rfl) ?_
            rcases (show F = 0 ∨ ∃ w, F = w + 1 from by cases h9 : F with | zero => exact Or.inl rfl | succ w => exact Or.inr ⟨w, rfl⟩) with hz_32 | ⟨w_32, hz_32⟩
            · refine n_top (y := .int (-1)) (congrArg Value.int (by rw [hz_32]; exact siI_0)) ?_
              refine lv_if_lt (tgt := 192) hx hb dL_cut_32 (by decide) (fun c_32 => ?_) (fun c_32 => absurd c_32 (by decide))
              refine lv_iload_n hx hb dL_cut_192 rfl (lv_at hl 0 rfl) ?_
              rw [hQ]
              have hrel : (fun (v9 : Int32) (u9 : Nat → Nat → Nat) => ∃ J, v9 = nI J ∧ (∀ a j, a ≠ 2 → u9 a j = r a j) ∧ LWr u9 (cutI (r_clr (up2 ρ 30 22 0) 400) J) ∧ (∀ j, j < J → wkR (cutI (r_clr (up2 ρ 30 22 0) 400) j) ≠ 0) ∧ wkR (cutI (r_clr (up2 ρ 30 22 0) 400) J) = 0 ∧ BR u9 ∧ J ≤ 400) (nI t) r2 := by exact ⟨t, rfl, hr2a, hLW, hnz, hF hz_32, hBr2, by omega⟩
              exact W.iret (v := nI t) hx hb hr (fun t ht hW => ⟨⟨_, r2, rfl, hrel, Wr_mk hRc hRr hRo hP hD ht⟩, hS.F ht⟩) hS.2.2 dL_cut_193
            · refine n_top (y := .int (nI w_32)) (congrArg Value.int (by rw [hz_32]; exact siI_s _)) ?_
              refine lv_if_lt (tgt := 192) hx hb dL_cut_32 (by decide) (fun c_32 => absurd c_32 (nI_pos (show w_32 < 2 ^ 31 from (by omega)))) (fun c_32 => ?_)
              refine lv_iconst (v := (-1)) hx hb dL_cut_35 (by decide) ?_
              refine lv_istore (lv' := [(4, .int (-1)), (3, .int (nI t)), (0, .ref (G 3)), (1, .ref (G 4)), (2, .int (nI n))]) hx hb dL_cut_36 hl (by decide) rfl (fun ls hl => ?_)
              refine lv_iconst (v := nI 0) hx hb dL_cut_38 (by decide) ?_
              refine lv_istore (lv' := [(5, .int (nI 0)), (4, .int (-1)), (3, .int (nI t)), (0, .ref (G 3)), (1, .ref (G 4)), (2, .int (nI n))]) hx hb dL_cut_39 hl (by decide) rfl (fun ls hl => ?_)
              have L41 : ∀ (d k : Nat), 8 * n - k < d → k ≤ 8 * n → ∀ (H : Heap) (locs : List Loc) (wl : va_W) (ls : Array Slot), Rc G c wl → Rr G r2 wl → Ro G o wl → va_P D vwCl wl H → va_D (fun q => h0 ≤ q) wl → va_S (fun q => h0 ≤ q) s.heap H locs → lv_has ls 8 [(5, .int (nI k)), (4, .int (siI (lwI r2 n k))), (0, .ref (G 3)), (1, .ref (G 4)), (2, .int (nI n)), (3, .int (nI t))] → W p l e (headSpec wsL_cut ({ frames := 1, cells := 0, slots := 0, locals := 28 } : Room)).room s m ([.ref (G 3), .ref (G 4), .int (nI n)] : List Value).toArray below meth cd H locs 0 0 Q (F0 m 41 ls []) := by
                intro d41
                induction d41 with
                | zero => intro k hd; exact absurd hd (Nat.not_lt_zero _)
                | succ d41 ih41 =>
                  intro k hd hi  H locs wl ls hRc hRr hRo hP hD hS hl
                  refine lv_iload hx hb dL_cut_41 (lv_at hl 0 rfl) ?_
                  refine lv_bipush (v := nI 8) hx hb dL_cut_43 (by decide) ?_
                  refine lv_iload_n hx hb dL_cut_45 rfl (lv_at hl 4 rfl) ?_
                  refine n_imul hx hb dL_cut_46 ?_
                  refine n_icmp_ge (tgt := 172) hx hb dL_cut_47 (by decide) (by omega) (by omega) (fun c_47 => ?_) (fun c_47 => ?_)
                  · refine lv_iload hx hb dL_cut_172 (lv_at hl 1 rfl) ?_
                    rcases (show lwI r2 n k = 0 ∨ ∃ w, lwI r2 n k = w + 1 from by cases h9 : lwI r2 n k with | zero => exact Or.inl rfl | succ w => exact Or.inr ⟨w, rfl⟩) with hz_174 | ⟨w_174, hz_174⟩
                    · refine n_top (y := .int (-1)) (congrArg Value.int (by rw [hz_174]; exact siI_0)) ?_
                      refine lv_if_lt (tgt := 30) hx hb dL_cut_174 (by decide) (fun c_174 => ?_) (fun c_174 => absurd c_174 (by decide))
                      exact ih30 (2 * t + 1) (by omega) (by omega) (r2) (t) (lwI r2 n k) (by exact hr2a) (by exact hLW) (by exact hnz) (by exact fun _ => (wk_lw hn e0t (fun u hu => by rw [hr2a 14 u (by decide)]; exact h14 u hu) (fun u v hu hv => by rw [hr2a 14 u (by decide), e7t]; exact hE7 u v hu hv) hLW (WSp_cut hWS t) (fun e => (IR_E (IR_cutI (IR_c0 hIρ) t) e).2.2)).1 (by rw [show 8 * n = k by omega]; exact hz_174)) (by omega) (by omega) (by exact hun) (by exact hBr2) _ _ _ _ hRc hRr hRo hP hD hS (lv_sub hl [5, 1, 2, 3, 4] rfl)
                    · have hw_k := lwI_le hz_174
                      have hkk := (wk_lw hn e0t (fun u hu => by rw [hr2a 14 u (by decide)]; exact h14 u hu) (fun u v hu hv => by rw [hr2a 14 u (by decide), e7t]; exact hE7 u v hu hv) hLW (WSp_cut hWS t) (fun e => (IR_E (IR_cutI (IR_c0 hIρ) t) e).2.2)).2 w_174 (by rw [show 8 * n = k by omega]; exact hz_174)
                      have hp8 := wkR_P (by rw [e0t]; omega) hkk.1
                      have hud := unc_dn (by rw [e0t]; omega) hkk.1
                      refine n_top (y := .int (nI w_174)) (congrArg Value.int (by rw [hz_174]; exact siI_s _)) ?_
                      refine lv_if_lt (tgt := 30) hx hb dL_cut_174 (by decide) (fun c_174 => absurd c_174 (nI_pos (show w_174 < 2 ^ 31 from (by omega)))) (fun c_174 => ?_)
                      refine lv_aload_n hx hb dL_cut_177 rfl (lv_at hl 3 rfl) ?_
                      refine lv_iload hx hb dL_cut_178 (lv_at hl 1 rfl) ?_
                      refine n_top (y := .int (nI w_174)) (congrArg Value.int (by rw [hz_174]; exact siI_s _)) ?_
                      refine lv_dup2_11 hx hb dL_cut_180 rfl rfl ?_
                      refine x_iald hx hb hK hP 4 (Q_a2 hRr) (by first | omega | decide | assumption) (by decide) dL_cut_181 (v := nI (r2 2 w_174)) rfl ?_
                      refine lv_ldc (v := nI 1048576) hx hb hown (hts (.constant RL 99 (nI 1048576)) (by decide +kernel)) dL_cut_182 ?_
                      refine n_ior hx hb dL_cut_184 ?_
                      refine x_iast (Z := fun wl => Rc G c wl ∧ Rr G (up2 r2 2 w_174 ((r2 2 w_174) ||| 1048576)) wl ∧ Ro G o wl) hx hb hK hP hD hS 4 (Q_a2 hRr) (by first | omega | decide | assumption) (by decide) dL_cut_185 ⟨Rc_fr hRc (by decide) (by decide), P_a2 (r := r2) ((r2 2 w_174) ||| 1048576) (by first | omega | decide | assumption) hRr, ⟨rfl, rfl, rfl⟩⟩ (fun H locs wl hZ hP hD hS => ?_)
                      obtain ⟨hRc, hRr, hRo⟩ := hZ
                      refine lv_iinc (v := nI (t + 1)) (lv' := [(3, .int (nI (t + 1))), (5, .int (nI k)), (4, .int (siI (lwI r2 n k))), (0, .ref (G 3)), (1, .ref (G 4)), (2, .int (nI n))]) hx hb dL_cut_186 hl (k := 5) rfl (nI_add t 1) (by decide) rfl (fun ls hl => ?_)
                      refine lv_goto (tgt := 30) hx hb dL_cut_189 (by decide) ?_
                      exact ih30 (2 * (t + 1)) (by omega) (by omega) (up2 r2 2 w_174 ((r2 2 w_174) ||| 1048576)) (t + 1) (lwI r2 n k) (by exact fun a j ha => by rw [up2_c ha]; exact hr2a a j ha) (by exact LWr_cut hLW (WSp_cut hWS t) (fun e => (IR_E (IR_cutI (IR_c0 hIρ) t) e).2.2) (by omega) hkk.1 hp8.2.1 hp8.2.2) (by exact fun j hj => by rcases Nat.lt_or_ge j t with e | e; exact hnz j e; obtain rfl : j = t := (by omega); rw [hkk.1]; exact Nat.succ_ne_zero _) (by intro z; omega) (by omega) (by omega) (by show unc (up2 _ 11 (wkR _ - 1) 1) + (t + 1) = _; rw [hkk.1, Nat.add_sub_cancel]; omega) (by exact BR_up hBr2 (Nat.or_lt_two_pow (hBr2 _ _ (by decide)) (by decide))) _ _ _ _ hRc hRr hRo hP hD hS (lv_sub hl [0, 2, 3, 4, 5] rfl)
                  · have J50 : (∀ (H : Heap) (locs : List Loc) (wl : va_W), Rc G c wl → Rr G r2 wl → Ro G o wl → va_P D vwCl wl H → va_D (fun q => h0 ≤ q) wl → va_S (fun q => h0 ≤ q) s.heap H locs → W p l e (headSpec wsL_cut ({ frames := 1, cells := 0, slots := 0, locals := 28 } : Room)).room s m ([.ref (G 3), .ref (G 4), .int (nI n)] : List Value).toArray below meth cd H locs 0 0 Q (F0 m 100 ls [.int (nI (bN (LQ r2 n k)))])) → W p l e (headSpec wsL_cut ({ frames := 1, cells := 0, slots := 0, locals := 28 } : Room)).room s m ([.ref (G 3), .ref (G 4), .int (nI n)] : List Value).toArray below meth cd H locs 0 0 Q (F0 m 50 ls []) := by
                      intro hk50
                      refine lv_iload hx hb dL_cut_50 (lv_at hl 0 rfl) ?_
                      refine lv_bipush (v := nI 8) hx hb dL_cut_52 (by decide) ?_
                      refine n_irem hx hb dL_cut_54 (by omega) (by first | omega | decide | assumption) (by decide) ?_
                      refine lv_iload_n hx hb dL_cut_55 rfl (lv_at hl 4 rfl) ?_
                      refine n_icmp_ge (tgt := 99) hx hb dL_cut_56 (by decide) (by omega) (by omega) (fun c_56 => ?_) (fun c_56 => ?_)
                      · refine lv_iconst (v := nI 0) hx hb dL_cut_99 (by decide) ?_
                        refine n_top (y := .int (nI (bN (LQ r2 n k)))) (congrArg Value.int (show nI 0 = nI (bN (LQ r2 n k)) from by exact congrArg nI (bN_f (fun z => absurd z.1 (by omega))).symm)) ?_
                        exact hk50 _ _ _ hRc hRr hRo hP hD hS
                      · refine lv_aload_n hx hb dL_cut_59 rfl (lv_at hl 3 rfl) ?_
                        refine lv_iload hx hb dL_cut_60 (lv_at hl 0 rfl) ?_
                        refine x_iald hx hb hK hP 4 (Q_a2 hRr) (by first | omega | decide | assumption) (by decide) dL_cut_62 (v := nI (r2 2 k)) rfl ?_
                        refine n_if_le (tgt := 99) hx hb dL_cut_63 (by decide) (hBr2 _ _ (by decide)) (fun c_63 => ?_) (fun c_63 => ?_)
                        · refine lv_iconst (v := nI 0) hx hb dL_cut_99 (by decide) ?_
                          refine n_top (y := .int (nI (bN (LQ r2 n k)))) (congrArg Value.int (show nI 0 = nI (bN (LQ r2 n k)) from by exact congrArg nI (bN_f (fun z => Nat.ne_of_gt z.2.1.1 c_63)).symm)) ?_
                          exact hk50 _ _ _ hRc hRr hRo hP hD hS
                        · refine lv_aload_n hx hb dL_cut_66 rfl (lv_at hl 3 rfl) ?_
                          refine lv_iload hx hb dL_cut_67 (lv_at hl 0 rfl) ?_
                          refine x_iald hx hb hK hP 4 (Q_a2 hRr) (by first | omega | decide | assumption) (by decide) dL_cut_69 (v := nI (r2 2 k)) rfl ?_
                          refine lv_bipush (v := nI 20) hx hb dL_cut_70 (by decide) ?_
                          refine n_ishr hx hb dL_cut_72 (hBr2 _ _ (by decide)) (by omega) ?_
                          refine n_if_ne (tgt := 99) hx hb dL_cut_73 (by decide) (Nat.lt_of_le_of_lt (Nat.div_le_self _ _) (hBr2 _ _ (by decide))) (fun c_73 => ?_) (fun c_73 => ?_)
                          · refine lv_iconst (v := nI 0) hx hb dL_cut_99 (by decide) ?_
                            refine n_top (y := .int (nI (bN (LQ r2 n k)))) (congrArg Value.int (show nI 0 = nI (bN (LQ r2 n k)) from by exact congrArg nI (bN_f (fun z => Nat.ne_of_gt c_73 z.2.1.2)).symm)) ?_
                            exact hk50 _ _ _ hRc hRr hRo hP hD hS
                          · refine lv_aload_n hx hb dL_cut_76 rfl (lv_at hl 2 rfl) ?_
                            refine lv_aload_n hx hb dL_cut_77 rfl (lv_at hl 3 rfl) ?_
                            refine lv_iload_n hx hb dL_cut_78 rfl (lv_at hl 4 rfl) ?_
                            refine lv_iload hx hb dL_cut_79 (lv_at hl 0 rfl) ?_
                            refine lv_bipush (v := nI 8) hx hb dL_cut_81 (by decide) ?_
                            refine n_irem hx hb dL_cut_83 (by omega) (by first | omega | decide | assumption) (by decide) ?_
                            refine lv_iload hx hb dL_cut_84 (lv_at hl 0 rfl) ?_
                            refine lv_bipush (v := nI 8) hx hb dL_cut_86 (by decide) ?_
                            refine n_idiv hx hb dL_cut_88 (by omega) (by first | omega | decide | assumption) (by decide) ?_
                            refine y_calli (va_runS (As := [.ref (G 3), .ref (G 4), .int (nI n), .int (nI (k % 8)), .int (nI (k / 8))]) (rest := []) ⟨hx, hb, hml, hown, hts⟩ (k_L_isReached l D G h0 c r2 o n (k % 8) (k / 8) hn c_56 (by omega) (fun u hu => by rw [hr2a 14 u (by decide)]; exact h14 u hu) hBr2) (va_cwS 5 hts gL_cut_L_isReached rfl rfl rfl (by decide +kernel) ⟨Nat.le_of_ble_eq_true rfl, Nat.le_of_ble_eq_true rfl⟩) ⟨fun a U g mk q => ⟨q.1, Pr_cg q.2⟩, fun U hU hW => ⟨rfl, Pr_mk hE hRc hRr hRo hP hD hS hU hW⟩⟩ rfl rfl hl.1 rfl (lv_room (Nat.le_of_ble_eq_true rfl)) dL_cut_89 ⟨Nat.le_of_ble_eq_true rfl, Nat.le_of_ble_eq_true rfl⟩) hS (fun v9 _ H locs wl hv9 hRc hRr hRo hP hD hS => ?_)
                            refine n_top (y := .int (nI (bN (Rch (eC (cL r2 n) 1) (k % 8) (k / 8))))) (congrArg Value.int hv9) ?_
                            clear hv9 v9
                            refine n_ifb_eq (tgt := 99) hx hb dL_cut_92 (by decide) (fun c_92 => ?_) (fun c_92 => ?_)
                            · refine lv_iconst (v := nI 0) hx hb dL_cut_99 (by decide) ?_
                              refine n_top (y := .int (nI (bN (LQ r2 n k)))) (congrArg Value.int (show nI 0 = nI (bN (LQ r2 n k)) from by exact congrArg nI (bN_f (fun z => c_92 z.2.2)).symm)) ?_
                              exact hk50 _ _ _ hRc hRr hRo hP hD hS
                            · refine lv_iconst (v := nI 1) hx hb dL_cut_95 (by decide) ?_
                              refine lv_goto (tgt := 100) hx hb dL_cut_96 (by decide) ?_
                              refine n_top (y := .int (nI (bN (LQ r2 n k)))) (congrArg Value.int (show nI 1 = nI (bN (LQ r2 n k)) from by exact congrArg nI (bN_t ⟨c_56, ⟨c_63, c_73⟩, c_92⟩).symm)) ?_
                              exact hk50 _ _ _ hRc hRr hRo hP hD hS
                    refine J50 (fun H locs wl hRc hRr hRo hP hD hS => ?_)
                    refine lv_istore (lv' := [(6, .int (nI (bN (LQ r2 n k)))), (5, .int (nI k)), (4, .int (siI (lwI r2 n k))), (0, .ref (G 3)), (1, .ref (G 4)), (2, .int (nI n)), (3, .int (nI t))]) hx hb dL_cut_100 hl (by decide) rfl (fun ls hl => ?_)
                    refine lv_aload_n hx hb dL_cut_102 rfl (lv_at hl 4 rfl) ?_
                    refine lv_iload hx hb dL_cut_103 (lv_at hl 1 rfl) ?_
                    refine x_iald hx hb hK hP 4 (Q_a2 hRr) (by first | omega | decide | assumption) (by decide) dL_cut_105 (v := nI (r2 2 k)) rfl ?_
                    refine lv_bipush (v := nI 127) hx hb dL_cut_106 (by decide) ?_
                    refine n_iand hx hb dL_cut_108 ?_
                    refine lv_sipush (v := nI 8192) hx hb dL_cut_109 (by decide) ?_
                    refine n_imul hx hb dL_cut_112 ?_
                    refine lv_aload_n hx hb dL_cut_113 rfl (lv_at hl 4 rfl) ?_
                    refine lv_iload hx hb dL_cut_114 (lv_at hl 1 rfl) ?_
                    refine x_iald hx hb hK hP 4 (Q_a2 hRr) (by first | omega | decide | assumption) (by decide) dL_cut_116 (v := nI (r2 2 k)) rfl ?_
                    refine lv_bipush (v := nI 7) hx hb dL_cut_117 (by decide) ?_
                    refine n_ishr hx hb dL_cut_119 (hBr2 _ _ (by decide)) (by omega) ?_
                    refine n_iadd hx hb dL_cut_120 ?_
                    refine lv_istore (lv' := [(7, .int (nI ((((r2 2 k) &&& 127) * 8192) + ((r2 2 k) / 2 ^ 7)))), (6, .int (nI (bN (LQ r2 n k)))), (5, .int (nI k)), (4, .int (siI (lwI r2 n k))), (0, .ref (G 3)), (1, .ref (G 4)), (2, .int (nI n)), (3, .int (nI t))]) hx hb dL_cut_121 hl (by decide) rfl (fun ls hl => ?_)
                    have J123 : (∀ (H : Heap) (locs : List Loc) (wl : va_W), Rc G c wl → Rr G r2 wl → Ro G o wl → va_P D vwCl wl H → va_D (fun q => h0 ≤ q) wl → va_S (fun q => h0 ≤ q) s.heap H locs → W p l e (headSpec wsL_cut ({ frames := 1, cells := 0, slots := 0, locals := 28 } : Room)).room s m ([.ref (G 3), .ref (G 4), .int (nI n)] : List Value).toArray below meth cd H locs 0 0 Q (F0 m 164 ls [.int (siI (lwI r2 n (k + 1)))])) → W p l e (headSpec wsL_cut ({ frames := 1, cells := 0, slots := 0, locals := 28 } : Room)).room s m ([.ref (G 3), .ref (G 4), .int (nI n)] : List Value).toArray below meth cd H locs 0 0 Q (F0 m 123 ls []) := by
                      intro hk123
                      refine lv_iload hx hb dL_cut_123 (lv_at hl 1 rfl) ?_
                      refine n_ifb_eq (tgt := 162) hx hb dL_cut_125 (by decide) (fun c_125 => ?_) (fun c_125 => ?_)
                      · refine lv_iload hx hb dL_cut_162 (lv_at hl 3 rfl) ?_
                        refine n_top (y := .int (siI (lwI r2 n (k + 1)))) (congrArg Value.int (show siI (lwI r2 n k) = siI (lwI r2 n (k + 1)) from by rw [lwI_f (fun z => c_125 z.1)])) ?_
                        exact hk123 _ _ _ hRc hRr hRo hP hD hS
                      · refine lv_iload hx hb dL_cut_128 (lv_at hl 3 rfl) ?_
                        rcases (show lwI r2 n k = 0 ∨ ∃ w, lwI r2 n k = w + 1 from by cases h9 : lwI r2 n k with | zero => exact Or.inl rfl | succ w => exact Or.inr ⟨w, rfl⟩) with hz_130 | ⟨w_130, hz_130⟩
                        · refine n_top (y := .int (-1)) (congrArg Value.int (by rw [hz_130]; exact siI_0)) ?_
                          refine lv_if_lt (tgt := 157) hx hb dL_cut_130 (by decide) (fun c_130 => ?_) (fun c_130 => absurd c_130 (by decide))
                          refine lv_iload hx hb dL_cut_157 (lv_at hl 2 rfl) ?_
                          refine lv_goto (tgt := 164) hx hb dL_cut_159 (by decide) ?_
                          refine n_top (y := .int (siI (lwI r2 n (k + 1)))) (congrArg Value.int (show nI k = siI (lwI r2 n (k + 1)) from by rw [lwI_t c_125 (Or.inl hz_130)]; exact (siI_s _).symm)) ?_
                          exact hk123 _ _ _ hRc hRr hRo hP hD hS
                        · have hw_k := lwI_le hz_130
                          refine n_top (y := .int (nI w_130)) (congrArg Value.int (by rw [hz_130]; exact siI_s _)) ?_
                          refine lv_if_lt (tgt := 157) hx hb dL_cut_130 (by decide) (fun c_130 => absurd c_130 (nI_pos (show w_130 < 2 ^ 31 from (by omega)))) (fun c_130 => ?_)
                          refine lv_iload hx hb dL_cut_133 (lv_at hl 0 rfl) ?_
                          refine lv_aload_n hx hb dL_cut_135 rfl (lv_at hl 5 rfl) ?_
                          refine lv_iload hx hb dL_cut_136 (lv_at hl 3 rfl) ?_
                          refine n_top (y := .int (nI w_130)) (congrArg Value.int (by rw [hz_130]; exact siI_s _)) ?_
                          refine x_iald hx hb hK hP 4 (Q_a2 hRr) (by first | omega | decide | assumption) (by decide) dL_cut_138 (v := nI (r2 2 w_130)) rfl ?_
                          refine lv_bipush (v := nI 127) hx hb dL_cut_139 (by decide) ?_
                          refine n_iand hx hb dL_cut_141 ?_
                          refine lv_sipush (v := nI 8192) hx hb dL_cut_142 (by decide) ?_
                          refine n_imul hx hb dL_cut_145 ?_
                          refine lv_aload_n hx hb dL_cut_146 rfl (lv_at hl 5 rfl) ?_
                          refine lv_iload hx hb dL_cut_147 (lv_at hl 3 rfl) ?_
                          refine n_top (y := .int (nI w_130)) (congrArg Value.int (by rw [hz_130]; exact siI_s _)) ?_
                          refine x_iald hx hb hK hP 4 (Q_a2 hRr) (by first | omega | decide | assumption) (by decide) dL_cut_149 (v := nI (r2 2 w_130)) rfl ?_
                          refine lv_bipush (v := nI 7) hx hb dL_cut_150 (by decide) ?_
                          refine n_ishr hx hb dL_cut_152 (hBr2 _ _ (by decide)) (by omega) ?_
                          refine n_iadd hx hb dL_cut_153 ?_
                          refine n_icmp_ge (tgt := 162) hx hb dL_cut_154 (by decide) (ord31 hBr2 _) (ord31 hBr2 _) (fun c_154 => ?_) (fun c_154 => ?_)
                          · refine lv_iload hx hb dL_cut_162 (lv_at hl 3 rfl) ?_
                            refine n_top (y := .int (nI w_130)) (congrArg Value.int (by rw [hz_130]; exact siI_s _)) ?_
                            refine n_top (y := .int (siI (lwI r2 n (k + 1)))) (congrArg Value.int (show nI w_130 = siI (lwI r2 n (k + 1)) from by rw [lwI_f (fun z => z.2.elim (fun z => by omega) (fun z => by rw [hz_130, Nat.add_sub_cancel] at z; have z2 : ordr r2 k < ordr r2 w_130 := z; have c2 : ordr r2 w_130 ≤ ordr r2 k := c_154; omega)), hz_130]; exact (siI_s _).symm)) ?_
                            exact hk123 _ _ _ hRc hRr hRo hP hD hS
                          · refine lv_iload hx hb dL_cut_157 (lv_at hl 2 rfl) ?_
                            refine lv_goto (tgt := 164) hx hb dL_cut_159 (by decide) ?_
                            refine n_top (y := .int (siI (lwI r2 n (k + 1)))) (congrArg Value.int (show nI k = siI (lwI r2 n (k + 1)) from by rw [lwI_t c_125 (Or.inr (by rw [hz_130, Nat.add_sub_cancel]; exact c_154))]; exact (siI_s _).symm)) ?_
                            exact hk123 _ _ _ hRc hRr hRo hP hD hS
                    refine J123 (fun H locs wl hRc hRr hRo hP hD hS => ?_)
                    refine lv_istore (lv' := [(4, .int (siI (lwI r2 n (k + 1)))), (7, .int (nI ((((r2 2 k) &&& 127) * 8192) + ((r2 2 k) / 2 ^ 7)))), (6, .int (nI (bN (LQ r2 n k)))), (5, .int (nI k)), (0, .ref (G 3)), (1, .ref (G 4)), (2, .int (nI n)), (3, .int (nI t))]) hx hb dL_cut_164 hl (by decide) rfl (fun ls hl => ?_)
                    refine lv_iinc (v := nI (k + 1)) (lv' := [(5, .int (nI (k + 1))), (4, .int (siI (lwI r2 n (k + 1)))), (7, .int (nI ((((r2 2 k) &&& 127) * 8192) + ((r2 2 k) / 2 ^ 7)))), (6, .int (nI (bN (LQ r2 n k)))), (0, .ref (G 3)), (1, .ref (G 4)), (2, .int (nI n)), (3, .int (nI t))]) hx hb dL_cut_166 hl (k := 3) rfl (nI_add k 1) (by decide) rfl (fun ls hl => ?_)
                    refine lv_goto (tgt := 41) hx hb dL_cut_169 (by decide) ?_
                    exact ih41 (k + 1) (by omega) (by omega)   _ _ _ _ hRc hRr hRo hP hD hS (lv_sub hl [0, 1, 4, 5, 6, 7] rfl)
              exact L41 _ 0 (Nat.lt_succ_self _) (by omega)   _ _ _ _ hRc hRr hRo hP hD hS (show lv_has ls 8 [(5, .int (nI 0)), (4, .int (siI (lwI r2 n 0))), (0, .ref (G 3)), (1, .ref (G 4)), (2, .int (nI n)), (3, .int (nI t))] from by rw [show ((.int (siI (lwI r2 n 0)) : Value)) = .int (-1) from by exact congrArg Value.int siI_0]; exact lv_sub hl [0, 1, 3, 4, 5, 2] rfl)
        exact L30 _ 0 (Nat.lt_succ_self _) (by omega) (r1) (0) (1) (by exact hr1a) (by exact LWr_clr hL0 hWS (fun k hk => hlo k (by omega))) (by exact fun j hj => absurd hj (Nat.not_lt_zero j)) (by omega) (by omega) (by omega) (by rfl) (by exact hBr1) _ _ _ _ hRc hRr hRo hP hD hS (show lv_has ls 8 [(3, .int (nI 0)), (4, .int (siI 1)), (0, .ref (G 3)), (1, .ref (G 4)), (2, .int (nI n))] from by rw [show ((.int (siI 1) : Value)) = .int (nI 0) from by exact congrArg Value.int (siI_s 0)]; exact lv_sub hl [1, 0, 2, 3, 4] rfl)
      · refine lv_aload_n hx hb dL_cut_12 rfl (lv_at hl 3 rfl) ?_
        refine lv_iload hx hb dL_cut_13 (lv_at hl 0 rfl) ?_
        refine lv_dup2_11 hx hb dL_cut_15 rfl rfl ?_
        refine x_iald hx hb hK hP 4 (Q_a2 hRr) (by first | omega | decide | assumption) (by decide) dL_cut_16 (v := nI (r1 2 i)) rfl ?_
        refine lv_ldc (v := nI 1048575) hx hb hown (hts (.constant RL 92 (nI 1048575)) (by decide +kernel)) dL_cut_17 ?_
        refine n_iand hx hb dL_cut_19 ?_
        refine x_iast (Z := fun wl => Rc G c wl ∧ Rr G (up2 r1 2 i ((r1 2 i) &&& 1048575)) wl ∧ Ro G o wl) hx hb hK hP hD hS 4 (Q_a2 hRr) (by first | omega | decide | assumption) (by decide) dL_cut_20 ⟨Rc_fr hRc (by decide) (by decide), P_a2 (r := r1) ((r1 2 i) &&& 1048575) (by first | omega | decide | assumption) hRr, ⟨rfl, rfl, rfl⟩⟩ (fun H locs wl hZ hP hD hS => ?_)
        obtain ⟨hRc, hRr, hRo⟩ := hZ
        refine lv_iinc (v := nI (i + 1)) (lv' := [(4, .int (nI (i + 1))), (3, .int (nI 0)), (0, .ref (G 3)), (1, .ref (G 4)), (2, .int (nI n))]) hx hb dL_cut_21 hl (k := 0) rfl (nI_add i 1) (by decide) rfl (fun ls hl => ?_)
        refine lv_goto (tgt := 5) hx hb dL_cut_24 (by decide) ?_
        exact ih5 (i + 1) (by omega) (by omega) (up2 r1 2 i ((r1 2 i) &&& 1048575)) (by exact fun a j ha => by rw [up2_c ha]; exact hr1a a j ha) (by exact fun k hk => by rcases Nat.lt_or_ge k i with e | e; (rw [up2_i (by omega)]; exact hlo k e); obtain rfl : k = i := (by omega); rw [up2_s, hhi k (Nat.le_refl k)]) (by exact fun k hk => by rw [up2_i (by omega)]; exact hhi k (by omega)) (by exact BR_up hBr1 (Nat.lt_of_le_of_lt Nat.and_le_right (by decide))) _ _ _ _ hRc hRr hRo hP hD hS (lv_sub hl [0, 1, 2, 3, 4] rfl)
  exact L5 _ 0 (Nat.lt_succ_self _) (by omega) (r) (by exact fun _ _ _ => rfl) (by exact fun k hk => absurd hk (Nat.not_lt_zero k)) (by exact fun _ _ => rfl) (by exact hBr) _ _ _ _ hRc hRr hRo hP hD hS (lv_sub hl [0, 1, 2, 3, 4] rfl)
