def r_clr (r : Nat → Nat → Nat) (k : Nat) : Nat → Nat → Nat := fun a i => if a = 11 ∧ i < k then 0 else r a i
theorem clr_s (r : Nat → Nat → Nat) (k : Nat) : up2 (r_clr r k) 11 k 0 = r_clr r (k + 1) := by
  funext a i
  unfold up2 r_clr
  by_cases h1 : a = 11 ∧ i = k
  · rw [if_pos h1, if_pos ⟨h1.1, by omega⟩]
  · rw [if_neg h1]
    by_cases h2 : a = 11 ∧ i < k
    · rw [if_pos h2, if_pos ⟨h2.1, by omega⟩]
    · rw [if_neg h2, if_neg (fun z => by rcases Nat.lt_or_ge i k with e | e; exact h2 ⟨z.1, e⟩; exact h1 ⟨z.1, by omega⟩)]
theorem clr_0 (r : Nat → Nat → Nat) : r_clr r 0 = r := by
  funext a i
  unfold r_clr
  rw [if_neg (fun z => absurd z.2 (Nat.not_lt_zero _))]
theorem IR_clr {r : Nat → Nat → Nat} (h : IR r) : ∀ k, IR (r_clr r k)
  | 0 => by rw [clr_0]; exact h
  | k + 1 => by rw [← clr_s]; exact IR_E11 (IR_clr h k) (Nat.zero_le _)
noncomputable def cutI (r : Nat → Nat → Nat) : Nat → Nat → Nat → Nat
  | 0 => r
  | j + 1 => up2 (cutI r j) 11 (wkR (cutI r j) - 1) 1
theorem IR_cutI {r : Nat → Nat → Nat} (h : IR r) : ∀ j, IR (cutI r j)
  | 0 => h
  | j + 1 => IR_E11 (IR_cutI h j) (Nat.le_refl _)
noncomputable def unc (r : Nat → Nat → Nat) : Nat := ct (fun e => 0 < r 8 e ∧ r 11 e = 0) 400
theorem wkI_P {r : Nat → Nat → Nat} (hn : r 30 0 ≤ 20) : ∀ k w, k ≤ r 30 0 * r 30 0 → wkI r k = w + 1 → w < 400 ∧ 0 < r 8 w ∧ r 11 w = 0
  | 0, _, _, h => by cases h
  | k + 1, w, hk, h => by
    rcases Classical.em (wkP r k (wkI r k)) with hp | hp
    · rw [wkI_t hp] at h
      have hd := dm_lt (n := r 30 0) (k := k) (by omega) hn
      have : w = 20 * (k / r 30 0) + k % r 30 0 := by omega
      rw [this]
      exact ⟨hd.2.2, hp.1, hp.2.1⟩
    · rw [wkI_f hp] at h
      exact wkI_P hn k w (by omega) h
theorem wkR_P {r : Nat → Nat → Nat} (hn : r 30 0 ≤ 20) {w : Nat} (h : wkR r = w + 1) : w < 400 ∧ 0 < r 8 w ∧ r 11 w = 0 := wkI_P hn _ w (Nat.le_refl _) h
theorem cutI_n (r : Nat → Nat → Nat) (a i : Nat) (ha : a ≠ 11) : ∀ j, cutI r j a i = r a i
  | 0 => rfl
  | j + 1 => (up2_c ha).trans (cutI_n r a i ha j)
theorem unc_dn {r : Nat → Nat → Nat} (hn : r 30 0 ≤ 20) {w : Nat} (h : wkR r = w + 1) : unc r = unc (up2 r 11 w 1) + 1 := by
  obtain ⟨h1, h2, h3⟩ := wkR_P hn h
  refine ct_one (u := w) ?_ ⟨h2, h3⟩ h1 (fun i _ hi => ?_)
  · intro z
    have := z.2
    rw [up2_s] at this
    cases this
  · rw [up2_c (show (8 : Nat) ≠ 11 by decide), up2_i hi]
theorem up_cg {r r1 : Nat → Nat → Nat} {w : Nat} (h : ∀ a i, a ≠ 21 → r1 a i = r a i) {q i : Nat} (hq : q ≠ 21) : up2 r1 11 w 1 q i = up2 r 11 w 1 q i := by
  unfold up2
  split
  · rfl
  · exact h q i hq
def r_bg1 (r : Nat → Nat → Nat) (u : Nat) : Nat → Nat → Nat := up2 (up2 (up2 (up2 (up2 r 17 u (if r 6 u = 0 then 0 else 4)) 18 u 0) 19 u 0) 20 u (r 2 u)) 30 15 (r 30 15 + (if r 6 u = 0 then r 2 u else 0))
def r_bgI (r : Nat → Nat → Nat) : Nat → Nat → Nat → Nat
  | 0 => r
  | k + 1 => r_bg1 (r_bgI r k) k
def r_bgS (r : Nat → Nat → Nat) (b : Nat) : Nat → Nat → Nat := up2 (up2 (up2 (up2 r 30 12 1) 30 13 1) 30 14 b) 30 15 0
def r_begin (r : Nat → Nat → Nat) (b : Nat) : Nat → Nat → Nat := up2 (up2 (r_bgI (r_bgS r b) (r 30 0)) 30 16 0) 30 16 (r_rs (up2 (r_bgI (r_bgS r b) (r 30 0)) 30 16 0))
theorem IR_bgS {r : Nat → Nat → Nat} {b : Nat} (h : IR r) (hb : b ≤ 20) : IR (r_bgS r b) :=
  IR_obj (IR_obj (IR_obj (IR_obj h (Or.inr (Or.inl ⟨rfl, by decide⟩))) (Or.inr (Or.inr (Or.inl ⟨rfl, by decide⟩)))) (Or.inr (Or.inr (Or.inr (Or.inl ⟨rfl, hb⟩))))) (Or.inr (Or.inr (Or.inr (Or.inr (Or.inl ⟨rfl, by decide⟩)))))
theorem rbgI_n (r : Nat → Nat → Nat) : ∀ k, r_bgI r k 30 0 = r 30 0
  | 0 => rfl
  | k + 1 => (show r_bg1 (r_bgI r k) k 30 0 = _ from by unfold r_bg1; simp [up2]).trans (rbgI_n r k)
theorem IR_bgI {r : Nat → Nat → Nat} (h : IR r) (h0 : r 30 15 = 0) : ∀ k, k ≤ 20 → IR (r_bgI r k) ∧ r_bgI r k 30 15 ≤ 100 * k
  | 0, _ => ⟨h, by show r 30 15 ≤ _; omega⟩
  | k + 1, hk => by
    obtain ⟨h1, h2⟩ := IR_bgI h h0 k (by omega)
    have hu := IR_U h1 k
    have ht : (if r_bgI r k 6 k = 0 then r_bgI r k 2 k else 0) ≤ 100 := by
      unfold RU at hu
      split <;> omega
    have hI2 : IR (up2 (up2 (up2 (up2 (r_bgI r k) 17 k (if r_bgI r k 6 k = 0 then 0 else 4)) 18 k 0) 19 k 0) 20 k (r_bgI r k 2 k)) := by
      refine IR_unit (u := k) h1 (Ofr_up (Ofr_up (Ofr_up (Ofr_up Ofr_r (uR_d rfl)) (uR_d rfl)) (uR_d rfl)) (uR_d rfl)) ?_
      obtain ⟨u1, u2, u3, u4, u5, u6, u7, u8, u9, u10, u11⟩ := hu
      unfold RU
      simp only [up2_s, up2_c (show (1 : Nat) ≠ 17 by decide), up2_c (show (1 : Nat) ≠ 18 by decide), up2_c (show (1 : Nat) ≠ 19 by decide), up2_c (show (1 : Nat) ≠ 20 by decide), up2_c (show (2 : Nat) ≠ 17 by decide), up2_c (show (2 : Nat) ≠ 18 by decide), up2_c (show (2 : Nat) ≠ 19 by decide), up2_c (show (2 : Nat) ≠ 20 by decide), up2_c (show (3 : Nat) ≠ 17 by decide), up2_c (show (3 : Nat) ≠ 18 by decide), up2_c (show (3 : Nat) ≠ 19 by decide), up2_c (show (3 : Nat) ≠ 20 by decide), up2_c (show (4 : Nat) ≠ 17 by decide), up2_c (show (4 : Nat) ≠ 18 by decide), up2_c (show (4 : Nat) ≠ 19 by decide), up2_c (show (4 : Nat) ≠ 20 by decide), up2_c (show (6 : Nat) ≠ 17 by decide), up2_c (show (6 : Nat) ≠ 18 by decide), up2_c (show (6 : Nat) ≠ 19 by decide), up2_c (show (6 : Nat) ≠ 20 by decide), up2_c (show (17 : Nat) ≠ 18 by decide), up2_c (show (17 : Nat) ≠ 19 by decide), up2_c (show (17 : Nat) ≠ 20 by decide), up2_c (show (18 : Nat) ≠ 19 by decide), up2_c (show (18 : Nat) ≠ 20 by decide), up2_c (show (19 : Nat) ≠ 20 by decide), up2_c (show (21 : Nat) ≠ 17 by decide), up2_c (show (21 : Nat) ≠ 18 by decide), up2_c (show (21 : Nat) ≠ 19 by decide), up2_c (show (21 : Nat) ≠ 20 by decide)]
      split <;> omega
    refine ⟨IR_obj hI2 (Or.inr (Or.inr (Or.inr (Or.inr (Or.inl ⟨rfl, by omega⟩))))), ?_⟩
    show r_bg1 (r_bgI r k) k 30 15 ≤ _
    unfold r_bg1
    rw [up2_s]
    omega
set_option maxHeartbeats 4000000 in
set_option maxRecDepth 100000 in
theorem k_X3_begin (l : Launch) (D : va_G) (G : Nat → Nat) (h0 : Nat) (c r : Nat → Nat → Nat) (o : Nat) (x : Int32) (hI : IR r) : Met l yX3_begin wsX3_begin ({ frames := 3, cells := 0, slots := 0, locals := 72 } : Room) (va_Pc [.ref (G 3), .int x] (fun U => Pr D G h0 c r o U)) (va_Qi (fun (v9 : Int32) (u9 : Nat → Nat → Nat) => (¬ inR x 1 20 ∧ u9 = up2 r 30 22 1) ∨ (inR x 1 20 ∧ r 30 13 ≠ 0 ∧ u9 = up2 r 30 22 2) ∨ (∃ b J ρ, (1 ≤ b ∧ b ≤ 20) ∧ x = nI b ∧ r 30 13 = 0 ∧ (∀ a i, a ≠ 21 → ρ a i = cutI (r_clr (up2 r 30 22 0) 400) J a i) ∧ (∀ i, ρ 21 i ≤ 1) ∧ (∀ j, j < J → wkR (cutI (r_clr (up2 r 30 22 0) 400) j) ≠ 0) ∧ wkR (cutI (r_clr (up2 r 30 22 0) 400) J) = 0 ∧ J ≤ 400 ∧ v9 = nI J ∧ u9 = r_begin ρ b)) (fun (u9 : Nat → Nat → Nat) t => Wr D G h0 c u9 o t) (fun q => h0 ≤ q)) 0 0 (fun q => h0 ≤ q) := by
  refine Met.ofW (cc := cX3_begin) (maxL := 4) (ret := (some .int)) (by decide) rfl ?_
  intro p e s m args below meth cd s₁ B hml hv
  obtain ⟨rfl, hE, wl, hRc, hRr, hRo, hP, hD⟩ := hv
  have hx := B.exec
  have hb := B.bytes
  have hr := B.returns
  have hts := atoms_spec (ws := wsX3_begin) B.pre
  have hown : s.vm.findClass RX3 = some m.cls := findClass_of_methodNamed B.named
  have hlocks := B.notSynchronized
  have hK := hE.2.1
  have hS : va_S (fun q => h0 ≤ q) s.heap s.heap [] := va_S.rf
  have hl := lv_entry ([.ref (G 3), .int x]) (n := 4) (Nat.le_of_ble_eq_true rfl)
  rw [lg_entry_eq]
  generalize (lg_sl ([.ref (G 3), .int x]) ++ List.replicate (4 - (lg_sl ([.ref (G 3), .int x])).length) Slot.unset).toArray = ls at hl ⊢
  have hl : lv_has ls 4 [(0, .ref (G 3)), (1, .int x)] := hl
  have inX3 : ∀ w ∈ wsX30, w ∈ wsX3_begin := by decide +kernel
  obtain ⟨Q, hQ⟩ : ∃ Q, Q = MQ below (va_Qi (fun (v9 : Int32) (u9 : Nat → Nat → Nat) => (¬ inR x 1 20 ∧ u9 = up2 r 30 22 1) ∨ (inR x 1 20 ∧ r 30 13 ≠ 0 ∧ u9 = up2 r 30 22 2) ∨ (∃ b J ρ, (1 ≤ b ∧ b ≤ 20) ∧ x = nI b ∧ r 30 13 = 0 ∧ (∀ a i, a ≠ 21 → ρ a i = cutI (r_clr (up2 r 30 22 0) 400) J a i) ∧ (∀ i, ρ 21 i ≤ 1) ∧ (∀ j, j < J → wkR (cutI (r_clr (up2 r 30 22 0) 400) j) ≠ 0) ∧ wkR (cutI (r_clr (up2 r 30 22 0) 400) J) = 0 ∧ J ≤ 400 ∧ v9 = nI J ∧ u9 = r_begin ρ b)) (fun (u9 : Nat → Nat → Nat) t => Wr D G h0 c u9 o t) (fun q => h0 ≤ q)) ([.ref (G 3), .int x] : List Value).toArray s 0 0 (fun q => h0 ≤ q) := ⟨_, rfl⟩
  rw [← hQ]
  have hBr := IR_B hI
  have hn := IR_n hI
  have hs := IR_s hI
  have hIt : IR (up2 r 30 22 0) := IR_obj hI (Or.inr (Or.inr (Or.inr (Or.inr (Or.inr (Or.inr ⟨rfl, by decide⟩))))))
  have hI0 : IR (r_clr (up2 r 30 22 0) 400) := IR_clr hIt 400
  refine lv_aload_n hx hb dX3_begin_0 rfl (lv_at hl 0 rfl) ?_
  refine lv_iload_n hx hb dX3_begin_1 rfl (lv_at hl 1 rfl) ?_
  refine lv_iconst (v := nI 1) hx hb dX3_begin_2 (by decide) ?_
  refine lv_bipush (v := nI 20) hx hb dX3_begin_3 (by decide) ?_
  refine y_calli (va_runS (As := [.int x, .int (nI 1), .int (nI 20)]) (rest := [.ref (G 3)]) ⟨hx, hb, hml, hown, hts⟩ (k_X3_isIn l D G h0 c r o x (nI 1) (nI 20)) (va_cwS 3 hts gX3_begin_X3_isIn rfl rfl rfl (by decide +kernel) ⟨Nat.le_of_ble_eq_true rfl, Nat.le_of_ble_eq_true rfl⟩) ⟨fun a U g mk q => ⟨q.1, Pr_cg q.2⟩, fun U hU hW => ⟨rfl, Pr_mk hE hRc hRr hRo hP hD hS hU hW⟩⟩ rfl rfl hl.1 rfl (lv_room (Nat.le_of_ble_eq_true rfl)) dX3_begin_5 ⟨Nat.le_of_ble_eq_true rfl, Nat.le_of_ble_eq_true rfl⟩) hS (fun v9 _ H locs wl hv9 hRc hRr hRo hP hD hS => ?_)
  refine n_top (y := .int (nI (bN (inR x 1 20)))) (congrArg Value.int hv9) ?_
  clear hv9 v9
  refine n_ifb_ne (tgt := 15) hx hb dX3_begin_8 (by decide) (fun c_8 => ?_) (fun c_8 => ?_)
  · obtain ⟨t_x, ht_x, hx_x⟩ := inR_nI c_8 (by decide) (by decide)
    refine lv_aload_n hx hb dX3_begin_15 rfl (lv_at hl 0 rfl) ?_
    refine va_get (D := D) (ci := 4) (v := .int (nI (r 30 13))) (C := RX3) (T := TX3) (N := 23) hx hb hts inX3 hown hK hP 3 (Q_m hRr) rfl 13 (by decide) (hts (.fieldLink RX3 67 "BootStageModel" "goesOn" "Z") (by decide +kernel)) (fun _ h9 => h9) rfl dX3_begin_16 ?_
    refine n_if_eq (tgt := 26) hx hb dX3_begin_19 (by decide) (hBr _ _ (by decide)) (fun c_19 => ?_) (fun c_19 => ?_)
    · refine lv_iconst (v := nI 0) hx hb dX3_begin_26 (by decide) ?_
      refine y_calli (va_runV (As := [.int (nI 0)]) (rest := []) ⟨hx, hb, hml, hown, hts⟩ (k_X3_goes l D G h0 c r o 0 (by decide)) (cwV 1 hts gX3_begin_X3_goes rfl rfl rfl (by decide +kernel) ⟨Nat.le_of_ble_eq_true rfl, Nat.le_of_ble_eq_true rfl⟩) ⟨fun a U g mk q => ⟨q.1, Pr_cg q.2⟩, va_recv (ci := 4) (q0 := 3) hK hP rfl (Q_m hRr), fun U hU hW => ⟨rfl, Pr_mk hE hRc hRr hRo hP hD hS hU hW⟩⟩ rfl rfl hl.1 rfl (lv_room (Nat.le_of_ble_eq_true rfl)) dX3_begin_27 ⟨Nat.le_of_ble_eq_true rfl, Nat.le_of_ble_eq_true rfl⟩) hS (fun v9 _ H locs wl hv9 hRc hRr hRo hP hD hS => ?_)
      refine n_top (y := .int (nI 1)) (congrArg Value.int (hv9.trans (congrArg nI (bN_t rfl)))) ?_
      clear hv9 v9
      refine n_if_ne (tgt := 35) hx hb dX3_begin_30 (by decide) (by decide) (fun c_30 => ?_) (fun c_30 => absurd c_30 (by decide))
      refine lv_iconst (v := nI 0) hx hb dX3_begin_35 (by decide) ?_
      refine lv_istore_n (lv' := [(2, .int (nI 0)), (0, .ref (G 3)), (1, .int x)]) hx hb dX3_begin_36 rfl hl (by decide) rfl (fun ls hl => ?_)
      refine lv_iconst (v := nI 0) hx hb dX3_begin_37 (by decide) ?_
      refine lv_istore_n (lv' := [(3, .int (nI 0)), (2, .int (nI 0)), (0, .ref (G 3)), (1, .int x)]) hx hb dX3_begin_38 rfl hl (by decide) rfl (fun ls hl => ?_)
      have L39 : ∀ (d i : Nat), 400 - i < d → i ≤ 400 → ∀ (H : Heap) (locs : List Loc) (wl : va_W) (ls : Array Slot), Rc G c wl → Rr G (r_clr (up2 r 30 22 0) i) wl → Ro G o wl → va_P D vwCl wl H → va_D (fun q => h0 ≤ q) wl → va_S (fun q => h0 ≤ q) s.heap H locs → lv_has ls 4 [(3, .int (nI i)), (2, .int (nI 0)), (0, .ref (G 3)), (1, .int x)] → W p l e (headSpec wsX3_begin ({ frames := 3, cells := 0, slots := 0, locals := 72 } : Room)).room s m ([.ref (G 3), .int x] : List Value).toArray below meth cd H locs 0 0 Q (F0 m 39 ls []) := by
        intro d39
        induction d39 with
        | zero => intro i hd; exact absurd hd (Nat.not_lt_zero _)
        | succ d39 ih39 =>
          intro i hd hi  H locs wl ls hRc hRr hRo hP hD hS hl
          refine lv_iload_n hx hb dX3_begin_39 rfl (lv_at hl 0 rfl) ?_
          refine lv_sipush (v := nI 400) hx hb dX3_begin_40 (by decide) ?_
          refine n_icmp_ge (tgt := 59) hx hb dX3_begin_43 (by decide) (by omega) (by decide) (fun c_43 => ?_) (fun c_43 => ?_)
          · refine lv_aload_n hx hb dX3_begin_59 rfl (lv_at hl 2 rfl) ?_
            refine y_calli (va_runV (As := []) (rest := []) ⟨hx, hb, hml, hown, hts⟩ (k_X3_weakest l D G h0 c (r_clr (up2 r 30 22 0) i) o (IR_clr hIt i)) (cwV 0 hts gX3_begin_X3_weakest rfl rfl rfl (by decide +kernel) ⟨Nat.le_of_ble_eq_true rfl, Nat.le_of_ble_eq_true rfl⟩) ⟨fun a U g mk q => ⟨q.1, Pr_cg q.2⟩, va_recv (ci := 4) (q0 := 3) hK hP rfl (Q_m hRr), fun U hU hW => ⟨rfl, Pr_mk hE hRc hRr hRo hP hD hS hU hW⟩⟩ rfl rfl hl.1 rfl (lv_room (Nat.le_of_ble_eq_true rfl)) dX3_begin_60 ⟨Nat.le_of_ble_eq_true rfl, Nat.le_of_ble_eq_true rfl⟩) hS (fun v9 u_60 H locs wl hv9 hRc hRr hRo hP hD hS => ?_)
            obtain ⟨hv9, ho_60, hb_60⟩ := hv9
            refine n_top (y := .int (siI (wkR (r_clr (up2 r 30 22 0) i)))) (congrArg Value.int hv9) ?_
            clear hv9
            refine lv_istore_n (lv' := [(3, .int (siI (wkR (r_clr (up2 r 30 22 0) i)))), (2, .int (nI 0)), (0, .ref (G 3)), (1, .int x)]) hx hb dX3_begin_63 rfl hl (by decide) rfl (fun ls hl => ?_)
            have L64 : ∀ (d j : Nat), 400 - j < d → j ≤ 400 → ∀ (r1 : Nat → Nat → Nat), (∀ a i, a ≠ 21 → r1 a i = cutI (r_clr (up2 r 30 22 0) 400) j a i) → (∀ i, r1 21 i ≤ 1) → (∀ q, q < j → wkR (cutI (r_clr (up2 r 30 22 0) 400) q) ≠ 0) → (j + unc (cutI (r_clr (up2 r 30 22 0) 400) j) ≤ 400) → ∀ (H : Heap) (locs : List Loc) (wl : va_W) (ls : Array Slot), Rc G c wl → Rr G r1 wl → Ro G o wl → va_P D vwCl wl H → va_D (fun q => h0 ≤ q) wl → va_S (fun q => h0 ≤ q) s.heap H locs → lv_has ls 4 [(2, .int (nI j)), (3, .int (siI (wkR (cutI (r_clr (up2 r 30 22 0) 400) j)))), (0, .ref (G 3)), (1, .int x)] → W p l e (headSpec wsX3_begin ({ frames := 3, cells := 0, slots := 0, locals := 72 } : Room)).room s m ([.ref (G 3), .int x] : List Value).toArray below meth cd H locs 0 0 Q (F0 m 64 ls []) := by
              intro d64
              induction d64 with
              | zero => intro j hd; exact absurd hd (Nat.not_lt_zero _)
              | succ d64 ih64 =>
                intro j hd hi r1  hk1 hb1 hnz hct H locs wl ls hRc hRr hRo hP hD hS hl
                have hIc : IR (cutI (r_clr (up2 r 30 22 0) 400) j) := IR_cutI hI0 j
                have hI1 : IR r1 := IR_off hIc hk1 hb1
                have hBr1 := IR_B hI1
                have e30_0 : r1 30 0 = r 30 0 := (hk1 30 0 (by decide)).trans (cutI_n _ 30 0 (by decide) j)
                have hn1 := IR_n hIc
                rcases (show wkR (cutI (r_clr (up2 r 30 22 0) 400) j) = 0 ∨ ∃ w, wkR (cutI (r_clr (up2 r 30 22 0) 400) j) = w + 1 from by cases h9 : wkR (cutI (r_clr (up2 r 30 22 0) 400) j) with | zero => exact Or.inl rfl | succ w => exact Or.inr ⟨w, rfl⟩) with hzw | ⟨w, hzw⟩
                · skip
                  refine lv_iload_n hx hb dX3_begin_64 rfl (lv_at hl 1 rfl) ?_
                  refine n_top (y := .int (-1)) (congrArg Value.int (by rw [hzw]; exact siI_0)) ?_
                  refine lv_iconst (v := (-1)) hx hb dX3_begin_65 (by decide) ?_
                  refine lv_icmp_eq (tgt := 87) hx hb dX3_begin_66 (by decide) (fun c_66 => ?_) (fun c_66 => absurd c_66 (by decide))
                  refine lv_aload_n hx hb dX3_begin_87 rfl (lv_at hl 2 rfl) ?_
                  refine lv_iconst (v := nI 1) hx hb dX3_begin_88 (by decide) ?_
                  refine x_put (D := D) (G := G) (ci := 4) (ty := .boolean) (C := RX3) (T := TX3) (N := 23) (Z := fun wl => Rc G c wl ∧ Rr G (up2 r1 30 12 1) wl ∧ Ro G o wl) hx hb hts inX3 tyX3 tyX3_ok nmX3 hown hK hP hD hS 3 (Q_m hRr) rfl 12 (by decide) (hts (.fieldLink RX3 96 "BootStageModel" "wasBegun" "Z") (by decide +kernel)) (fun _ h9 => h9) rfl (by decide +kernel) (nb_le (by first | exact bN_le _ | decide | omega | assumption)) (nb_ft (by first | exact bN_le _ | decide | omega | assumption)) (Nat.le_of_ble_eq_true rfl) dX3_begin_89 ⟨Rc_fr hRc (by decide) (by decide), P_m12 1 hRr, Ro_fr hRo (by decide)⟩ (fun H locs wl hZ hP hD hS => ?_)
                  obtain ⟨hRc, hRr, hRo⟩ := hZ
                  refine lv_aload_n hx hb dX3_begin_92 rfl (lv_at hl 2 rfl) ?_
                  refine lv_iconst (v := nI 1) hx hb dX3_begin_93 (by decide) ?_
                  refine x_put (D := D) (G := G) (ci := 4) (ty := .boolean) (C := RX3) (T := TX3) (N := 23) (Z := fun wl => Rc G c wl ∧ Rr G (up2 (up2 r1 30 12 1) 30 13 1) wl ∧ Ro G o wl) hx hb hts inX3 tyX3 tyX3_ok nmX3 hown hK hP hD hS 3 (Q_m hRr) rfl 13 (by decide) (hts (.fieldLink RX3 67 "BootStageModel" "goesOn" "Z") (by decide +kernel)) (fun _ h9 => h9) rfl (by decide +kernel) (nb_le (by first | exact bN_le _ | decide | omega | assumption)) (nb_ft (by first | exact bN_le _ | decide | omega | assumption)) (Nat.le_of_ble_eq_true rfl) dX3_begin_94 ⟨Rc_fr hRc (by decide) (by decide), P_m13 1 hRr, Ro_fr hRo (by decide)⟩ (fun H locs wl hZ hP hD hS => ?_)
                  obtain ⟨hRc, hRr, hRo⟩ := hZ
                  refine lv_aload_n hx hb dX3_begin_97 rfl (lv_at hl 2 rfl) ?_
                  refine lv_iload_n hx hb dX3_begin_98 rfl (lv_at hl 3 rfl) ?_
                  refine n_top (y := .int (nI t_x)) (congrArg Value.int hx_x) ?_
                  refine x_put (D := D) (G := G) (ci := 4) (ty := .int) (C := RX3) (T := TX3) (N := 23) (Z := fun wl => Rc G c wl ∧ Rr G (up2 (up2 (up2 r1 30 12 1) 30 13 1) 30 14 t_x) wl ∧ Ro G o wl) hx hb hts inX3 tyX3 tyX3_ok nmX3 hown hK hP hD hS 3 (Q_m hRr) rfl 14 (by decide) (hts (.fieldLink RX3 99 "BootStageModel" "bound" "I") (by decide +kernel)) (fun _ h9 => h9) rfl (by decide +kernel) rfl rfl (Nat.le_of_ble_eq_true rfl) dX3_begin_99 ⟨Rc_fr hRc (by decide) (by decide), P_m14 t_x hRr, Ro_fr hRo (by decide)⟩ (fun H locs wl hZ hP hD hS => ?_)
                  obtain ⟨hRc, hRr, hRo⟩ := hZ
                  refine lv_aload_n hx hb dX3_begin_102 rfl (lv_at hl 2 rfl) ?_
                  refine lv_iconst (v := nI 0) hx hb dX3_begin_103 (by decide) ?_
                  refine x_put (D := D) (G := G) (ci := 4) (ty := .int) (C := RX3) (T := TX3) (N := 23) (Z := fun wl => Rc G c wl ∧ Rr G (up2 (up2 (up2 (up2 r1 30 12 1) 30 13 1) 30 14 t_x) 30 15 0) wl ∧ Ro G o wl) hx hb hts inX3 tyX3 tyX3_ok nmX3 hown hK hP hD hS 3 (Q_m hRr) rfl 15 (by decide) (hts (.fieldLink RX3 102 "BootStageModel" "total" "I") (by decide +kernel)) (fun _ h9 => h9) rfl (by decide +kernel) rfl rfl (Nat.le_of_ble_eq_true rfl) dX3_begin_104 ⟨Rc_fr hRc (by decide) (by decide), P_m15 0 hRr, Ro_fr hRo (by decide)⟩ (fun H locs wl hZ hP hD hS => ?_)
                  obtain ⟨hRc, hRr, hRo⟩ := hZ
                  refine lv_iconst (v := nI 0) hx hb dX3_begin_107 (by decide) ?_
                  refine lv_istore_n (lv' := [(3, .int (nI 0)), (2, .int (nI j)), (0, .ref (G 3)), (1, .int x)]) hx hb dX3_begin_108 rfl hl (by decide) rfl (fun ls hl => ?_)
                  have L109 : ∀ (d k : Nat), r 30 0 - k < d → k ≤ r 30 0 → ∀ (r2 : Nat → Nat → Nat), (r2 = r_bgI (r_bgS r1 t_x) k) → ∀ (H : Heap) (locs : List Loc) (wl : va_W) (ls : Array Slot), Rc G c wl → Rr G r2 wl → Ro G o wl → va_P D vwCl wl H → va_D (fun q => h0 ≤ q) wl → va_S (fun q => h0 ≤ q) s.heap H locs → lv_has ls 4 [(3, .int (nI k)), (2, .int (nI j)), (0, .ref (G 3)), (1, .int x)] → W p l e (headSpec wsX3_begin ({ frames := 3, cells := 0, slots := 0, locals := 72 } : Room)).room s m ([.ref (G 3), .int x] : List Value).toArray below meth cd H locs 0 0 Q (F0 m 109 ls []) := by
                    intro d109
                    induction d109 with
                    | zero => intro k hd; exact absurd hd (Nat.not_lt_zero _)
                    | succ d109 ih109 =>
                      intro k hd hi r2  hc2 H locs wl ls hRc hRr hRo hP hD hS hl
                      have e30_1 : r1 30 0 = r 30 0 := e30_0
                      have hI2 : IR r2 := by rw [hc2]; exact (IR_bgI (IR_bgS hI1 (by omega)) (up2_s ..) k (by omega)).1
                      have hBr2 := IR_B hI2
                      have e30_0 : r2 30 0 = r 30 0 := by rw [hc2]; exact (rbgI_n _ k).trans e30_0
                      refine lv_iload_n hx hb dX3_begin_109 rfl (lv_at hl 0 rfl) ?_
                      refine lv_aload_n hx hb dX3_begin_110 rfl (lv_at hl 2 rfl) ?_
                      refine va_get (D := D) (ci := 4) (v := .int (nI (r 30 0))) (C := RX3) (T := TX3) (N := 23) hx hb hts inX3 hown hK hP 3 (Q_m hRr) rfl 0 (by decide) (hts (.fieldLink RX3 60 "BootStageModel" "units" "I") (by decide +kernel)) (fun _ h9 => h9) (congrArg (fun z => some (Value.int (nI z))) (show r2 30 0 = r 30 0 from by simp [up2, e30_0])) dX3_begin_111 ?_
                      refine n_icmp_ge (tgt := 197) hx hb dX3_begin_114 (by decide) (by omega) (hBr _ _ (by decide)) (fun c_114 => ?_) (fun c_114 => ?_)
                      · have hr2 : r2 = r_bgI (r_bgS r1 t_x) (r1 30 0) := by rw [hc2, show k = r1 30 0 by omega]
                        have hI3 : IR (up2 r2 30 16 0) := IR_obj hI2 (Or.inr (Or.inr (Or.inr (Or.inr (Or.inr (Or.inl ⟨rfl, by decide⟩))))))
                        have hi9 : j ≤ 400 := by omega
                        refine lv_aload_n hx hb dX3_begin_197 rfl (lv_at hl 2 rfl) ?_
                        refine lv_iconst (v := nI 0) hx hb dX3_begin_198 (by decide) ?_
                        refine x_put (D := D) (G := G) (ci := 4) (ty := .int) (C := RX3) (T := TX3) (N := 23) (Z := fun wl => Rc G c wl ∧ Rr G (up2 r2 30 16 0) wl ∧ Ro G o wl) hx hb hts inX3 tyX3 tyX3_ok nmX3 hown hK hP hD hS 3 (Q_m hRr) rfl 16 (by decide) (hts (.fieldLink RX3 105 "BootStageModel" "bar" "I") (by decide +kernel)) (fun _ h9 => h9) rfl (by decide +kernel) rfl rfl (Nat.le_of_ble_eq_true rfl) dX3_begin_199 ⟨Rc_fr hRc (by decide) (by decide), P_m16 0 hRr, Ro_fr hRo (by decide)⟩ (fun H locs wl hZ hP hD hS => ?_)
                        obtain ⟨hRc, hRr, hRo⟩ := hZ
                        refine lv_aload_n hx hb dX3_begin_202 rfl (lv_at hl 2 rfl) ?_
                        refine lv_aload_n hx hb dX3_begin_203 rfl (lv_at hl 2 rfl) ?_
                        refine y_calli (va_runV (As := []) (rest := [.ref (G 3)]) ⟨hx, hb, hml, hown, hts⟩ (k_X3_raised l D G h0 c (up2 r2 30 16 0) o hI3) (cwV 0 hts gX3_begin_X3_raised rfl rfl rfl (by decide +kernel) ⟨Nat.le_of_ble_eq_true rfl, Nat.le_of_ble_eq_true rfl⟩) ⟨fun a U g mk q => ⟨q.1, Pr_cg q.2⟩, va_recv (ci := 4) (q0 := 3) hK hP rfl (Q_m hRr), fun U hU hW => ⟨rfl, Pr_mk hE hRc hRr hRo hP hD hS hU hW⟩⟩ rfl rfl hl.1 rfl (lv_room (Nat.le_of_ble_eq_true rfl)) dX3_begin_204 ⟨Nat.le_of_ble_eq_true rfl, Nat.le_of_ble_eq_true rfl⟩) hS (fun v9 _ H locs wl hv9 hRc hRr hRo hP hD hS => ?_)
                        refine n_top (y := .int (nI (r_rs (up2 r2 30 16 0)))) (congrArg Value.int hv9) ?_
                        clear hv9 v9
                        refine x_put (D := D) (G := G) (ci := 4) (ty := .int) (C := RX3) (T := TX3) (N := 23) (Z := fun wl => Rc G c wl ∧ Rr G (up2 (up2 r2 30 16 0) 30 16 (r_rs (up2 r2 30 16 0))) wl ∧ Ro G o wl) hx hb hts inX3 tyX3 tyX3_ok nmX3 hown hK hP hD hS 3 (Q_m hRr) rfl 16 (by decide) (hts (.fieldLink RX3 105 "BootStageModel" "bar" "I") (by decide +kernel)) (fun _ h9 => h9) rfl (by decide +kernel) rfl rfl (Nat.le_of_ble_eq_true rfl) dX3_begin_207 ⟨Rc_fr hRc (by decide) (by decide), P_m16 (r_rs (up2 r2 30 16 0)) hRr, Ro_fr hRo (by decide)⟩ (fun H locs wl hZ hP hD hS => ?_)
                        obtain ⟨hRc, hRr, hRo⟩ := hZ
                        refine lv_iload_n hx hb dX3_begin_210 rfl (lv_at hl 1 rfl) ?_
                        rw [hQ]
                        have hrel : (fun (v9 : Int32) (u9 : Nat → Nat → Nat) => (¬ inR x 1 20 ∧ u9 = up2 r 30 22 1) ∨ (inR x 1 20 ∧ r 30 13 ≠ 0 ∧ u9 = up2 r 30 22 2) ∨ (∃ b J ρ, (1 ≤ b ∧ b ≤ 20) ∧ x = nI b ∧ r 30 13 = 0 ∧ (∀ a i, a ≠ 21 → ρ a i = cutI (r_clr (up2 r 30 22 0) 400) J a i) ∧ (∀ i, ρ 21 i ≤ 1) ∧ (∀ j, j < J → wkR (cutI (r_clr (up2 r 30 22 0) 400) j) ≠ 0) ∧ wkR (cutI (r_clr (up2 r 30 22 0) 400) J) = 0 ∧ J ≤ 400 ∧ v9 = nI J ∧ u9 = r_begin ρ b)) (nI j) (up2 (up2 r2 30 16 0) 30 16 (r_rs (up2 r2 30 16 0))) := by exact Or.inr (Or.inr ⟨t_x, j, r1, ht_x, hx_x, c_19, hk1, hb1, hnz, hzw, hi9, rfl, by unfold r_begin; rw [← hr2]⟩)
                        exact W.iret (v := nI j) hx hb hr (fun t ht hW => ⟨⟨_, (up2 (up2 r2 30 16 0) 30 16 (r_rs (up2 r2 30 16 0))), rfl, hrel, Wr_mk hRc hRr hRo hP hD ht⟩, hS.F ht⟩) hS.2.2 dX3_begin_211
                      · refine lv_aload_n hx hb dX3_begin_117 rfl (lv_at hl 2 rfl) ?_
                        refine va_get (D := D) (ci := 4) (v := .ref (G 15)) (C := RX3) (T := TX3) (N := 23) hx hb hts inX3 hown hK hP 3 (Q_m hRr) rfl 17 (by decide) (hts (.fieldLink RX3 41 "BootStageModel" "states" "[I") (by decide +kernel)) (fun _ h9 => h9) rfl dX3_begin_118 ?_
                        refine lv_iload_n hx hb dX3_begin_121 rfl (lv_at hl 0 rfl) ?_
                        refine lv_aload_n hx hb dX3_begin_122 rfl (lv_at hl 2 rfl) ?_
                        refine va_get (D := D) (ci := 4) (v := .ref (G 10)) (C := RX3) (T := TX3) (N := 23) hx hb hts inX3 hown hK hP 3 (Q_m hRr) rfl 6 (by decide) (hts (.fieldLink RX3 25 "BootStageModel" "isHeld" "[Z") (by decide +kernel)) (fun _ h9 => h9) rfl dX3_begin_123 ?_
                        refine lv_iload_n hx hb dX3_begin_126 rfl (lv_at hl 0 rfl) ?_
                        refine x_zald hx hb hK hP 10 (Q_a6 hRr) (by first | omega | decide | assumption) (by decide) dX3_begin_127 (v := nI (r2 6 k)) rfl ?_
                        refine n_if_eq (tgt := 135) hx hb dX3_begin_128 (by decide) (hBr2 _ _ (by decide)) (fun c_128 => ?_) (fun c_128 => ?_)
                        · refine lv_iconst (v := nI 0) hx hb dX3_begin_135 (by decide) ?_
                          refine x_iast (Z := fun wl => Rc G c wl ∧ Rr G (up2 r2 17 k 0) wl ∧ Ro G o wl) hx hb hK hP hD hS 15 (Q_a17 hRr) (by first | omega | decide | assumption) (by decide) dX3_begin_136 ⟨Rc_fr hRc (by decide) (by decide), P_a17 0 (by first | omega | decide | assumption) hRr, Ro_fr hRo (by decide)⟩ (fun H locs wl hZ hP hD hS => ?_)
                          obtain ⟨hRc, hRr, hRo⟩ := hZ
                          refine lv_aload_n hx hb dX3_begin_137 rfl (lv_at hl 2 rfl) ?_
                          refine va_get (D := D) (ci := 4) (v := .ref (G 16)) (C := RX3) (T := TX3) (N := 23) hx hb hts inX3 hown hK hP 3 (Q_m hRr) rfl 18 (by decide) (hts (.fieldLink RX3 44 "BootStageModel" "ticks" "[I") (by decide +kernel)) (fun _ h9 => h9) rfl dX3_begin_138 ?_
                          refine lv_iload_n hx hb dX3_begin_141 rfl (lv_at hl 0 rfl) ?_
                          refine lv_iconst (v := nI 0) hx hb dX3_begin_142 (by decide) ?_
                          refine x_iast (Z := fun wl => Rc G c wl ∧ Rr G (up2 (up2 r2 17 k 0) 18 k 0) wl ∧ Ro G o wl) hx hb hK hP hD hS 16 (Q_a18 hRr) (by first | omega | decide | assumption) (by decide) dX3_begin_143 ⟨Rc_fr hRc (by decide) (by decide), P_a18 0 (by first | omega | decide | assumption) hRr, Ro_fr hRo (by decide)⟩ (fun H locs wl hZ hP hD hS => ?_)
                          obtain ⟨hRc, hRr, hRo⟩ := hZ
                          refine lv_aload_n hx hb dX3_begin_144 rfl (lv_at hl 2 rfl) ?_
                          refine va_get (D := D) (ci := 4) (v := .ref (G 17)) (C := RX3) (T := TX3) (N := 23) hx hb hts inX3 hown hK hP 3 (Q_m hRr) rfl 19 (by decide) (hts (.fieldLink RX3 47 "BootStageModel" "used" "[I") (by decide +kernel)) (fun _ h9 => h9) rfl dX3_begin_145 ?_
                          refine lv_iload_n hx hb dX3_begin_148 rfl (lv_at hl 0 rfl) ?_
                          refine lv_iconst (v := nI 0) hx hb dX3_begin_149 (by decide) ?_
                          refine x_iast (Z := fun wl => Rc G c wl ∧ Rr G (up2 (up2 (up2 r2 17 k 0) 18 k 0) 19 k 0) wl ∧ Ro G o wl) hx hb hK hP hD hS 17 (Q_a19 hRr) (by first | omega | decide | assumption) (by decide) dX3_begin_150 ⟨Rc_fr hRc (by decide) (by decide), P_a19 0 (by first | omega | decide | assumption) hRr, Ro_fr hRo (by decide)⟩ (fun H locs wl hZ hP hD hS => ?_)
                          obtain ⟨hRc, hRr, hRo⟩ := hZ
                          refine lv_aload_n hx hb dX3_begin_151 rfl (lv_at hl 2 rfl) ?_
                          refine va_get (D := D) (ci := 4) (v := .ref (G 18)) (C := RX3) (T := TX3) (N := 23) hx hb hts inX3 hown hK hP 3 (Q_m hRr) rfl 20 (by decide) (hts (.fieldLink RX3 50 "BootStageModel" "counted" "[I") (by decide +kernel)) (fun _ h9 => h9) rfl dX3_begin_152 ?_
                          refine lv_iload_n hx hb dX3_begin_155 rfl (lv_at hl 0 rfl) ?_
                          refine lv_aload_n hx hb dX3_begin_156 rfl (lv_at hl 2 rfl) ?_
                          refine va_get (D := D) (ci := 4) (v := .ref (G 6)) (C := RX3) (T := TX3) (N := 23) hx hb hts inX3 hown hK hP 3 (Q_m hRr) rfl 2 (by decide) (hts (.fieldLink RX3 13 "BootStageModel" "learned" "[I") (by decide +kernel)) (fun _ h9 => h9) rfl dX3_begin_157 ?_
                          refine lv_iload_n hx hb dX3_begin_160 rfl (lv_at hl 0 rfl) ?_
                          refine x_iald hx hb hK hP 6 (Q_a2 hRr) (by first | omega | decide | assumption) (by decide) dX3_begin_161 (v := nI (r2 2 k)) (congrArg nI (show (up2 (up2 (up2 r2 17 k 0) 18 k 0) 19 k 0) 2 k = r2 2 k from by simp [up2])) ?_
                          refine x_iast (Z := fun wl => Rc G c wl ∧ Rr G (up2 (up2 (up2 (up2 r2 17 k 0) 18 k 0) 19 k 0) 20 k (r2 2 k)) wl ∧ Ro G o wl) hx hb hK hP hD hS 18 (Q_a20 hRr) (by first | omega | decide | assumption) (by decide) dX3_begin_162 ⟨Rc_fr hRc (by decide) (by decide), P_a20 (r2 2 k) (by first | omega | decide | assumption) hRr, Ro_fr hRo (by decide)⟩ (fun H locs wl hZ hP hD hS => ?_)
                          obtain ⟨hRc, hRr, hRo⟩ := hZ
                          refine lv_aload_n hx hb dX3_begin_163 rfl (lv_at hl 2 rfl) ?_
                          refine lv_dup hx hb dX3_begin_164 rfl ?_
                          refine va_get (D := D) (ci := 4) (v := .int (nI (r2 30 15))) (C := RX3) (T := TX3) (N := 23) hx hb hts inX3 hown hK hP 3 (Q_m hRr) rfl 15 (by decide) (hts (.fieldLink RX3 102 "BootStageModel" "total" "I") (by decide +kernel)) (fun _ h9 => h9) (congrArg (fun z => some (Value.int (nI z))) (show (up2 (up2 (up2 (up2 r2 17 k 0) 18 k 0) 19 k 0) 20 k (r2 2 k)) 30 15 = r2 30 15 from by simp [up2])) dX3_begin_165 ?_
                          refine lv_aload_n hx hb dX3_begin_168 rfl (lv_at hl 2 rfl) ?_
                          refine va_get (D := D) (ci := 4) (v := .ref (G 10)) (C := RX3) (T := TX3) (N := 23) hx hb hts inX3 hown hK hP 3 (Q_m hRr) rfl 6 (by decide) (hts (.fieldLink RX3 25 "BootStageModel" "isHeld" "[Z") (by decide +kernel)) (fun _ h9 => h9) rfl dX3_begin_169 ?_
                          refine lv_iload_n hx hb dX3_begin_172 rfl (lv_at hl 0 rfl) ?_
                          refine x_zald hx hb hK hP 10 (Q_a6 hRr) (by first | omega | decide | assumption) (by decide) dX3_begin_173 (v := nI (r2 6 k)) (congrArg nI (show (up2 (up2 (up2 (up2 r2 17 k 0) 18 k 0) 19 k 0) 20 k (r2 2 k)) 6 k = r2 6 k from by simp [up2])) ?_
                          refine n_if_eq (tgt := 181) hx hb dX3_begin_174 (by decide) (hBr2 _ _ (by decide)) (fun c_174 => ?_) (fun c_174 => ?_)
                          · refine lv_aload_n hx hb dX3_begin_181 rfl (lv_at hl 2 rfl) ?_
                            refine va_get (D := D) (ci := 4) (v := .ref (G 6)) (C := RX3) (T := TX3) (N := 23) hx hb hts inX3 hown hK hP 3 (Q_m hRr) rfl 2 (by decide) (hts (.fieldLink RX3 13 "BootStageModel" "learned" "[I") (by decide +kernel)) (fun _ h9 => h9) rfl dX3_begin_182 ?_
                            refine lv_iload_n hx hb dX3_begin_185 rfl (lv_at hl 0 rfl) ?_
                            refine x_iald hx hb hK hP 6 (Q_a2 hRr) (by first | omega | decide | assumption) (by decide) dX3_begin_186 (v := nI (r2 2 k)) (congrArg nI (show (up2 (up2 (up2 (up2 r2 17 k 0) 18 k 0) 19 k 0) 20 k (r2 2 k)) 2 k = r2 2 k from by simp [up2])) ?_
                            refine n_iadd hx hb dX3_begin_187 ?_
                            refine x_put (D := D) (G := G) (ci := 4) (ty := .int) (C := RX3) (T := TX3) (N := 23) (Z := fun wl => Rc G c wl ∧ Rr G (up2 (up2 (up2 (up2 (up2 r2 17 k 0) 18 k 0) 19 k 0) 20 k (r2 2 k)) 30 15 ((r2 30 15) + (r2 2 k))) wl ∧ Ro G o wl) hx hb hts inX3 tyX3 tyX3_ok nmX3 hown hK hP hD hS 3 (Q_m hRr) rfl 15 (by decide) (hts (.fieldLink RX3 102 "BootStageModel" "total" "I") (by decide +kernel)) (fun _ h9 => h9) rfl (by decide +kernel) rfl rfl (Nat.le_of_ble_eq_true rfl) dX3_begin_188 ⟨Rc_fr hRc (by decide) (by decide), P_m15 ((r2 30 15) + (r2 2 k)) hRr, Ro_fr hRo (by decide)⟩ (fun H locs wl hZ hP hD hS => ?_)
                            obtain ⟨hRc, hRr, hRo⟩ := hZ
                            refine lv_iinc (v := nI (k + 1)) (lv' := [(3, .int (nI (k + 1))), (2, .int (nI j)), (0, .ref (G 3)), (1, .int x)]) hx hb dX3_begin_191 hl (k := 0) rfl (nI_add k 1) (by decide) rfl (fun ls hl => ?_)
                            refine lv_goto (tgt := 109) hx hb dX3_begin_194 (by decide) ?_
                            exact ih109 (k + 1) (by omega) (by omega) (up2 (up2 (up2 (up2 (up2 r2 17 k 0) 18 k 0) 19 k 0) 20 k (r2 2 k)) 30 15 ((r2 30 15) + (r2 2 k))) (by show _ = r_bg1 (r_bgI (r_bgS r1 t_x) k) k; rw [← hc2]; unfold r_bg1; rw [if_pos c_128, if_pos c_128]) _ _ _ _ hRc hRr hRo hP hD hS (lv_sub hl [0, 1, 2, 3] rfl)
                          · exfalso; omega
                        · refine lv_iconst (v := nI 4) hx hb dX3_begin_131 (by decide) ?_
                          refine lv_goto (tgt := 136) hx hb dX3_begin_132 (by decide) ?_
                          refine x_iast (Z := fun wl => Rc G c wl ∧ Rr G (up2 r2 17 k 4) wl ∧ Ro G o wl) hx hb hK hP hD hS 15 (Q_a17 hRr) (by first | omega | decide | assumption) (by decide) dX3_begin_136 ⟨Rc_fr hRc (by decide) (by decide), P_a17 4 (by first | omega | decide | assumption) hRr, Ro_fr hRo (by decide)⟩ (fun H locs wl hZ hP hD hS => ?_)
                          obtain ⟨hRc, hRr, hRo⟩ := hZ
                          refine lv_aload_n hx hb dX3_begin_137 rfl (lv_at hl 2 rfl) ?_
                          refine va_get (D := D) (ci := 4) (v := .ref (G 16)) (C := RX3) (T := TX3) (N := 23) hx hb hts inX3 hown hK hP 3 (Q_m hRr) rfl 18 (by decide) (hts (.fieldLink RX3 44 "BootStageModel" "ticks" "[I") (by decide +kernel)) (fun _ h9 => h9) rfl dX3_begin_138 ?_
                          refine lv_iload_n hx hb dX3_begin_141 rfl (lv_at hl 0 rfl) ?_
                          refine lv_iconst (v := nI 0) hx hb dX3_begin_142 (by decide) ?_
                          refine x_iast (Z := fun wl => Rc G c wl ∧ Rr G (up2 (up2 r2 17 k 4) 18 k 0) wl ∧ Ro G o wl) hx hb hK hP hD hS 16 (Q_a18 hRr) (by first | omega | decide | assumption) (by decide) dX3_begin_143 ⟨Rc_fr hRc (by decide) (by decide), P_a18 0 (by first | omega | decide | assumption) hRr, Ro_fr hRo (by decide)⟩ (fun H locs wl hZ hP hD hS => ?_)
                          obtain ⟨hRc, hRr, hRo⟩ := hZ
                          refine lv_aload_n hx hb dX3_begin_144 rfl (lv_at hl 2 rfl) ?_
                          refine va_get (D := D) (ci := 4) (v := .ref (G 17)) (C := RX3) (T := TX3) (N := 23) hx hb hts inX3 hown hK hP 3 (Q_m hRr) rfl 19 (by decide) (hts (.fieldLink RX3 47 "BootStageModel" "used" "[I") (by decide +kernel)) (fun _ h9 => h9) rfl dX3_begin_145 ?_
                          refine lv_iload_n hx hb dX3_begin_148 rfl (lv_at hl 0 rfl) ?_
                          refine lv_iconst (v := nI 0) hx hb dX3_begin_149 (by decide) ?_
                          refine x_iast (Z := fun wl => Rc G c wl ∧ Rr G (up2 (up2 (up2 r2 17 k 4) 18 k 0) 19 k 0) wl ∧ Ro G o wl) hx hb hK hP hD hS 17 (Q_a19 hRr) (by first | omega | decide | assumption) (by decide) dX3_begin_150 ⟨Rc_fr hRc (by decide) (by decide), P_a19 0 (by first | omega | decide | assumption) hRr, Ro_fr hRo (by decide)⟩ (fun H locs wl hZ hP hD hS => ?_)
                          obtain ⟨hRc, hRr, hRo⟩ := hZ
                          refine lv_aload_n hx hb dX3_begin_151 rfl (lv_at hl 2 rfl) ?_
                          refine va_get (D := D) (ci := 4) (v := .ref (G 18)) (C := RX3) (T := TX3) (N := 23) hx hb hts inX3 hown hK hP 3 (Q_m hRr) rfl 20 (by decide) (hts (.fieldLink RX3 50 "BootStageModel" "counted" "[I") (by decide +kernel)) (fun _ h9 => h9) rfl dX3_begin_152 ?_
                          refine lv_iload_n hx hb dX3_begin_155 rfl (lv_at hl 0 rfl) ?_
                          refine lv_aload_n hx hb dX3_begin_156 rfl (lv_at hl 2 rfl) ?_
                          refine va_get (D := D) (ci := 4) (v := .ref (G 6)) (C := RX3) (T := TX3) (N := 23) hx hb hts inX3 hown hK hP 3 (Q_m hRr) rfl 2 (by decide) (hts (.fieldLink RX3 13 "BootStageModel" "learned" "[I") (by decide +kernel)) (fun _ h9 => h9) rfl dX3_begin_157 ?_
                          refine lv_iload_n hx hb dX3_begin_160 rfl (lv_at hl 0 rfl) ?_
                          refine x_iald hx hb hK hP 6 (Q_a2 hRr) (by first | omega | decide | assumption) (by decide) dX3_begin_161 (v := nI (r2 2 k)) (congrArg nI (show (up2 (up2 (up2 r2 17 k 4) 18 k 0) 19 k 0) 2 k = r2 2 k from by simp [up2])) ?_
                          refine x_iast (Z := fun wl => Rc G c wl ∧ Rr G (up2 (up2 (up2 (up2 r2 17 k 4) 18 k 0) 19 k 0) 20 k (r2 2 k)) wl ∧ Ro G o wl) hx hb hK hP hD hS 18 (Q_a20 hRr) (by first | omega | decide | assumption) (by decide) dX3_begin_162 ⟨Rc_fr hRc (by decide) (by decide), P_a20 (r2 2 k) (by first | omega | decide | assumption) hRr, Ro_fr hRo (by decide)⟩ (fun H locs wl hZ hP hD hS => ?_)
                          obtain ⟨hRc, hRr, hRo⟩ := hZ
                          refine lv_aload_n hx hb dX3_begin_163 rfl (lv_at hl 2 rfl) ?_
                          refine lv_dup hx hb dX3_begin_164 rfl ?_
                          refine va_get (D := D) (ci := 4) (v := .int (nI (r2 30 15))) (C := RX3) (T := TX3) (N := 23) hx hb hts inX3 hown hK hP 3 (Q_m hRr) rfl 15 (by decide) (hts (.fieldLink RX3 102 "BootStageModel" "total" "I") (by decide +kernel)) (fun _ h9 => h9) (congrArg (fun z => some (Value.int (nI z))) (show (up2 (up2 (up2 (up2 r2 17 k 4) 18 k 0) 19 k 0) 20 k (r2 2 k)) 30 15 = r2 30 15 from by simp [up2])) dX3_begin_165 ?_
                          refine lv_aload_n hx hb dX3_begin_168 rfl (lv_at hl 2 rfl) ?_
                          refine va_get (D := D) (ci := 4) (v := .ref (G 10)) (C := RX3) (T := TX3) (N := 23) hx hb hts inX3 hown hK hP 3 (Q_m hRr) rfl 6 (by decide) (hts (.fieldLink RX3 25 "BootStageModel" "isHeld" "[Z") (by decide +kernel)) (fun _ h9 => h9) rfl dX3_begin_169 ?_
                          refine lv_iload_n hx hb dX3_begin_172 rfl (lv_at hl 0 rfl) ?_
                          refine x_zald hx hb hK hP 10 (Q_a6 hRr) (by first | omega | decide | assumption) (by decide) dX3_begin_173 (v := nI (r2 6 k)) (congrArg nI (show (up2 (up2 (up2 (up2 r2 17 k 4) 18 k 0) 19 k 0) 20 k (r2 2 k)) 6 k = r2 6 k from by simp [up2])) ?_
                          refine n_if_eq (tgt := 181) hx hb dX3_begin_174 (by decide) (hBr2 _ _ (by decide)) (fun c_174 => ?_) (fun c_174 => ?_)
                          · exfalso; omega
                          · refine lv_iconst (v := nI 0) hx hb dX3_begin_177 (by decide) ?_
                            refine lv_goto (tgt := 187) hx hb dX3_begin_178 (by decide) ?_
                            refine n_iadd hx hb dX3_begin_187 ?_
                            refine x_put (D := D) (G := G) (ci := 4) (ty := .int) (C := RX3) (T := TX3) (N := 23) (Z := fun wl => Rc G c wl ∧ Rr G (up2 (up2 (up2 (up2 (up2 r2 17 k 4) 18 k 0) 19 k 0) 20 k (r2 2 k)) 30 15 ((r2 30 15) + 0)) wl ∧ Ro G o wl) hx hb hts inX3 tyX3 tyX3_ok nmX3 hown hK hP hD hS 3 (Q_m hRr) rfl 15 (by decide) (hts (.fieldLink RX3 102 "BootStageModel" "total" "I") (by decide +kernel)) (fun _ h9 => h9) rfl (by decide +kernel) rfl rfl (Nat.le_of_ble_eq_true rfl) dX3_begin_188 ⟨Rc_fr hRc (by decide) (by decide), P_m15 ((r2 30 15) + 0) hRr, Ro_fr hRo (by decide)⟩ (fun H locs wl hZ hP hD hS => ?_)
                            obtain ⟨hRc, hRr, hRo⟩ := hZ
                            refine lv_iinc (v := nI (k + 1)) (lv' := [(3, .int (nI (k + 1))), (2, .int (nI j)), (0, .ref (G 3)), (1, .int x)]) hx hb dX3_begin_191 hl (k := 0) rfl (nI_add k 1) (by decide) rfl (fun ls hl => ?_)
                            refine lv_goto (tgt := 109) hx hb dX3_begin_194 (by decide) ?_
                            exact ih109 (k + 1) (by omega) (by omega) (up2 (up2 (up2 (up2 (up2 r2 17 k 4) 18 k 0) 19 k 0) 20 k (r2 2 k)) 30 15 ((r2 30 15) + 0)) (by show _ = r_bg1 (r_bgI (r_bgS r1 t_x) k) k; rw [← hc2]; unfold r_bg1; rw [if_neg (Nat.ne_of_gt c_128), if_neg (Nat.ne_of_gt c_128)]) _ _ _ _ hRc hRr hRo hP hD hS (lv_sub hl [0, 1, 2, 3] rfl)
                  exact L109 _ 0 (Nat.lt_succ_self _) (by omega) (up2 (up2 (up2 (up2 r1 30 12 1) 30 13 1) 30 14 t_x) 30 15 0) (by rfl) _ _ _ _ hRc hRr hRo hP hD hS (lv_sub hl [0, 1, 2, 3] rfl)
                · skip
                  refine lv_iload_n hx hb dX3_begin_64 rfl (lv_at hl 1 rfl) ?_
                  refine n_top (y := .int (nI w)) (congrArg Value.int (by rw [hzw]; exact siI_s _)) ?_
                  refine lv_iconst (v := (-1)) hx hb dX3_begin_65 (by decide) ?_
                  refine lv_icmp_eq (tgt := 87) hx hb dX3_begin_66 (by decide) (fun c_66 => absurd c_66 (fun z => nI_pos (show w < 2 ^ 31 from (Nat.lt_trans (wkR_P hn1 hzw).1 (by decide))) (by rw [z]; decide))) (fun c_66 => ?_)
                  refine lv_aload_n hx hb dX3_begin_69 rfl (lv_at hl 2 rfl) ?_
                  refine va_get (D := D) (ci := 4) (v := .ref (G 14)) (C := RX3) (T := TX3) (N := 23) hx hb hts inX3 hown hK hP 3 (Q_m hRr) rfl 11 (by decide) (hts (.fieldLink RX3 38 "BootStageModel" "isCut" "[Z") (by decide +kernel)) (fun _ h9 => h9) rfl dX3_begin_70 ?_
                  refine lv_iload_n hx hb dX3_begin_73 rfl (lv_at hl 1 rfl) ?_
                  refine n_top (y := .int (nI w)) (congrArg Value.int (by rw [hzw]; exact siI_s _)) ?_
                  refine lv_iconst (v := nI 1) hx hb dX3_begin_74 (by decide) ?_
                  refine x_zast (Z := fun wl => Rc G c wl ∧ Rr G (up2 r1 11 w 1) wl ∧ Ro G o wl) hx hb hK hP hD hS 14 (Q_a11 hRr) (by exact (wkR_P hn1 hzw).1) (by decide) dX3_begin_75 ⟨Rc_fr hRc (by decide) (by decide), P_a11 1 (by exact Nat.lt_trans (wkR_P hn1 hzw).1 (by decide)) (by first | exact bN_le _ | decide | omega | assumption) hRr, Ro_fr hRo (by decide)⟩ (fun H locs wl hZ hP hD hS => ?_)
                  obtain ⟨hRc, hRr, hRo⟩ := hZ
                  refine lv_iinc (v := nI (j + 1)) (lv' := [(2, .int (nI (j + 1))), (3, .int (siI (wkR (cutI (r_clr (up2 r 30 22 0) 400) j)))), (0, .ref (G 3)), (1, .int x)]) hx hb dX3_begin_76 hl (k := 0) rfl (nI_add j 1) (by decide) rfl (fun ls hl => ?_)
                  refine lv_aload_n hx hb dX3_begin_79 rfl (lv_at hl 2 rfl) ?_
                  refine y_calli (va_runV (As := []) (rest := []) ⟨hx, hb, hml, hown, hts⟩ (k_X3_weakest l D G h0 c (up2 r1 11 w 1) o (IR_E11 hI1 (Nat.le_refl _))) (cwV 0 hts gX3_begin_X3_weakest rfl rfl rfl (by decide +kernel) ⟨Nat.le_of_ble_eq_true rfl, Nat.le_of_ble_eq_true rfl⟩) ⟨fun a U g mk q => ⟨q.1, Pr_cg q.2⟩, va_recv (ci := 4) (q0 := 3) hK hP rfl (Q_m hRr), fun U hU hW => ⟨rfl, Pr_mk hE hRc hRr hRo hP hD hS hU hW⟩⟩ rfl rfl hl.1 rfl (lv_room (Nat.le_of_ble_eq_true rfl)) dX3_begin_80 ⟨Nat.le_of_ble_eq_true rfl, Nat.le_of_ble_eq_true rfl⟩) hS (fun v9 u_80 H locs wl hv9 hRc hRr hRo hP hD hS => ?_)
                  obtain ⟨hv9, ho_80, hb_80⟩ := hv9
                  refine n_top (y := .int (siI (wkR (up2 r1 11 w 1)))) (congrArg Value.int hv9) ?_
                  clear hv9
                  refine lv_istore_n (lv' := [(3, .int (siI (wkR (up2 r1 11 w 1)))), (2, .int (nI (j + 1))), (0, .ref (G 3)), (1, .int x)]) hx hb dX3_begin_83 rfl hl (by decide) rfl (fun ls hl => ?_)
                  refine lv_goto (tgt := 64) hx hb dX3_begin_84 (by decide) ?_
                  exact ih64 (j + 1) (by have h8 := unc_dn hn1 hzw; omega) (by have h8 := unc_dn hn1 hzw; omega) (u_80) (by intro q z hq; rw [ho_80 q z hq]; show _ = up2 (cutI (r_clr (up2 r 30 22 0) 400) j) 11 (wkR (cutI (r_clr (up2 r 30 22 0) 400) j) - 1) 1 q z; rw [hzw, Nat.add_sub_cancel]; exact up_cg hk1 hq) (by exact hb_80) (by intro q hq; rcases Nat.lt_or_ge q j with e9 | e9; exact hnz q e9; rw [show q = j by omega, hzw]; exact Nat.succ_ne_zero _) (by have h9 := unc_dn hn1 hzw; show j + 1 + unc (up2 (cutI (r_clr (up2 r 30 22 0) 400) j) 11 (wkR (cutI (r_clr (up2 r 30 22 0) 400) j) - 1) 1) ≤ 400; rw [hzw, Nat.add_sub_cancel]; omega) _ _ _ _ hRc hRr hRo hP hD hS (show lv_has ls 4 [(2, .int (nI (j + 1))), (3, .int (siI (wkR (cutI (r_clr (up2 r 30 22 0) 400) (j + 1))))), (0, .ref (G 3)), (1, .int x)] from by rw [show ((.int (siI (wkR (cutI (r_clr (up2 r 30 22 0) 400) (j + 1)))) : Value)) = .int (siI (wkR (up2 r1 11 w 1))) from by exact congrArg (fun z => Value.int (siI z)) (show wkR (cutI (r_clr (up2 r 30 22 0) 400) (j + 1)) = _ by rw [show cutI (r_clr (up2 r 30 22 0) 400) (j + 1) = up2 (cutI (r_clr (up2 r 30 22 0) 400) j) 11 (wkR (cutI (r_clr (up2 r 30 22 0) 400) j) - 1) 1 from rfl, hzw, Nat.add_sub_cancel]; exact (wkR_cg (fun a q hq => up_cg hk1 hq)).symm)]; exact lv_sub hl [1, 0, 2, 3] rfl)
            exact L64 _ 0 (Nat.lt_succ_self _) (by omega) (u_60) (by intro a q hq; rw [ho_60 a q hq, show i = 400 by omega]; rfl) (by exact hb_60) (by intro q hq; exact absurd hq (Nat.not_lt_zero _)) (by exact Nat.le_trans (Nat.le_of_eq (Nat.zero_add _)) (ct_le _)) _ _ _ _ hRc hRr hRo hP hD hS (show lv_has ls 4 [(2, .int (nI 0)), (3, .int (siI (wkR (cutI (r_clr (up2 r 30 22 0) 400) 0)))), (0, .ref (G 3)), (1, .int x)] from by rw [show ((.int (siI (wkR (cutI (r_clr (up2 r 30 22 0) 400) 0))) : Value)) = .int (siI (wkR (r_clr (up2 r 30 22 0) i))) from by rw [show i = 400 by omega]; rfl]; exact lv_sub hl [1, 0, 2, 3] rfl)
          · refine lv_aload_n hx hb dX3_begin_46 rfl (lv_at hl 2 rfl) ?_
            refine va_get (D := D) (ci := 4) (v := .ref (G 14)) (C := RX3) (T := TX3) (N := 23) hx hb hts inX3 hown hK hP 3 (Q_m hRr) rfl 11 (by decide) (hts (.fieldLink RX3 38 "BootStageModel" "isCut" "[Z") (by decide +kernel)) (fun _ h9 => h9) rfl dX3_begin_47 ?_
            refine lv_iload_n hx hb dX3_begin_50 rfl (lv_at hl 0 rfl) ?_
            refine lv_iconst (v := nI 0) hx hb dX3_begin_51 (by decide) ?_
            refine x_zast (Z := fun wl => Rc G c wl ∧ Rr G (up2 (r_clr (up2 r 30 22 0) i) 11 i 0) wl ∧ Ro G o wl) hx hb hK hP hD hS 14 (Q_a11 hRr) (by first | omega | decide | assumption) (by decide) dX3_begin_52 ⟨Rc_fr hRc (by decide) (by decide), P_a11 0 (by first | omega | decide | assumption) (by first | exact bN_le _ | decide | omega | assumption) hRr, Ro_fr hRo (by decide)⟩ (fun H locs wl hZ hP hD hS => ?_)
            obtain ⟨hRc, hRr, hRo⟩ := hZ
            refine lv_iinc (v := nI (i + 1)) (lv' := [(3, .int (nI (i + 1))), (2, .int (nI 0)), (0, .ref (G 3)), (1, .int x)]) hx hb dX3_begin_53 hl (k := 0) rfl (nI_add i 1) (by decide) rfl (fun ls hl => ?_)
            refine lv_goto (tgt := 39) hx hb dX3_begin_56 (by decide) ?_
            exact ih39 (i + 1) (by omega) (by omega)   _ _ _ _ hRc (show Rr G (r_clr (up2 r 30 22 0) (i + 1)) wl from by rw [show (r_clr (up2 r 30 22 0) (i + 1)) = up2 (r_clr (up2 r 30 22 0) i) 11 i 0 from by exact (clr_s _ _).symm]; exact hRr) hRo hP hD hS (lv_sub hl [0, 1, 2, 3] rfl)
      exact L39 _ 0 (Nat.lt_succ_self _) (by omega)   _ _ _ _ hRc (show Rr G (r_clr (up2 r 30 22 0) 0) wl from by rw [show (r_clr (up2 r 30 22 0) 0) = up2 r 30 22 0 from by exact clr_0 _]; exact hRr) hRo hP hD hS (lv_sub hl [0, 1, 2, 3] rfl)
    · refine lv_iconst (v := nI 2) hx hb dX3_begin_22 (by decide) ?_
      refine lv_goto (tgt := 27) hx hb dX3_begin_23 (by decide) ?_
      refine y_calli (va_runV (As := [.int (nI 2)]) (rest := []) ⟨hx, hb, hml, hown, hts⟩ (k_X3_goes l D G h0 c r o 2 (by decide)) (cwV 1 hts gX3_begin_X3_goes rfl rfl rfl (by decide +kernel) ⟨Nat.le_of_ble_eq_true rfl, Nat.le_of_ble_eq_true rfl⟩) ⟨fun a U g mk q => ⟨q.1, Pr_cg q.2⟩, va_recv (ci := 4) (q0 := 3) hK hP rfl (Q_m hRr), fun U hU hW => ⟨rfl, Pr_mk hE hRc hRr hRo hP hD hS hU hW⟩⟩ rfl rfl hl.1 rfl (lv_room (Nat.le_of_ble_eq_true rfl)) dX3_begin_27 ⟨Nat.le_of_ble_eq_true rfl, Nat.le_of_ble_eq_true rfl⟩) hS (fun v9 _ H locs wl hv9 hRc hRr hRo hP hD hS => ?_)
      refine n_top (y := .int (nI 0)) (congrArg Value.int (hv9.trans (congrArg nI (bN_f (by decide))))) ?_
      clear hv9 v9
      refine n_if_ne (tgt := 35) hx hb dX3_begin_30 (by decide) (by decide) (fun c_30 => absurd c_30 (by decide)) (fun c_30 => ?_)
      refine lv_iconst (v := nI 0) hx hb dX3_begin_33 (by decide) ?_
      rw [hQ]
      have hrel : (fun (v9 : Int32) (u9 : Nat → Nat → Nat) => (¬ inR x 1 20 ∧ u9 = up2 r 30 22 1) ∨ (inR x 1 20 ∧ r 30 13 ≠ 0 ∧ u9 = up2 r 30 22 2) ∨ (∃ b J ρ, (1 ≤ b ∧ b ≤ 20) ∧ x = nI b ∧ r 30 13 = 0 ∧ (∀ a i, a ≠ 21 → ρ a i = cutI (r_clr (up2 r 30 22 0) 400) J a i) ∧ (∀ i, ρ 21 i ≤ 1) ∧ (∀ j, j < J → wkR (cutI (r_clr (up2 r 30 22 0) 400) j) ≠ 0) ∧ wkR (cutI (r_clr (up2 r 30 22 0) 400) J) = 0 ∧ J ≤ 400 ∧ v9 = nI J ∧ u9 = r_begin ρ b)) (nI 0) (up2 r 30 22 2) := by exact Or.inr (Or.inl ⟨by rw [hx_x]; exact inR_of ht_x.1 ht_x.2 (by decide), Nat.ne_of_gt c_19, rfl⟩)
      exact W.iret (v := nI 0) hx hb hr (fun t ht hW => ⟨⟨_, (up2 r 30 22 2), rfl, hrel, Wr_mk hRc hRr hRo hP hD ht⟩, hS.F ht⟩) hS.2.2 dX3_begin_34
  · refine lv_iconst (v := nI 1) hx hb dX3_begin_11 (by decide) ?_
    refine lv_goto (tgt := 27) hx hb dX3_begin_12 (by decide) ?_
    refine y_calli (va_runV (As := [.int (nI 1)]) (rest := []) ⟨hx, hb, hml, hown, hts⟩ (k_X3_goes l D G h0 c r o 1 (by decide)) (cwV 1 hts gX3_begin_X3_goes rfl rfl rfl (by decide +kernel) ⟨Nat.le_of_ble_eq_true rfl, Nat.le_of_ble_eq_true rfl⟩) ⟨fun a U g mk q => ⟨q.1, Pr_cg q.2⟩, va_recv (ci := 4) (q0 := 3) hK hP rfl (Q_m hRr), fun U hU hW => ⟨rfl, Pr_mk hE hRc hRr hRo hP hD hS hU hW⟩⟩ rfl rfl hl.1 rfl (lv_room (Nat.le_of_ble_eq_true rfl)) dX3_begin_27 ⟨Nat.le_of_ble_eq_true rfl, Nat.le_of_ble_eq_true rfl⟩) hS (fun v9 _ H locs wl hv9 hRc hRr hRo hP hD hS => ?_)
    refine n_top (y := .int (nI 0)) (congrArg Value.int (hv9.trans (congrArg nI (bN_f (by decide))))) ?_
    clear hv9 v9
    refine n_if_ne (tgt := 35) hx hb dX3_begin_30 (by decide) (by decide) (fun c_30 => absurd c_30 (by decide)) (fun c_30 => ?_)
    refine lv_iconst (v := nI 0) hx hb dX3_begin_33 (by decide) ?_
    rw [hQ]
    have hrel : (fun (v9 : Int32) (u9 : Nat → Nat → Nat) => (¬ inR x 1 20 ∧ u9 = up2 r 30 22 1) ∨ (inR x 1 20 ∧ r 30 13 ≠ 0 ∧ u9 = up2 r 30 22 2) ∨ (∃ b J ρ, (1 ≤ b ∧ b ≤ 20) ∧ x = nI b ∧ r 30 13 = 0 ∧ (∀ a i, a ≠ 21 → ρ a i = cutI (r_clr (up2 r 30 22 0) 400) J a i) ∧ (∀ i, ρ 21 i ≤ 1) ∧ (∀ j, j < J → wkR (cutI (r_clr (up2 r 30 22 0) 400) j) ≠ 0) ∧ wkR (cutI (r_clr (up2 r 30 22 0) 400) J) = 0 ∧ J ≤ 400 ∧ v9 = nI J ∧ u9 = r_begin ρ b)) (nI 0) (up2 r 30 22 1) := by exact Or.inl ⟨c_8, rfl⟩
    exact W.iret (v := nI 0) hx hb hr (fun t ht hW => ⟨⟨_, (up2 r 30 22 1), rfl, hrel, Wr_mk hRc hRr hRo hP hD ht⟩, hS.F ht⟩) hS.2.2 dX3_begin_34
