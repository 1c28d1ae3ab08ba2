theorem cut_hi {c : Nat → Nat → Nat} {u : Nat} (h : ∀ j, j < c 30 0 → c 31 j ≠ u) : (cutC c).1 8 u = c 8 u := by
  have hk : ∀ k, k ≤ c 30 0 → c_kaI c k 8 u = c 8 u := by
    intro k
    induction k with
    | zero => intro _; rfl
    | succ k ih =>
      intro hk
      show c_ka1 (c_kaI c k) k 8 u = _
      unfold c_ka1
      rw [kaI_n c 31 k (by decide), up2_i (fun z => h k (by omega) z.symm)]
      exact ih (by omega)
  have hJ : ∀ (wt : Nat) (x : (Nat → Nat → Nat) × Nat), (∀ a i, a ≠ 8 → x.1 a i = c a i) → ∀ j, j ≤ c 30 0 → (ctJ wt x j).1 8 u = x.1 8 u := by
    intro wt x hx j
    induction j with
    | zero => intro _; rfl
    | succ j ih =>
      intro hj
      show (ct1 wt (ctJ wt x j) j).1 8 u = _
      by_cases hs : ctS (ctJ wt x j).1 wt j
      · rw [ct1_t hs]
        show c_cut (ctJ wt x j).1 j 8 u = _
        unfold c_cut
        rw [ctJ_n wt x 31 j (by decide) j, hx 31 j (by decide), up2_i (fun z => h j (by omega) z.symm)]
        exact ih (by omega)
      · rw [ct1_f hs]
        exact ih (by omega)
  have hW : ∀ k, (ctW (c 30 0) (c_kaI c (c 30 0), 0) k).1 8 u = c 8 u := by
    intro k
    induction k with
    | zero => exact hk _ (Nat.le_refl _)
    | succ k ih =>
      show (ctJ (k + 1) (ctW (c 30 0) (c_kaI c (c 30 0), 0) k) (c 30 0)).1 8 u = _
      rw [hJ (k + 1) _ (fun a i ha => (ctW_n _ _ a i ha k).trans (kaI_n c a i ha _)) _ (Nat.le_refl _)]
      exact ih
  exact hW 100
theorem cutC_le (c : Nat → Nat → Nat) : (cutC c).2 ≤ c 30 0 * 100 := by
  have hJ : ∀ (wt : Nat) (x : (Nat → Nat → Nat) × Nat) (j : Nat), (ctJ wt x j).2 ≤ x.2 + j := by
    intro wt x j
    induction j with
    | zero => exact Nat.le_refl _
    | succ j ih =>
      show (ct1 wt (ctJ wt x j) j).2 ≤ _
      by_cases h : ctS (ctJ wt x j).1 wt j
      · rw [ct1_t h]; show (ctJ wt x j).2 + 1 ≤ _; omega
      · rw [ct1_f h]; omega
  have hW : ∀ (n : Nat) (x : (Nat → Nat → Nat) × Nat) (k : Nat), (ctW n x k).2 ≤ x.2 + n * k := by
    intro n x k
    induction k with
    | zero => exact Nat.le_refl _
    | succ k ih =>
      have h1 := hJ (k + 1) (ctW n x k) n
      have h2 : n * (k + 1) = n * k + n := Nat.mul_succ n k
      show (ctJ (k + 1) (ctW n x k) n).2 ≤ _
      omega
  have h := hW (c 30 0) (c_kaI c (c 30 0), 0) 100
  show (ctW (c 30 0) (c_kaI c (c 30 0), 0) 100).2 ≤ _
  omega
theorem rbg_n (r : Nat → Nat → Nat) (a i : Nat) (ha : a ≠ 17 ∧ a ≠ 18 ∧ a ≠ 19 ∧ a ≠ 20 ∧ (a ≠ 30 ∨ i ≠ 15)) : ∀ k, r_bgI r k a i = r a i
  | 0 => rfl
  | k + 1 => by
    have h : r_bg1 (r_bgI r k) k a i = r_bgI r k a i := by
      unfold r_bg1
      rw [up_off (fun z => by omega), up2_c (show a ≠ 20 by omega), up2_c (show a ≠ 19 by omega), up2_c (show a ≠ 18 by omega), up2_c (show a ≠ 17 by omega)]
    exact h.trans (rbg_n r a i ha k)
theorem bg_step {c r : Nat → Nat → Nat} {u : Nat} (hS : Eqs c r) (hN : Eqn c r) (h5 : r 30 15 = c 20 5) (hu : u < c 20 1) : Eqs (c_bg1 c u) (r_bg1 r u) ∧ Eqn (c_bg1 c u) (r_bg1 r u) ∧ r_bg1 r u 30 15 = c_bg1 c u 20 5 := by
  obtain ⟨s4, s5, s9, s10, s11, s12⟩ := hS u
  obtain ⟨n1, n2, n3, n6⟩ := hN u hu
  have h := stp (c := c) (c' := c_reset c u) (r := r) (r' := up2 (up2 (up2 (up2 r 17 u (if r 6 u = 0 then 0 else 4)) 18 u 0) 19 u 0) 20 u (r 2 u)) (u := u) (Off_reset c u) (Ofr_up (Ofr_up (Ofr_up (Ofr_up Ofr_r (uR_d rfl)) (uR_d rfl)) (uR_d rfl)) (uR_d rfl)) hS hN (by
    unfold c_reset
    simp [up2]
    rw [s5]
    refine ⟨s4, rfl, rfl, ?_, n3⟩
    split <;> simp) (fun _ => by
    unfold c_reset
    simp [up2]
    exact ⟨n1, n2, n3⟩)
  refine ⟨h.1, h.2, ?_⟩
  unfold r_bg1 c_bg1
  rw [up2_s, up2_s, h5, s5, n3]
theorem bg_all {c r : Nat → Nat → Nat} (hS : Eqs c r) (hN : Eqn c r) (h5 : r 30 15 = c 20 5) : ∀ k, k ≤ c 20 1 → Eqs (c_bgI c k) (r_bgI r k) ∧ Eqn (c_bgI c k) (r_bgI r k) ∧ r_bgI r k 30 15 = c_bgI c k 20 5
  | 0, _ => ⟨hS, hN, h5⟩
  | k + 1, hk => by
    obtain ⟨h1, h2, h3⟩ := bg_all hS hN h5 k (by omega)
    exact bg_step h1 h2 h3 (by rw [bgI_n c 20 1 (by omega) k]; omega)
/-- what the start sets -/
theorem bg_val {c : Nat → Nat → Nat} (h0 : c 20 5 = 0) : ∀ k, (∀ w a, (k ≤ w ∨ a < 9 ∨ a = 10) → a ≤ 12 → c_bgI c k a w = c a w) ∧ (∀ w, w < k → c_bgI c k 9 w = (if c 5 w = 0 then 0 else 4) ∧ c_bgI c k 12 w = c 3 w) ∧ c_bgI c k 20 5 = sm (fun u => if c 5 u = 0 then c 3 u else 0) k
  | 0 => ⟨fun _ _ _ _ => rfl, fun w hw => absurd hw (Nat.not_lt_zero w), h0⟩
  | k + 1 => by
    obtain ⟨i1, i2, i3⟩ := bg_val h0 k
    have hk : c_bgI c (k + 1) = c_bg1 (c_bgI c k) k := rfl
    rw [hk]
    refine ⟨fun w a ha hb => ?_, fun w hw => ?_, ?_⟩
    · rw [← i1 w a (by omega) hb]
      unfold c_bg1 c_reset
      rw [up2_c (show a ≠ 20 by omega), up_off (fun z => by omega), up_off (fun z => by omega), up_off (fun z => by omega)]
    · rcases Nat.lt_or_ge w k with e | e
      · obtain ⟨z1, z2⟩ := i2 w e
        unfold c_bg1 c_reset
        simp [up2, show w ≠ k by omega]
        exact ⟨z1, z2⟩
      · have : w = k := by omega
        subst this
        unfold c_bg1 c_reset
        simp [up2]
        rw [i1 w 5 (by omega) (by omega), i1 w 3 (by omega) (by omega)]
        exact ⟨rfl, rfl⟩
    · unfold c_bg1
      rw [up2_s, i3, i1 k 5 (by omega) (by omega), i1 k 3 (by omega) (by omega)]
      rfl
theorem bar_eq {C R : Nat → Nat → Nat} (hS : Eqs C R) (hn : R 30 0 = C 20 1) (h15 : R 30 15 = C 20 5) (h16 : R 30 16 = C 20 6) (hg : C 20 3 ≠ 0) : c_bar C = up2 C 20 6 (r_rs R) := by
  have hpart : sm (c_part C) (C 20 1) = sm (r_part R) (R 30 0) := by
    rw [hn]
    exact sm_cg (fun w _ => by
      obtain ⟨s4, s5, s9, s10, s11, s12⟩ := hS w
      unfold c_part r_part
      rw [s12, ← s9]
      split
      · rfl
      · split
        · rename_i h1
          have := s10 h1
          split <;> omega
        · rfl)
  have hi : r_its R = (if C 20 3 ≠ 0 ∧ 0 < C 20 5 then 1000 * sm (c_part C) (C 20 1) / C 20 5 else 1000) := by
    unfold r_its
    rw [h15, hpart]
    by_cases e : C 20 5 = 0
    · rw [if_pos e, if_neg (fun z => by omega)]
    · rw [if_neg e, if_pos ⟨hg, by omega⟩]
  unfold c_bar r_rs
  rw [hi, h16, rmax]
theorem sm_0 {f : Nat → Nat} : ∀ {n : Nat}, (∀ i, i < n → f i = 0) → sm f n = 0
  | 0, _ => rfl
  | n + 1, h => by
    show sm f n + f n = 0
    rw [sm_0 (n := n) (fun i hi => h i (by omega)), h n (Nat.lt_succ_self n)]
theorem Inv_begin {c r ρ : Nat → Nat → Nat} {i b J : Nat} (hV : Inv c r i) (hb : 1 ≤ b ∧ b ≤ 20) (hk : ∀ a i, a ≠ 21 → ρ a i = cutI (r_clr (up2 r 30 22 0) 400) J a i) (h1 : ∀ i, ρ 21 i ≤ 1)
    (hnz : ∀ j, j < J → wkR (cutI (r_clr (up2 r 30 22 0) 400) j) ≠ 0) (h0 : wkR (cutI (r_clr (up2 r 30 22 0) 400) J) = 0) : (cutC (up2 c 20 4 b)).2 = J ∧ Inv (c_begin c b) (r_begin ρ b) (i + 1) ∧ r_begin ρ b 30 22 = 0 := by
  obtain ⟨hI, hJ, ⟨hF, hS, hN, hE, hW, hO, hG⟩, hw⟩ := hV
  obtain ⟨o1, o2, o3, o4, o5, o6⟩ := hO
  have hn := IC_n hI
  have hI4 : IC (up2 c 20 4 b) := IC_obj hI (Or.inr (Or.inl ⟨rfl, hb.2⟩))
  obtain ⟨hJ2, hE2⟩ := cut_eq hI4 (show Edg (up2 c 20 4 b) r from hE) (show Wsh (up2 c 20 4 b) r from hW) (show r 30 0 = up2 c 20 4 b 20 1 from o1) hnz h0
  refine ⟨hJ2, ?_⟩
  have hIρ : IR ρ := IR_off (IR_cutI (IR_clr (IR_t0 hJ) 400) J) hk h1
  -- the model ahead of the units
  have q0 : ∀ a i, a ≠ 11 → a ≠ 21 → a ≠ 30 → ρ a i = r a i := fun a i e1 e2 e3 => by
    rw [hk a i e2, cutI_n _ a i e1]
    unfold r_clr
    rw [if_neg (fun z => e1 z.1), up2_c e3]
  have q30 : ∀ i, ρ 30 i = if i = 22 then 0 else r 30 i := fun i => by
    rw [hk 30 i (by decide), cutI_n _ 30 i (by decide)]
    unfold r_clr
    rw [if_neg (fun z => absurd z.1 (by decide))]
    simp [up2]
  have p0 : ∀ a i, a ≠ 30 → r_bgS ρ b a i = ρ a i := fun a i e => by
    unfold r_bgS
    rw [up2_c e, up2_c e, up2_c e, up2_c e]
  -- the class ahead of the units
  have k0 : ∀ a i, a ≠ 8 → a ≠ 20 → c_bg0 c b a i = c a i := fun a i e1 e2 => by
    unfold c_bg0
    rw [up2_c e2, cutC_n _ a i e1, up2_c e2]
  have k20 : ∀ i, i ≠ 5 → i ≠ 4 → c_bg0 c b 20 i = c 20 i := fun i e e2 => by
    unfold c_bg0
    rw [up2_i e, cutC_n _ 20 i (by decide), up2_i e2]
  have k204 : c_bg0 c b 20 4 = b := by
    unfold c_bg0
    rw [up2_i (by decide), cutC_n _ 20 4 (by decide), up2_s]
  have k205 : c_bg0 c b 20 5 = 0 := by unfold c_bg0; exact up2_s ..
  have k8 : ∀ u, c_bg0 c b 8 u = (cutC (up2 c 20 4 b)).1 8 u := fun u => by unfold c_bg0; exact up2_c (by decide)
  have k201 : c_bg0 c b 20 1 = c 20 1 := k20 1 (by decide) (by decide)
  have hS0 : Eqs (c_bg0 c b) (r_bgS ρ b) := fun u => by
    rw [k0 4 u (by decide) (by decide), k0 5 u (by decide) (by decide), k0 9 u (by decide) (by decide), k0 10 u (by decide) (by decide), k0 11 u (by decide) (by decide), k0 12 u (by decide) (by decide), p0 4 u (by decide), p0 6 u (by decide), p0 17 u (by decide), p0 18 u (by decide), p0 19 u (by decide), p0 20 u (by decide), q0 4 u (by decide) (by decide) (by decide), q0 6 u (by decide) (by decide) (by decide), q0 17 u (by decide) (by decide) (by decide), q0 18 u (by decide) (by decide) (by decide), q0 19 u (by decide) (by decide) (by decide), q0 20 u (by decide) (by decide) (by decide)]
    exact hS u
  have hN0 : Eqn (c_bg0 c b) (r_bgS ρ b) := fun u hu => by
    rw [k201] at hu
    rw [k0 1 u (by decide) (by decide), k0 2 u (by decide) (by decide), k0 3 u (by decide) (by decide), k0 6 u (by decide) (by decide), p0 1 u (by decide), p0 2 u (by decide), p0 3 u (by decide), p0 5 u (by decide), q0 1 u (by decide) (by decide) (by decide), q0 2 u (by decide) (by decide) (by decide), q0 3 u (by decide) (by decide) (by decide), q0 5 u (by decide) (by decide) (by decide)]
    exact hN u hu
  have h50 : r_bgS ρ b 30 15 = c_bg0 c b 20 5 := by rw [k205]; unfold r_bgS; exact up2_s ..
  obtain ⟨a1, a2, a3⟩ := bg_all hS0 hN0 h50 (c 20 1) (by rw [k201]; exact Nat.le_refl _)
  obtain ⟨v1, v2, v3⟩ := bg_val k205 (c 20 1)
  have hρn : ρ 30 0 = c 20 1 := by rw [q30, if_neg (by decide)]; exact o1
  -- names
  have hIC : IC (c_begin c b) := IC_bar (IC_bgN hI hb.2)
  have hIR : IR (r_begin ρ b) := by
    have hq : IR (up2 (r_bgI (r_bgS ρ b) (ρ 30 0)) 30 16 0) := IR_obj (IR_bgI (IR_bgS hIρ hb.2) (up2_s ..) _ (IR_n hIρ)).1 (Or.inr (Or.inr (Or.inr (Or.inr (Or.inr (Or.inl ⟨rfl, by decide⟩))))))
    exact IR_obj hq (Or.inr (Or.inr (Or.inr (Or.inr (Or.inr (Or.inl ⟨rfl, rs_le hq⟩))))))
  obtain ⟨cn, hcn⟩ : ∃ z, z = c_bgI (c_bg0 c b) (c 20 1) := ⟨_, rfl⟩
  obtain ⟨rn, hrn⟩ : ∃ z, z = r_bgI (r_bgS ρ b) (c 20 1) := ⟨_, rfl⟩
  have m20 : ∀ i, i ≠ 5 → cn 20 i = c_bg0 c b 20 i := fun i e => by rw [hcn]; exact bgI_n _ 20 i (by omega) _
  have mo : ∀ a i, a = 6 ∨ a = 7 ∨ a = 8 ∨ (12 < a ∧ a ≠ 20) → cn a i = c_bg0 c b a i := fun a i e => by rw [hcn]; exact bgI_n _ a i (by omega) _
  have s30 : ∀ i, i ≠ 15 → rn 30 i = r_bgS ρ b 30 i := fun i e => by rw [hrn]; exact rbg_n _ 30 i (by omega) _
  have so : ∀ a i, a ≠ 17 → a ≠ 18 → a ≠ 19 → a ≠ 20 → a ≠ 30 → rn a i = ρ a i := fun a i e1 e2 e3 e4 e5 => by rw [hrn, rbg_n _ a i (by omega) _]; exact p0 a i e5
  rw [← hcn, ← hrn] at a1 a2 a3
  rw [← hcn] at v1 v2 v3
  have hcb : c_begin c b = c_bar (up2 (up2 cn 20 3 1) 20 6 0) := by unfold c_begin; rw [k201, hcn]
  have hrb : r_begin ρ b = up2 (up2 rn 30 16 0) 30 16 (r_rs (up2 rn 30 16 0)) := by unfold r_begin; rw [hρn, hrn]
  have n1 : cn 20 1 = c 20 1 := (m20 1 (by decide)).trans k201
  have r0 : rn 30 0 = c 20 1 := (s30 0 (by decide)).trans (by unfold r_bgS; simp [up2]; exact hρn)
  have hbar : c_bar (up2 (up2 cn 20 3 1) 20 6 0) = up2 (up2 (up2 cn 20 3 1) 20 6 0) 20 6 (r_rs (up2 rn 30 16 0)) := by
    refine bar_eq (R := up2 rn 30 16 0) a1 ?_ ?_ rfl ?_
    · show rn 30 0 = cn 20 1
      rw [r0, n1]
    · exact a3
    · show (1 : Nat) ≠ 0
      decide
  obtain ⟨B, hB⟩ : ∃ z, z = r_rs (up2 rn 30 16 0) := ⟨_, rfl⟩
  have hBle : B ≤ 1000 := by
    have hz : sm (r_part (up2 rn 30 16 0)) (up2 rn 30 16 0 30 0) = 0 := by
      refine sm_0 (fun w hwn => ?_)
      have hwn2 : w < c 20 1 := by rw [← r0]; exact hwn
      have h9 := (v2 w hwn2).1
      have h8 := (a1 w).2.2.1
      unfold r_part
      have e17 : up2 rn 30 16 0 17 w = cn 9 w := by rw [up2_c (by decide)]; exact h8.symm
      rw [e17, h9]
      split <;> simp
    rw [hB]
    unfold r_rs r_its
    rw [hz, up2_s]
    simp
    repeat' split
    all_goals omega
  rw [hbar, ← hB] at hcb
  rw [← hB] at hrb
  rw [hcb] at hIC
  rw [hrb] at hIR
  rw [hcb, hrb]
  have kc : ∀ a j, a ≠ 20 → up2 (up2 (up2 cn 20 3 1) 20 6 0) 20 6 B a j = cn a j := fun a j h => by rw [up2_c h, up2_c h, up2_c h]
  have kr : ∀ a j, a ≠ 30 → up2 (up2 rn 30 16 0) 30 16 B a j = rn a j := fun a j h => by rw [up2_c h, up2_c h]
  have kr3 : ∀ j, j ≠ 16 → up2 (up2 rn 30 16 0) 30 16 B 30 j = rn 30 j := fun j h => by rw [up2_i h, up2_i h]
  have kc2 : ∀ j, j ≠ 3 → j ≠ 6 → up2 (up2 (up2 cn 20 3 1) 20 6 0) 20 6 B 20 j = cn 20 j := fun j h h' => by rw [up2_i h', up2_i h', up2_i h]
  have kc3 : up2 (up2 (up2 cn 20 3 1) 20 6 0) 20 6 B 20 3 = 1 := by rw [up2_i (by decide), up2_i (by decide), up2_s]
  obtain ⟨w1, w2, w3⟩ := hW
  refine ⟨⟨hIC, hIR, ⟨?_, ?_, ?_, ?_, ⟨?_, ?_, ?_⟩, ⟨?_, ?_, ?_, ?_, ?_, ?_⟩, ?_⟩, ?_⟩, ?_⟩
  · intro u hu
    have hu2 : c 20 1 ≤ u := by rw [kc2 1 (by decide) (by decide), n1] at hu; exact hu
    have hf := hF u hu2
    have e8 : (cutC (up2 c 20 4 b)).1 8 u = 0 := by
      rw [cut_hi (c := up2 c 20 4 b) (u := u) (fun j hj => by
        have h9 := IC_W hI j hj
        show c 31 j ≠ u
        omega)]
      exact hf.2.2.2.2.2.1
    rw [kc 3 u (by decide), kc 4 u (by decide), kc 5 u (by decide), kc 6 u (by decide), kc 7 u (by decide), kc 8 u (by decide), kc 9 u (by decide), v1 u 3 (by omega) (by omega), v1 u 4 (by omega) (by omega), v1 u 5 (by omega) (by omega), v1 u 6 (by omega) (by omega), v1 u 7 (by omega) (by omega), v1 u 8 (by omega) (by omega), v1 u 9 (by omega) (by omega), k0 3 u (by decide) (by decide), k0 4 u (by decide) (by decide), k0 5 u (by decide) (by decide), k0 6 u (by decide) (by decide), k0 7 u (by decide) (by decide), k8, k0 9 u (by decide) (by decide), e8]
    exact ⟨hf.1, hf.2.1, hf.2.2.1, hf.2.2.2.1, hf.2.2.2.2.1, rfl, hf.2.2.2.2.2.2⟩
  · intro u
    have h9 := a1 u
    rw [kc 4 u (by decide), kc 5 u (by decide), kc 9 u (by decide), kc 10 u (by decide), kc 11 u (by decide), kc 12 u (by decide), kr 4 u (by decide), kr 6 u (by decide), kr 17 u (by decide), kr 18 u (by decide), kr 19 u (by decide), kr 20 u (by decide)]
    exact h9
  · intro u hu
    rw [kc2 1 (by decide) (by decide)] at hu
    rw [kc 1 u (by decide), kc 2 u (by decide), kc 3 u (by decide), kc 6 u (by decide), kr 1 u (by decide), kr 2 u (by decide), kr 3 u (by decide), kr 5 u (by decide)]
    exact a2 u hu
  · intro u v hu hv
    have h9 := hE2 u v hu hv
    rw [kc 7 u (by decide), kc 8 u (by decide), kr 7 _ (by decide), kr 8 _ (by decide), kr 11 _ (by decide), mo 7 u (by omega), mo 8 u (by omega), k0 7 u (by decide) (by decide), k8, so 7 _ (by decide) (by decide) (by decide) (by decide) (by decide), so 8 _ (by decide) (by decide) (by decide) (by decide) (by decide), so 11 _ (by decide) (by decide) (by decide) (by decide) (by decide), hk 7 _ (by decide), hk 8 _ (by decide), hk 11 _ (by decide)]
    rw [cutC_n _ 7 u (by decide)] at h9
    exact h9
  · intro j hj
    rw [kc 30 0 (by decide), mo 30 0 (by omega), k0 30 0 (by decide) (by decide)] at hj
    rw [kc 31 j (by decide), kc 32 j (by decide), kc 33 j (by decide), mo 31 j (by omega), mo 32 j (by omega), mo 33 j (by omega), k0 31 j (by decide) (by decide), k0 32 j (by decide) (by decide), k0 33 j (by decide) (by decide), kr 8 _ (by decide), kr 9 _ (by decide), so 8 _ (by decide) (by decide) (by decide) (by decide) (by decide), so 9 _ (by decide) (by decide) (by decide) (by decide) (by decide), q0 8 _ (by decide) (by decide) (by decide), q0 9 _ (by decide) (by decide) (by decide)]
    exact w1 j hj
  · intro u v hu hv h
    rw [kr 8 _ (by decide), so 8 _ (by decide) (by decide) (by decide) (by decide) (by decide), q0 8 _ (by decide) (by decide) (by decide)] at h
    obtain ⟨j, z1, z2, z3⟩ := w2 u v hu hv h
    exact ⟨j, by rw [kc 30 0 (by decide), mo 30 0 (by omega), k0 30 0 (by decide) (by decide)]; exact z1, by rw [kc 31 j (by decide), mo 31 j (by omega), k0 31 j (by decide) (by decide)]; exact z2, by rw [kc 32 j (by decide), mo 32 j (by omega), k0 32 j (by decide) (by decide)]; exact z3⟩
  · rw [kr3 10 (by decide), kc 30 0 (by decide), mo 30 0 (by omega), k0 30 0 (by decide) (by decide), s30 10 (by decide)]
    unfold r_bgS
    simp [up2]
    rw [q30, if_neg (by decide)]
    exact w3
  · rw [kr3 0 (by decide), kc2 1 (by decide) (by decide), r0, n1]
  · rw [kr3 13 (by decide), kc3, s30 13 (by decide)]
    unfold r_bgS
    simp [up2]
  · rw [kr3 14 (by decide), kc2 4 (by decide) (by decide), s30 14 (by decide), m20 4 (by decide), k204]
    unfold r_bgS
    simp [up2]
  · rw [kr3 15 (by decide), kc2 5 (by decide) (by decide)]
    exact a3
  · rw [up2_s, up2_s]
  · intro h
    rw [kr3 12 (by decide), s30 12 (by decide)] at h
    unfold r_bgS at h
    simp [up2] at h
  · refine ⟨by rw [up2_s]; exact hBle, fun _ => ?_⟩
    rw [kc2 1 (by decide) (by decide), kc2 5 (by decide) (by decide), n1, v3]
    refine ⟨?_, fun u hu => ?_⟩
    · refine sm_cg (fun w hwn => ?_)
      rw [kc 5 w (by decide), kc 12 w (by decide), v1 w 5 (by omega) (by omega), (v2 w hwn).2]
    · have h5 := (IC_U hI u).2.2.2.2.2.1
      rw [kc 9 u (by decide), kc 5 u (by decide), (v2 u hu).1, v1 u 5 (by omega) (by omega), k0 5 u (by decide) (by decide)]
      split <;> omega
  · rw [kc 30 0 (by decide), mo 30 0 (by omega), k0 30 0 (by decide) (by decide)]
    omega
  · rw [kr3 22 (by decide), s30 22 (by decide)]
    unfold r_bgS
    simp [up2]
    rw [q30, if_pos rfl]
theorem T_begin {c r : Nat → Nat → Nat} {i o : Nat} {x k9 v : Int32} {z9 : (Nat → Nat → Nat) × Nat} {u9 : Nat → Nat → Nat} (hV : Inv c r i) (h1 : PC_begin c o x k9 z9) (h2 : PM_begin r x v u9) : Out k9 z9 v u9 i := by
  have e3 : r 30 13 = c 20 3 := hV.2.2.1.2.2.2.2.2.1.2.1
  unfold PM_begin at h2
  rw [e3] at h2
  rcases h1 with ⟨rfl, w, ⟨b, hb, rfl, hg, rfl, hz⟩, ho⟩ | ⟨rfl, rfl, hp⟩ | ⟨rfl, rfl, hp⟩
  · rcases h2 with ⟨hc, -⟩ | ⟨-, hc, -⟩ | ⟨b', J, ρ, hb', ex, -, hk, h1, hnz, h0, -, rfl, rfl⟩
    · exact absurd (inR_of hb.1 hb.2 (by decide)) hc
    · exact absurd hg hc
    · have e1 : b = b' := nI_ij (by omega) (by omega) ex
      subst e1
      obtain ⟨z1, z2, z3⟩ := Inv_begin hV hb hk h1 hnz h0
      refine ⟨by rw [z3], fun _ => by rw [← ho, z1], ?_⟩
      rw [hz]
      exact z2
  · have hb := hp.elim (fun z => z.2) (fun z => absurd z.1 exAS)
    rcases h2 with ⟨-, rfl⟩ | ⟨hc, -⟩ | ⟨b', J, ρ, hb', rfl, -⟩
    · exact Out_f hV (by decide) (by decide)
    · exact absurd hc hb
    · exact absurd (inR_of hb'.1 hb'.2 (by decide)) hb
  · obtain ⟨-, ha, hb⟩ := hp.elim (fun z => absurd z.1.symm exAS) id
    rcases h2 with ⟨hc, -⟩ | ⟨-, -, rfl⟩ | ⟨b', J, ρ, hb', rfl, hc, -⟩
    · exact absurd ha hc
    · exact Out_f hV (by decide) (by decide)
    · exact absurd hc hb
