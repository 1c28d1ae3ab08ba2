/-! A TICK -/
theorem stp {c c' r r' : Nat → Nat → Nat} {u : Nat} (hc : Offu c c' u) (hr : Ofr r r' u) (hS : Eqs c r) (hN : Eqn c r) (h : c' 4 u = r' 4 u ∧ c' 5 u = r' 6 u ∧ c' 9 u = r' 17 u ∧ (c' 9 u = 1 → c' 10 u = r' 18 u) ∧ c' 11 u = r' 19 u ∧ c' 12 u = r' 20 u) (h2 : u < c 20 1 → c' 1 u = r' 1 u ∧ c' 2 u = r' 3 u ∧ c' 3 u = r' 2 u) : Eqs c' r' ∧ Eqn c' r' := by
  have kc : ∀ a w, w ≠ u → c' a w = c a w := fun a w hw => hc a w (fun z => hw z.2)
  have kr : ∀ a w, w ≠ u → r' a w = r a w := fun a w hw => hr a w (fun z => hw z.2)
  have e1 : c' 20 1 = c 20 1 := Off_n hc 20 1 (by omega)
  constructor
  · intro w
    by_cases hw : w = u
    · rw [hw]; exact h
    · rw [kc 4 w hw, kc 5 w hw, kc 9 w hw, kc 10 w hw, kc 11 w hw, kc 12 w hw, kr 4 w hw, kr 6 w hw, kr 17 w hw, kr 18 w hw, kr 19 w hw, kr 20 w hw]
      exact hS w
  · intro w hwn
    rw [e1] at hwn
    by_cases hw : w = u
    · subst hw
      obtain ⟨x1, x2, x3⟩ := h2 hwn
      refine ⟨x1, x2, x3, ?_⟩
      rw [Off_n hc 6 w (by omega), Ofr_n hr 5 w (by omega)]
      exact (hN w hwn).2.2.2
    · rw [kc 1 w hw, kc 2 w hw, kc 3 w hw, kc 6 w hw, kr 1 w hw, kr 2 w hw, kr 3 w hw, kr 5 w hw]
      exact hN w hwn
theorem end_step {c r : Nat → Nat → Nat} {u : Nat} (hS : Eqs c r) (hN : Eqn c r) (hu : u < c 20 1) : Eqs (c_end1 c u) (r_end1 r u) ∧ Eqn (c_end1 c u) (r_end1 r u) := by
  obtain ⟨s4, s5, s9, s10, s11, s12⟩ := hS u
  obtain ⟨n1, n2, n3, -⟩ := hN u hu
  refine stp (Off_end1 c u) (Ofr_end1 r u) hS hN ?_ ?_
  · unfold c_end1 r_end1 r_tk
    by_cases h9 : c 9 u = 1
    · rw [if_pos h9]
      by_cases h10 : c 10 u + 1 < c 1 u
      · rw [if_pos h10, if_neg (fun z => absurd z.2 (by omega)), if_pos (by omega)]
        simp [up2]
        omega
      · rw [if_neg h10, if_pos (by omega)]
        unfold c_come r_ends
        simp [up2]
        rw [if_pos (show r 17 u = 1 by omega)]
        rw [← s4, ← s11, ← n1, ← n2, ← n3]
        by_cases h4 : c 4 u = 0
        · simp [up2, h4]
          omega
        · by_cases h11 : c 11 u < c 2 u
          · simp [up2, h4, h11]
            omega
          · simp [up2, h4, h11]
            omega
    · rw [if_neg h9, if_neg (fun z => h9 (by omega)), if_neg (by omega)]
      simp [up2]
      omega
  · intro _
    unfold c_end1 r_end1 r_tk
    by_cases h9 : c 9 u = 1
    · rw [if_pos h9]
      by_cases h10 : c 10 u + 1 < c 1 u
      · rw [if_pos h10, if_neg (fun z => absurd z.2 (by omega)), if_pos (by omega)]
        simp [up2]
        omega
      · rw [if_neg h10, if_pos (by omega)]
        unfold c_come r_ends
        simp [up2]
        rw [if_pos (show r 17 u = 1 by omega)]
        rw [← s4, ← s11, ← n1, ← n2, ← n3]
        by_cases h4 : c 4 u = 0
        · simp [up2, h4]
          split <;> omega
        · by_cases h11 : c 11 u < c 2 u
          · simp [up2, h4, h11]
            exact ⟨n1, n2, n3⟩
          · simp [up2, h4, h11]
            exact ⟨n1, n2, n3⟩
    · rw [if_neg h9, if_neg (fun z => h9 (by omega)), if_neg (by omega)]
      simp [up2]
      omega
theorem end_all {c r : Nat → Nat → Nat} (hS : Eqs c r) (hN : Eqn c r) : ∀ k, k ≤ c 20 1 → Eqs (c_endI c k) (r_endI r k) ∧ Eqn (c_endI c k) (r_endI r k)
  | 0, _ => ⟨hS, hN⟩
  | k + 1, hk => by
    obtain ⟨h1, h2⟩ := end_all hS hN k (by omega)
    exact end_step h1 h2 (by rw [endI_n c 20 1 (by omega) k]; omega)
/-- what a tick leaves -/
def Kp (c c' : Nat → Nat → Nat) : Prop := (∀ a i, (a = 1 ∨ a = 2 ∨ a = 5 ∨ a = 6 ∨ a = 7 ∨ a = 8 ∨ 12 ≤ a) → c' a i = c a i) ∧ ∀ w, c' 9 w = 4 ↔ c 9 w = 4
theorem Kp_r (c : Nat → Nat → Nat) : Kp c c := ⟨fun _ _ _ => rfl, fun _ => Iff.rfl⟩
theorem Kp_t {a b c : Nat → Nat → Nat} (h1 : Kp a b) (h2 : Kp b c) : Kp a c := ⟨fun x i h => (h2.1 x i h).trans (h1.1 x i h), fun w => (h2.2 w).trans (h1.2 w)⟩
theorem Kp_up {c : Nat → Nat → Nat} {a u v : Nat} (ha : a = 3 ∨ a = 4 ∨ a = 10 ∨ a = 11) : Kp c (up2 c a u v) := ⟨fun b i hb => up2_c (by omega), fun w => by rw [up2_c (by omega)]⟩
theorem Kp_9 {c : Nat → Nat → Nat} {u v : Nat} (h : c 9 u ≠ 4) (hv : v ≠ 4) : Kp c (up2 c 9 u v) := ⟨fun b i hb => up2_c (by omega), fun w => by
  by_cases e : w = u
  · rw [e, up2_s]; exact ⟨fun z => absurd z hv, fun z => absurd z h⟩
  · rw [up2_i e]⟩
theorem Kp_end1 (c : Nat → Nat → Nat) (u : Nat) : Kp c (c_end1 c u) := by
  unfold c_end1
  split
  · rename_i h9
    split
    · exact Kp_up (by omega)
    · refine Kp_t (Kp_up (a := 10) (u := u) (v := c 10 u + 1) (by omega)) ?_
      unfold c_come
      have h0 : up2 c 10 u (c 10 u + 1) 9 u ≠ 4 := by rw [up2_c (by decide)]; omega
      split
      · exact Kp_t (Kp_9 h0 (by decide)) (Kp_up (by omega))
      · split
        · exact Kp_t (Kp_t (Kp_up (by omega)) (Kp_up (by omega))) (Kp_9 (by rw [up2_c (by decide), up2_c (by decide)]; exact h0) (by decide))
        · exact Kp_t (Kp_up (by omega)) (Kp_9 (by rw [up2_c (by decide)]; exact h0) (by decide))
  · exact Kp_r c
theorem Kp_endI (c : Nat → Nat → Nat) : ∀ k, Kp c (c_endI c k)
  | 0 => Kp_r c
  | k + 1 => Kp_t (Kp_endI c k) (Kp_end1 _ k)
theorem Kp_fail1 (c : Nat → Nat → Nat) (u : Nat) : Kp c (c_fail1 c u) := by
  unfold c_fail1
  split
  · rename_i h; exact Kp_9 (by omega) (by decide)
  · exact Kp_r c
theorem Kp_failI (c : Nat → Nat → Nat) : ∀ k, Kp c (c_failI c k)
  | 0 => Kp_r c
  | k + 1 => Kp_t (Kp_failI c k) (Kp_fail1 _ k)
theorem Kp_st1 (met dn : Nat) (c : Nat → Nat → Nat) (u : Nat) : Kp c (c_st1 met dn c u) := by
  unfold c_st1
  split
  · rename_i h; exact Kp_t (Kp_9 (by omega) (by decide)) (Kp_up (by omega))
  · exact Kp_r c
theorem Kp_stI (met dn : Nat) (c : Nat → Nat → Nat) : ∀ k, Kp c (c_stI met dn c k)
  | 0 => Kp_r c
  | k + 1 => Kp_t (Kp_stI met dn c k) (Kp_st1 met dn _ k)
/-- past the units nothing changes -/
theorem endI_hi (c : Nat → Nat → Nat) (a : Nat) : ∀ k i, k ≤ i → c_endI c k a i = c a i
  | 0, _, _ => rfl
  | k + 1, i, h => (Off_end1 _ k a i (fun z => by omega)).trans (endI_hi c a k i (by omega))
theorem failI_hi (c : Nat → Nat → Nat) (a : Nat) : ∀ k i, k ≤ i → c_failI c k a i = c a i
  | 0, _, _ => rfl
  | k + 1, i, h => (Off_fail1 _ k a i (fun z => by omega)).trans (failI_hi c a k i (by omega))
theorem stI_hi (met dn : Nat) (c : Nat → Nat → Nat) (a : Nat) : ∀ k i, k ≤ i → c_stI met dn c k a i = c a i
  | 0, _, _ => rfl
  | k + 1, i, h => (Off_st1 met dn _ k a i (fun z => by omega)).trans (stI_hi met dn c a k i (by omega))
/-- the masks and the tables -/
def Ed7 (c r : Nat → Nat → Nat) : Prop := (∀ u, c 7 u < 2 ^ c 20 1) ∧ (∀ u, c 8 u < 2 ^ c 20 1) ∧ Edg c r ∧ r 30 0 = c 20 1 ∧ r 30 14 = c 20 4 ∧ c 20 1 ≤ 20
theorem Ed7_mv {c c' r r' : Nat → Nat → Nat} (h : Ed7 c r) (hc : ∀ a i, (a = 7 ∨ a = 8 ∨ a = 20) → c' a i = c a i) (hr : ∀ a i, (a = 7 ∨ a = 8 ∨ a = 11 ∨ a = 30) → r' a i = r a i) : Ed7 c' r' := by
  obtain ⟨h1, h2, h3, h4, h5, h6⟩ := h
  have e1 := hc 20 1 (by omega)
  refine ⟨fun u => by rw [hc 7 u (by omega), e1]; exact h1 u, fun u => by rw [hc 8 u (by omega), e1]; exact h2 u, fun u v hu hv => ?_, by rw [e1, hr 30 0 (by omega)]; exact h4, by rw [hc 20 4 (by omega), hr 30 14 (by omega)]; exact h5, by rw [e1]; exact h6⟩
  rw [hc 7 u (by omega), hc 8 u (by omega), hr 7 _ (by omega), hr 8 _ (by omega), hr 11 _ (by omega)]
  exact h3 u v hu hv
theorem goneE {c r : Nat → Nat → Nat} (hS : Eqs c r) (u : Nat) : goneP (c 9) u ↔ goneP (r 17) u := by unfold goneP; rw [(hS u).2.2.1]
theorem metE {c r : Nat → Nat → Nat} (hS : Eqs c r) (hN : Eqn c r) {u : Nat} (hu : u < c 20 1) : metP (c 9) (c 6) u ↔ metP (r 17) (r 5) u := by
  unfold metP; rw [(hS u).2.2.1, goneE hS, (hN u hu).2.2.2, (hS _).2.2.1]
theorem lostE {c r : Nat → Nat → Nat} (hS : Eqs c r) (hN : Eqn c r) {u : Nat} (hu : u < c 20 1) : lostP (c 9) (c 6) u ↔ lostP (r 17) (r 5) u := by
  unfold lostP; rw [goneE hS, (hN u hu).2.2.2, goneE hS]
theorem doneE {c r : Nat → Nat → Nat} (hS : Eqs c r) (u : Nat) : doneP (c 9) u ↔ doneP (r 17) u := by unfold doneP; rw [(hS u).2.2.1, goneE hS]
theorem lost_ex {c r : Nat → Nat → Nat} (hE : Ed7 c r) (hS : Eqs c r) (hN : Eqn c r) {u : Nat} (hu : u < c 20 1) : c 7 u &&& mk (lostP (c 9) (c 6)) (c 20 1) ≠ 0 ↔ hLR r u := by
  obtain ⟨h7, h8, hed, e0, e14, hn⟩ := hE
  unfold hLR exQ hLP
  rw [e0]
  constructor
  · intro h
    apply Classical.byContradiction
    intro hno
    refine h (and_0.mpr (fun v hv hb => hno ?_))
    have hvn := bit_lt (h7 u) hv
    exact ⟨v, hvn, (hed u v (by omega) (by omega)).1.mp hv, (lostE hS hN hvn).mp (mk_bit.mp hb).2⟩
  · rintro ⟨v, hv, h1, h2⟩ h
    exact and_0.mp h v ((hed u v (by omega) (by omega)).1.mpr h1) (mk_bit.mpr ⟨hv, (lostE hS hN hv).mpr h2⟩)
theorem fail_step {c r : Nat → Nat → Nat} {u : Nat} (hE : Ed7 c r) (hS : Eqs c r) (hN : Eqn c r) (hu : u < c 20 1) : Eqs (c_fail1 c u) (r_fail1 r u) ∧ Eqn (c_fail1 c u) (r_fail1 r u) := by
  obtain ⟨s4, s5, s9, s10, s11, s12⟩ := hS u
  obtain ⟨n1, n2, n3, -⟩ := hN u hu
  have hl := lost_ex hE hS hN hu
  refine stp (Off_fail1 c u) (Ofr_fail1 r u) hS hN ?_ ?_
  · unfold c_fail1 r_fail1
    by_cases h : c 9 u = 0 ∧ c 7 u &&& mk (lostP (c 9) (c 6)) (c 20 1) ≠ 0
    · rw [if_pos h, if_pos ⟨by omega, bN_t (hl.mp h.2)⟩]
      simp [up2]
      omega
    · rw [if_neg h, if_neg (fun z => h ⟨by omega, hl.mpr (bN_1.mp z.2)⟩)]
      simp [up2]
      omega
  · intro _
    unfold c_fail1 r_fail1
    split <;> simp [up2] <;> omega
theorem fail_all {c r : Nat → Nat → Nat} (hE : Ed7 c r) (hS : Eqs c r) (hN : Eqn c r) : ∀ k, k ≤ c 20 1 → Eqs (c_failI c k) (r_failI r k) ∧ Eqn (c_failI c k) (r_failI r k)
  | 0, _ => ⟨hS, hN⟩
  | k + 1, hk => by
    obtain ⟨h1, h2⟩ := fail_all hE hS hN k (by omega)
    exact fail_step (Ed7_mv hE (fun a i ha => failI_n c a i (by omega) k) (fun a i ha => rfailI_n r a i (by omega) k)) h1 h2 (by rw [failI_n c 20 1 (by omega) k]; omega)
/-- from WAITING to STARTING: what is met, lost, done stays -/
def W01 (c c' : Nat → Nat → Nat) : Prop := ∀ w, c' 9 w = c 9 w ∨ (c 9 w = 0 ∧ c' 9 w = 1)
theorem W_gone {c c' : Nat → Nat → Nat} (h : W01 c c') (u : Nat) : goneP (c' 9) u ↔ goneP (c 9) u := by
  unfold goneP
  have := h u
  omega
theorem W_2 {c c' : Nat → Nat → Nat} (h : W01 c c') (u : Nat) : c' 9 u = 2 ↔ c 9 u = 2 := by
  have := h u
  omega
theorem st_ex {c c0 r : Nat → Nat → Nat} (hE : Ed7 c r) (hS : Eqs c r) (hN : Eqn c r) (hW : W01 c0 c) (h6 : ∀ w, c 6 w = c0 6 w) (e1 : c 20 1 = c0 20 1) {u : Nat} (hu : u < c 20 1) :
    (anN (c 7 u) (mk (metP (c0 9) (c0 6)) (c0 20 1)) = 0 ∧ anN (c 8 u) (mk (doneP (c0 9)) (c0 20 1)) = 0) ↔ soR r u := by
  obtain ⟨h7, h8, hed, e0, e14, hn⟩ := hE
  have hm : ∀ v, v < c 20 1 → (metP (c0 9) (c0 6) v ↔ metP (r 17) (r 5) v) := fun v hv => by
    rw [← metE hS hN hv]
    unfold metP
    rw [W_2 hW, W_gone hW, h6, W_2 hW]
  have hd : ∀ v, (doneP (c0 9) v ↔ doneP (r 17) v) := fun v => by
    rw [← doneE hS v]
    unfold doneP
    rw [W_2 hW, W_gone hW]
  have hxl : ∀ v, metP (r 17) (r 5) v → ¬ lostP (r 17) (r 5) v := by
    intro v h1 h2
    unfold metP lostP goneP at *
    omega
  rw [anN_0, anN_0]
  unfold soR alQ hLR exQ hLP awR
  rw [e0]
  constructor
  · rintro ⟨z1, z2⟩
    refine ⟨fun v hv hz => ?_, ?_⟩
    · obtain ⟨q7, q8, -⟩ := hed u v (by omega) (by omega)
      rcases hz with ⟨a1, a2, a3⟩ | ⟨a1, a2⟩
      · exact a2 ((hm v hv).mp (mk_bit.mp (z1 v (q7.mpr a1))).2)
      · exact a2 ((hd v).mp (mk_bit.mp (z2 v (q8.mpr a1))).2)
    · rintro ⟨v, hv, a1, a2⟩
      exact hxl v ((hm v hv).mp (mk_bit.mp (z1 v ((hed u v (by omega) (by omega)).1.mpr a1))).2) a2
  · rintro ⟨z1, z2⟩
    refine ⟨fun v hv => ?_, fun v hv => ?_⟩
    · have hvn := bit_lt (h7 u) hv
      have a1 := (hed u v (by omega) (by omega)).1.mp hv
      refine mk_bit.mpr ⟨by omega, (hm v hvn).mpr (Classical.byContradiction fun hno => z1 v hvn (Or.inl ⟨a1, hno, fun hl => z2 ⟨v, hvn, a1, hl⟩⟩))⟩
    · have hvn := bit_lt (h8 u) hv
      have a1 := (hed u v (by omega) (by omega)).2.1.mp hv
      exact mk_bit.mpr ⟨by omega, (hd v).mpr (Classical.byContradiction fun hno => z1 v hvn (Or.inr ⟨a1, hno⟩))⟩
theorem cntE {c r : Nat → Nat → Nat} (hS : Eqs c r) (e0 : r 30 0 = c 20 1) : c_cnt c = r_cnt r := by
  unfold c_cnt r_cnt
  rw [e0]
  exact ct_cg (fun w _ => by rw [(hS w).2.2.1])
theorem st_step {c c0 r : Nat → Nat → Nat} {u : Nat} (hE : Ed7 c r) (hS : Eqs c r) (hN : Eqn c r) (hW : W01 c0 c) (h6 : ∀ w, c 6 w = c0 6 w) (e1 : c 20 1 = c0 20 1) (hu : u < c 20 1) :
    Eqs (c_st1 (mk (metP (c0 9) (c0 6)) (c0 20 1)) (mk (doneP (c0 9)) (c0 20 1)) c u) (r_st1 r u) ∧ Eqn (c_st1 (mk (metP (c0 9) (c0 6)) (c0 20 1)) (mk (doneP (c0 9)) (c0 20 1)) c u) (r_st1 r u) := by
  obtain ⟨s4, s5, s9, s10, s11, s12⟩ := hS u
  obtain ⟨n1, n2, n3, -⟩ := hN u hu
  have hx := st_ex hE hS hN hW h6 e1 hu
  have hc := cntE hS hE.2.2.2.1
  have h14 := hE.2.2.2.2.1
  have hiff : (c_cnt c < c 20 4 ∧ c 9 u = 0 ∧ anN (c 7 u) (mk (metP (c0 9) (c0 6)) (c0 20 1)) = 0 ∧ anN (c 8 u) (mk (doneP (c0 9)) (c0 20 1)) = 0) ↔ (r 17 u = 0 ∧ r_cnt r < r 30 14 ∧ bN (soR r u) = 1) := by
    rw [hc, h14, s9, hx, bN_1]
    constructor
    · rintro ⟨a, b, d⟩; exact ⟨b, a, d⟩
    · rintro ⟨a, b, d⟩; exact ⟨b, a, d⟩
  refine stp (Off_st1 _ _ c u) (Ofr_st1 r u) hS hN ?_ ?_
  · unfold c_st1 r_st1
    by_cases h : r 17 u = 0 ∧ r_cnt r < r 30 14 ∧ bN (soR r u) = 1
    · rw [if_pos (hiff.mpr h), if_pos h]
      simp [up2]
      omega
    · rw [if_neg (fun z => h (hiff.mp z)), if_neg h]
      exact ⟨s4, s5, s9, s10, s11, s12⟩
  · intro _
    unfold c_st1 r_st1
    split <;> split <;> (try simp [up2]) <;> omega
theorem W_st1 (met dn : Nat) {c0 c : Nat → Nat → Nat} (u : Nat) (h : W01 c0 c) : W01 c0 (c_st1 met dn c u) := by
  unfold c_st1
  split
  · rename_i hc
    intro w
    by_cases e : w = u
    · subst e
      have := h w
      have e2 : up2 (up2 c 9 w 1) 10 w 0 9 w = 1 := by simp [up2]
      omega
    · have e2 : up2 (up2 c 9 u 1) 10 u 0 9 w = c 9 w := by simp [up2, e]
      rw [e2]; exact h w
  · exact h
theorem W_stI (met dn : Nat) (c : Nat → Nat → Nat) : ∀ k, W01 c (c_stI met dn c k)
  | 0 => fun _ => Or.inl rfl
  | k + 1 => W_st1 met dn k (W_stI met dn c k)
theorem st_all {c r : Nat → Nat → Nat} (hE : Ed7 c r) (hS : Eqs c r) (hN : Eqn c r) : ∀ k, k ≤ c 20 1 → Eqs (c_stI (mk (metP (c 9) (c 6)) (c 20 1)) (mk (doneP (c 9)) (c 20 1)) c k) (r_stI r k) ∧ Eqn (c_stI (mk (metP (c 9) (c 6)) (c 20 1)) (mk (doneP (c 9)) (c 20 1)) c k) (r_stI r k)
  | 0, _ => ⟨hS, hN⟩
  | k + 1, hk => by
    obtain ⟨h1, h2⟩ := st_all hE hS hN k (by omega)
    have e1 := stI_n (mk (metP (c 9) (c 6)) (c 20 1)) (mk (doneP (c 9)) (c 20 1)) c 20 1 (by omega) k
    exact st_step (Ed7_mv hE (fun a i ha => stI_n _ _ c a i (by omega) k) (fun a i ha => rstI_n r a i (by omega) k)) h1 h2 (W_stI _ _ c k) (fun w => stI_n _ _ c 6 w (by omega) k) e1 (by rw [e1]; omega)
