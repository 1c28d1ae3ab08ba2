/-! WHAT HOLDS BETWEEN THE STEPS OF THE LAW: the class c, the law's books r, the ghost ρ -/
def LGs (c r : Nat → Nat → Nat) : Prop := (∀ u, u < 8 → r 13 u = c 5 u ∧ r 14 u = c 7 u ∧ r 16 u = c 11 u ∧ r 17 u = c 12 u) ∧ (∀ u, u < c 20 1 → r 10 u = c 1 u ∧ r 11 u = c 2 u ∧ r 12 u = c 6 u ∧ (c 9 u = 1 → r 15 u = c 10 u))
def LMs (c r : Nat → Nat → Nat) : Prop := r 4 0 = c 20 4 ∧ r 4 1 = c 20 5 ∧ r 4 2 = c 30 0
def LI (c r ρ : Nat → Nat → Nat) (q : Nat) : Prop := Inv c ρ q ∧ c 20 1 ≤ 8 ∧ BR r ∧ LWr r ρ ∧ LGs c r ∧ LMs c r ∧ (c 20 3 ≠ 0 → c_cnt c ≤ c 20 4)
theorem LI_le {c r ρ : Nat → Nat → Nat} {q q' : Nat} (h : LI c r ρ q) (hq : q ≤ q') : LI c r ρ q' := by
  obtain ⟨⟨a1, a2, a3, a4⟩, b⟩ := h
  exact ⟨⟨a1, a2, a3, Nat.le_trans a4 hq⟩, b⟩
theorem WSp_inv {c ρ : Nat → Nat → Nat} {q : Nat} (h : Inv c ρ q) (hq : q ≤ 8000) : WSp ρ := by
  obtain ⟨hI, hJ, ⟨hF, hS, hN, hE, hW, hO, hG⟩, hw⟩ := h
  obtain ⟨w1, w2, w3⟩ := hW
  refine ⟨fun e => Nat.lt_of_le_of_lt (IR_E hJ e).2.1 (by decide), fun u v hu hv hp => ?_, fun u v u' v' hu hv hu' hv' hp hp' he => ?_⟩
  · obtain ⟨j, hj, rfl, rfl⟩ := w2 u v (by omega) (by omega) hp
    rw [(w1 j hj).2]
    omega
  · obtain ⟨j, hj, rfl, rfl⟩ := w2 u v (by omega) (by omega) hp
    obtain ⟨j', hj', rfl, rfl⟩ := w2 u' v' (by omega) (by omega) hp'
    rw [(w1 j hj).2, (w1 j' hj').2] at he
    rw [he]
theorem LI_hw {c r ρ : Nat → Nat → Nat} {q : Nat} (h : LI c r ρ q) (hq : q ≤ 8000) : ∀ u v, u < c 20 1 → v < c 20 1 → (wun r (8 * u + v) ↔ (c 8 u).testBit v = true) := fun u v hu hv => by
  obtain ⟨hV, h8, hB, hL, hG, hM, hC⟩ := h
  have hS := WSp_inv hV hq
  rw [((hV.2.2.1.2.2.2.1) u v (by omega) (by omega)).2.1]
  exact pk_wun (hL u v (by omega) (by omega)) (hS.1 _) (hS.2.1 u v (by omega) (by omega)) (IR_E hV.2.1 _).2.2
theorem LWr_cg {r r' ρ ρ' : Nat → Nat → Nat} (h : LWr r ρ) (h1 : ∀ i, r' 2 i = r 2 i) (h2 : ∀ e, ρ' 8 e = ρ 8 e ∧ ρ' 9 e = ρ 9 e ∧ ρ' 11 e = ρ 11 e) : LWr r' ρ' := fun u v hu hv => by
  rw [h1, (h2 _).1, (h2 _).2.1, (h2 _).2.2]
  exact h u v hu hv
theorem cnt_cg {c c' : Nat → Nat → Nat} (h1 : c' 20 1 = c 20 1) (h9 : ∀ w, c' 9 w = c 9 w) : c_cnt c' = c_cnt c := by
  unfold c_cnt
  rw [h1]
  exact ct_cg (fun i _ => by rw [h9])
theorem LI_add {c r ρ : Nat → Nat → Nat} {q t k : Nat} (h : LI c r ρ q) (ht : 1 ≤ t ∧ t ≤ 100) (hk : k ≤ 3) (hn : c 20 1 < 8) (hg : c 20 3 = 0) : ∃ ρ', LI (up2 (up2 (up2 c 1 (c 20 1) t) 2 (c 20 1) k) 20 1 (c 20 1 + 1)) (up2 (up2 (up2 r 10 (c 20 1) t) 11 (c 20 1) k) 12 (c 20 1) 0) ρ' (q + 1) := by
  obtain ⟨hV, h8, hB, hL, hG, hM, hC⟩ := h
  refine ⟨_, Inv_add hV ht.2 hk (by omega) hg, ?_, BR_up (BR_up (BR_up hB (by omega)) (by omega)) (by decide), ?_, ?_, ?_, ?_⟩
  · show c 20 1 + 1 ≤ 8
    omega
  · refine LWr_cg hL (fun i => rfl) (fun e => ⟨rfl, rfl, rfl⟩)
  · refine ⟨fun u hu => ?_, fun u hu => ?_⟩
    · simpa [up2] using hG.1 u hu
    · have hu2 : u < c 20 1 + 1 := hu
      have hF := hV.2.2.1.1
      by_cases e : u = c 20 1
      · subst e
        have h9 := hF _ (Nat.le_refl _)
        simp [up2]
        exact ⟨h9.2.2.2.1.symm, fun z => by omega⟩
      · have h9 := hG.2 u (by omega)
        simpa [up2, e] using h9
  · simpa [up2, LMs] using hM
  · intro z
    exact absurd hg z
theorem cnt_u {c : Nat → Nat → Nat} {k a t : Nat} (h : k ≠ 9) (h2 : k ≠ 20) : c_cnt (up2 c k a t) = c_cnt c := cnt_cg (c := c) (c' := up2 c k a t) (up2_c (fun z => h2 z.symm)) (fun w => up2_c (fun z => h z.symm))
theorem LI_time {c r ρ : Nat → Nat → Nat} {q a t : Nat} (h : LI c r ρ q) (ha : a < c 20 1) (ht : t ≤ 100) : ∃ ρ', LI (up2 c 1 a t) (up2 r 10 a t) ρ' (q + 1) := by
  obtain ⟨hV, h8, hB, hL, hG, hM, hC⟩ := h
  refine ⟨_, Inv_unit hV ha (Or.inl ⟨rfl, rfl, ht⟩), h8, BR_up hB (by omega), LWr_cg hL (fun i => rfl) (fun e => ⟨rfl, rfl, rfl⟩), ⟨fun u hu => ?_, fun u hu => ?_⟩, ?_, ?_⟩
  · simpa [up2] using hG.1 u hu
  · have h9 := hG.2 u hu
    by_cases e : u = a
    · subst e
      simp [up2]
      exact ⟨h9.2.1, h9.2.2.1, h9.2.2.2⟩
    · simpa [up2, e] using h9
  · simpa [up2, LMs] using hM
  · intro z
    rw [cnt_u (by decide) (by decide)]
    exact hC z
theorem LI_faults {c r ρ : Nat → Nat → Nat} {q a t : Nat} (h : LI c r ρ q) (ha : a < c 20 1) (ht : t ≤ 10) : ∃ ρ', LI (up2 c 4 a t) r ρ' (q + 1) := by
  obtain ⟨hV, h8, hB, hL, hG, hM, hC⟩ := h
  refine ⟨_, Inv_unit hV ha (Or.inr (Or.inl ⟨rfl, rfl, ht⟩)), h8, hB, LWr_cg hL (fun i => rfl) (fun e => ⟨rfl, rfl, rfl⟩), ⟨fun u hu => ?_, fun u hu => ?_⟩, ?_, ?_⟩
  · simpa [up2] using hG.1 u hu
  · simpa [up2] using hG.2 u hu
  · simpa [up2, LMs] using hM
  · intro z
    rw [cnt_u (by decide) (by decide)]
    exact hC z
theorem LI_hold {c r ρ : Nat → Nat → Nat} {q a t : Nat} (h : LI c r ρ q) (ha : a < c 20 1) (ht : t ≤ 1) (hg : c 20 3 = 0) : ∃ ρ', LI (up2 c 5 a t) (up2 r 13 a t) ρ' (q + 1) := by
  obtain ⟨hV, h8, hB, hL, hG, hM, hC⟩ := h
  refine ⟨_, Inv_unit hV ha (Or.inr (Or.inr ⟨rfl, rfl, ht, hg⟩)), h8, BR_up hB (by omega), LWr_cg hL (fun i => rfl) (fun e => ⟨rfl, rfl, rfl⟩), ⟨fun u hu => ?_, fun u hu => ?_⟩, ?_, ?_⟩
  · have h9 := hG.1 u hu
    by_cases e : u = a
    · subst e
      simp [up2]
      exact ⟨h9.2.1, h9.2.2.1, h9.2.2.2⟩
    · simpa [up2, e] using h9
  · simpa [up2] using hG.2 u hu
  · simpa [up2, LMs] using hM
  · intro z
    exact absurd hg z
theorem LI_si {c r ρ : Nat → Nat → Nat} {q a k : Nat} (h : LI c r ρ q) (ha : a < c 20 1) (hk : k ≤ c 20 1) (hg : c 20 3 = 0) : ∃ ρ', LI (up2 c 6 a k) (up2 r 12 a k) ρ' (q + 1) := by
  obtain ⟨hV, h8, hB, hL, hG, hM, hC⟩ := h
  refine ⟨_, Inv_si hV ha hk, h8, BR_up hB (by omega), LWr_cg hL (fun i => rfl) (fun e => ⟨rfl, rfl, rfl⟩), ⟨fun u hu => ?_, fun u hu => ?_⟩, ?_, ?_⟩
  · simpa [up2] using hG.1 u hu
  · have h9 := hG.2 u hu
    by_cases e : u = a
    · subst e
      simp [up2]
      exact ⟨h9.1, h9.2.1, h9.2.2.2⟩
    · simpa [up2, e] using h9
  · simpa [up2, LMs] using hM
  · intro z
    exact absurd hg z
theorem LI_need {c r ρ : Nat → Nat → Nat} {q a b : Nat} (h : LI c r ρ q) (ha : a < c 20 1) (hb : b < c 20 1) (hg : c 20 3 = 0) : ∃ ρ', LI (up2 c 7 a (c 7 a ||| 2 ^ b)) (up2 r 14 a (r 14 a ||| 2 ^ b)) ρ' (q + 1) := by
  obtain ⟨hV, h8, hB, hL, hG, hM, hC⟩ := h
  have h1 : ∀ i, up2 ρ 30 22 0 21 i ≤ 1 := fun i => (IR_U (IR_t0 hV.2.1) i).2.2.2.2.2.2.2.2.2.2
  have e14 := (hG.1 a (by omega)).2.1
  refine ⟨_, Inv_need (ρ := up2 ρ 30 22 0) hV ha hb (fun _ _ _ => rfl) h1, h8, BR_up hB (Nat.or_lt_two_pow (hB _ _ (by decide)) (Nat.pow_lt_pow_right (by decide) (by omega))), LWr_cg hL (fun i => rfl) (fun e => ⟨rfl, rfl, rfl⟩), ⟨fun u hu => ?_, fun u hu => ?_⟩, ?_, ?_⟩
  · have h9 := hG.1 u hu
    by_cases e : u = a
    · subst e
      simp [up2]
      exact ⟨h9.1, by rw [e14], h9.2.2.1, h9.2.2.2⟩
    · simpa [up2, e] using h9
  · simpa [up2] using hG.2 u hu
  · simpa [up2, LMs] using hM
  · intro z
    exact absurd hg z
theorem or7 {a b : Nat} (h : a < 128) : a ||| b * 2 ^ 7 = a + 128 * b := by
  have h2 := Nat.two_pow_add_eq_or_of_lt (i := 7) (b := a) h b
  rw [Nat.or_comm, Nat.mul_comm b]
  have e : (2 : Nat) ^ 7 = 128 := by decide
  rw [e] at h2 ⊢
  omega
/-- the wish's place in w, as the ghost has it -/
theorem LI_w {c r ρ : Nat → Nat → Nat} {q a b : Nat} (h : LI c r ρ q) (hq : q ≤ 8000) (ha : a < c 20 1) (hb : b < c 20 1) : r 2 (8 * a + b) &&& 127 = ρ 8 (20 * a + b) ∧ r 2 (8 * a + b) = pk (ρ 8 (20 * a + b)) (ρ 9 (20 * a + b)) (ρ 11 (20 * a + b)) ∧ (ρ 8 (20 * a + b) = 0 ↔ wfK c a b = 0) := by
  obtain ⟨hV, h8, hB, hL, hG, hM, hC⟩ := h
  have hS := WSp_inv hV hq
  have h2 := hL a b (by omega) (by omega)
  refine ⟨?_, h2, ?_⟩
  · rw [h2, and7]
    have h3 := hS.1 (20 * a + b)
    unfold pk
    split
    · omega
    · omega
  · constructor
    · intro z
      cases hk : wfK c a b with
      | zero => rfl
      | succ j =>
        obtain ⟨j1, j2, j3, j4, j5, j6⟩ := wf_s hV hk
        omega
    · intro z
      exact wf_0 hV (by omega) (by omega) z
theorem LI_wnew {c r ρ ca : Nat → Nat → Nat} {q a b t q0 p N : Nat} (h : LI c r ρ q) (hq : q < 600) (ha : a < c 20 1) (hb : b < c 20 1) (ht : 1 ≤ t ∧ t ≤ 100) (hg : c 20 3 = 0) (hw0 : wfK c a b = 0)
    (hca : ca = c_app (up2 (up2 (up2 (up2 (up2 (up2 (c_raw c q0) 38 2 (a + 1)) 38 3 (b + 1)) 38 4 t) 37 0 (c 37 0 + 1)) 35 0 p) 36 0 N) a b t) (hN1 : c 30 0 < N) (hN2 : N ≤ 2 * (c 30 0 + 1) + 10) : ∃ ρ', LI (up2 ca 8 a (ca 8 a ||| 2 ^ b)) (up2 (up2 r 2 (8 * a + b) (t ||| r 4 2 * 2 ^ 7)) 4 2 (r 4 2 + 1)) ρ' (q + 1) := by
  have hw := LI_w h (by omega) ha hb
  obtain ⟨hV, h8, hB, hL, hG, hM, hC⟩ := h
  have hlo : ∀ k q, k ≤ 29 → ca k q = c k q := by
    intro k q' hk
    rw [hca]
    unfold c_app c_raw
    rw [up2_c (show k ≠ 38 by omega), up2_c (show k ≠ 30 by omega), up2_c (show k ≠ 34 by omega), up2_c (show k ≠ 33 by omega), up2_c (show k ≠ 32 by omega), up2_c (show k ≠ 31 by omega), up2_c (show k ≠ 36 by omega), up2_c (show k ≠ 35 by omega), up2_c (show k ≠ 37 by omega), up2_c (show k ≠ 38 by omega), up2_c (show k ≠ 38 by omega), up2_c (show k ≠ 38 by omega), up2_c (show k ≠ 38 by omega), up2_c (show k ≠ 38 by omega), up2_c (show k ≠ 38 by omega), up2_c (show k ≠ 38 by omega), up2_c (show k ≠ 38 by omega)]
  have h30 : ∀ q, ca 30 q = if q = 0 then c 30 0 + 1 else c 30 q := by intro q'; rw [hca]; unfold c_app c_raw; simp [up2]
  have hI2 := Inv_wnew (N := N) hV hq ha hb ht hg hw0 hlo h30 (by intro q'; rw [hca]; unfold c_app c_raw; simp [up2]) (by intro q'; rw [hca]; unfold c_app c_raw; simp [up2]) (by intro q'; rw [hca]; unfold c_app c_raw; simp [up2]) (by rw [hca]; unfold c_app c_raw; simp [up2]) hN1 hN2
  have h80 := wf_0 hV (show a < 20 by omega) (show b < 20 by omega) hw0
  have e20 : ∀ i, up2 ca 8 a (ca 8 a ||| 2 ^ b) 20 i = c 20 i := fun i => (up2_c (by decide)).trans (hlo 20 i (by decide))
  have m2 : r 4 2 = c 30 0 := hM.2.2
  have e10 : ρ 30 10 = c 30 0 := hV.2.2.1.2.2.2.2.1.2.2
  have h11 : ρ 11 (20 * a + b) = 0 := by
    apply Classical.byContradiction
    intro z
    have := (hV.2.2.1.2.2.2.1 a b (by omega) (by omega)).2.2 z
    omega
  have h30b : c 30 0 ≤ q := hV.2.2.2
  refine ⟨_, hI2, by rw [e20]; exact h8, BR_up (BR_up hB ?_) (by omega), ?_, ⟨fun u hu => ?_, fun u hu => ?_⟩, ?_, ?_⟩
  · rw [or7 (by omega)]; omega
  · intro u v hu hv
    have hne : ∀ k i, k ≤ 29 → k ≠ 8 → k ≠ 9 → up2 (up2 (up2 (up2 ρ 30 22 0) 8 (20 * a + b) t) 9 (20 * a + b) (ρ 30 10)) 30 10 (ρ 30 10 + 1) k i = ρ k i := fun k i h1 h2 h3 => by
      rw [up2_c (show k ≠ 30 by omega), up2_c h3, up2_c h2, up2_c (show k ≠ 30 by omega)]
    rw [hne 11 _ (by decide) (by decide) (by decide), up2_c (show (2 : Nat) ≠ 4 by decide), up2_c (show (8 : Nat) ≠ 30 by decide), up2_c (show (8 : Nat) ≠ 9 by decide), up2_c (show (9 : Nat) ≠ 30 by decide)]
    by_cases e : 8 * u + v = 8 * a + b
    · have e1 : u = a := by omega
      have e2 : v = b := by omega
      subst e1 e2
      rw [up2_s, up2_s, up2_s, h11, or7 (by omega), m2, e10]
      unfold pk
      rw [if_neg (by omega)]
      omega
    · have e3 : 20 * u + v ≠ 20 * a + b := by omega
      rw [up2_i e, up2_i e3, up2_i e3, up2_c (show (8 : Nat) ≠ 30 by decide), up2_c (show (9 : Nat) ≠ 8 by decide), up2_c (show (9 : Nat) ≠ 30 by decide)]
      exact hL u v hu hv
  · have h9 := hG.1 u hu
    simp only [up2_c (show (13 : Nat) ≠ 4 by decide), up2_c (show (14 : Nat) ≠ 4 by decide), up2_c (show (16 : Nat) ≠ 4 by decide), up2_c (show (17 : Nat) ≠ 4 by decide), up2_c (show (13 : Nat) ≠ 2 by decide), up2_c (show (14 : Nat) ≠ 2 by decide), up2_c (show (16 : Nat) ≠ 2 by decide), up2_c (show (17 : Nat) ≠ 2 by decide), up2_c (show (5 : Nat) ≠ 8 by decide), up2_c (show (7 : Nat) ≠ 8 by decide), up2_c (show (11 : Nat) ≠ 8 by decide), up2_c (show (12 : Nat) ≠ 8 by decide)]
    rw [hlo 5 u (by decide), hlo 7 u (by decide), hlo 11 u (by decide), hlo 12 u (by decide)]
    exact h9
  · have h9 := hG.2 u (by rw [e20] at hu; exact hu)
    simp only [up2_c (show (10 : Nat) ≠ 4 by decide), up2_c (show (11 : Nat) ≠ 4 by decide), up2_c (show (12 : Nat) ≠ 4 by decide), up2_c (show (15 : Nat) ≠ 4 by decide), up2_c (show (10 : Nat) ≠ 2 by decide), up2_c (show (11 : Nat) ≠ 2 by decide), up2_c (show (12 : Nat) ≠ 2 by decide), up2_c (show (15 : Nat) ≠ 2 by decide), up2_c (show (1 : Nat) ≠ 8 by decide), up2_c (show (2 : Nat) ≠ 8 by decide), up2_c (show (6 : Nat) ≠ 8 by decide), up2_c (show (9 : Nat) ≠ 8 by decide), up2_c (show (10 : Nat) ≠ 8 by decide)]
    rw [hlo 1 u (by decide), hlo 2 u (by decide), hlo 6 u (by decide), hlo 9 u (by decide), hlo 10 u (by decide)]
    exact h9
  · refine ⟨?_, ?_, ?_⟩
    · rw [e20, up2_i (by decide), up2_c (by decide)]; exact hM.1
    · rw [e20, up2_i (by decide), up2_c (by decide)]; exact hM.2.1
    · rw [up2_s, up2_c (show (30 : Nat) ≠ 8 by decide), h30 0, m2]; rfl
  · intro z
    rw [e20] at z
    exact absurd hg z
theorem LI_wupd {c r ρ : Nat → Nat → Nat} {q a b t j : Nat} (h : LI c r ρ q) (hq : q < 600) (ha : a < c 20 1) (hb : b < c 20 1) (ht : 1 ≤ t ∧ t ≤ 100) (hg : c 20 3 = 0) (hw0 : wfK c a b = j + 1) : ∃ ρ', LI (up2 c 33 j t) (up2 (up2 r 2 (8 * a + b) (r 2 (8 * a + b) - (r 2 (8 * a + b) &&& 127) + t)) 4 2 (r 4 2)) ρ' (q + 1) := by
  have hw := LI_w h (by omega) ha hb
  obtain ⟨hV, h8, hB, hL, hG, hM, hC⟩ := h
  have hI2 := Inv_wupd hV (show a < 20 by omega) (show b < 20 by omega) ht hw0
  obtain ⟨j1, j2, j3, j4, j5, j6⟩ := wf_s hV hw0
  have h30b : c 30 0 ≤ q := hV.2.2.2
  have h11 := (IR_E hV.2.1 (20 * a + b)).2.2
  have h8b := (IR_E hV.2.1 (20 * a + b)).2.1
  have hpk : r 2 (8 * a + b) = ρ 8 (20 * a + b) + 128 * ρ 9 (20 * a + b) + 1048576 * ρ 11 (20 * a + b) := by rw [hw.2.1]; unfold pk; rw [if_neg (by omega)]
  refine ⟨_, hI2, h8, BR_up (BR_up hB ?_) (hB _ _ (by decide)), ?_, ⟨fun u hu => ?_, fun u hu => ?_⟩, ?_, ?_⟩
  · rw [hw.1]
    omega
  · intro u v hu hv
    rw [up2_c (show (11 : Nat) ≠ 30 by decide), up2_c (show (11 : Nat) ≠ 9 by decide), up2_c (show (11 : Nat) ≠ 8 by decide), up2_c (show (11 : Nat) ≠ 30 by decide), up2_c (show (2 : Nat) ≠ 4 by decide), up2_c (show (8 : Nat) ≠ 30 by decide), up2_c (show (8 : Nat) ≠ 9 by decide), up2_c (show (9 : Nat) ≠ 30 by decide)]
    by_cases e : 8 * u + v = 8 * a + b
    · have e1 : u = a := by omega
      have e2 : v = b := by omega
      subst e1 e2
      rw [up2_s, up2_s, up2_s, hw.1, hpk]
      unfold pk
      rw [if_neg (by omega)]
      omega
    · have e3 : 20 * u + v ≠ 20 * a + b := by omega
      rw [up2_i e, up2_i e3, up2_i e3, up2_c (show (8 : Nat) ≠ 30 by decide), up2_c (show (9 : Nat) ≠ 8 by decide), up2_c (show (9 : Nat) ≠ 30 by decide)]
      exact hL u v hu hv
  · simpa [up2] using hG.1 u hu
  · simpa [up2] using hG.2 u hu
  · refine ⟨hM.1, hM.2.1, ?_⟩
    rw [up2_s]
    exact hM.2.2
  · intro z
    exact absurd hg z
theorem tk_hi (c : Nat → Nat → Nat) {a u : Nat} (ha : a ≠ 20) (hu : c 20 1 ≤ u) : c_tick1 c a u = c a u := by
  rw [tk1_a c ha]
  have eE : tkE c 20 1 = c 20 1 := tkE_n c 20 1 (by omega)
  have eF : tkF c 20 1 = c 20 1 := tkF_n c 20 1 (by omega)
  have h1 : tkS c a u = tkF c a u := stI_hi _ _ _ a _ u (by rw [eF]; exact hu)
  have h2 : tkF c a u = tkE c a u := failI_hi _ a _ u (by rw [eE]; exact hu)
  have h3 : tkE c a u = c a u := endI_hi c a _ u hu
  rw [h1, h2, h3]
theorem rtk_n (ρ : Nat → Nat → Nat) {a i : Nat} (ha : a = 8 ∨ a = 9 ∨ a = 11) : r_tick1 ρ a i = ρ a i := by
  unfold r_tick1
  rw [up2_c (show a ≠ 30 by omega), up2_c (show a ≠ 30 by omega)]
  exact t3_n ρ a i (by omega)
theorem LI_tick {c r ρ u9 : Nat → Nat → Nat} {q : Nat} (h : LI c r ρ q) (hg : c 20 3 ≠ 0) (h1 : ∀ a j, a ≠ 3 → a ≠ 15 → a ≠ 16 → u9 a j = r a j) (h2 : ∀ u, u < c 20 1 → u9 16 u = c_tick1 c 11 u ∧ (c_tick1 c 9 u = 1 → u9 15 u = c_tick1 c 10 u)) (h3 : ∀ u, c 20 1 ≤ u → u9 16 u = r 16 u ∧ u9 15 u = r 15 u) (hB9 : BR u9) : LI (c_tick1 c) u9 (r_tick1 ρ) q := by
  obtain ⟨hV, h8, hB, hL, hG, hM, hC⟩ := h
  have e20 : c_tick1 c 20 1 = c 20 1 := tk1_20 c (by decide) (by decide)
  have en : ∀ a i, (a = 1 ∨ a = 2 ∨ a = 5 ∨ a = 6 ∨ a = 7 ∨ a = 8 ∨ a = 12) → c_tick1 c a i = c a i := fun a i ha => by rw [tk1_a c (by omega)]; exact tkS_n c a i (by omega)
  refine ⟨Inv_tick hV hg, by rw [e20]; exact h8, hB9, LWr_cg hL (fun i => h1 2 i (by decide) (by decide) (by decide)) (fun e => ⟨rtk_n ρ (by omega), rtk_n ρ (by omega), rtk_n ρ (by omega)⟩), ⟨fun u hu => ?_, fun u hu => ?_⟩, ?_, ?_⟩
  · obtain ⟨g1, g2, g3, g4⟩ := hG.1 u hu
    refine ⟨by rw [h1 13 u (by decide) (by decide) (by decide), en 5 u (by omega)]; exact g1, by rw [h1 14 u (by decide) (by decide) (by decide), en 7 u (by omega)]; exact g2, ?_, by rw [h1 17 u (by decide) (by decide) (by decide), en 12 u (by omega)]; exact g4⟩
    rcases Nat.lt_or_ge u (c 20 1) with e | e
    · exact (h2 u e).1
    · rw [(h3 u e).1, tk_hi c (by decide) e]; exact g3
  · rw [e20] at hu
    obtain ⟨g1, g2, g3, g4⟩ := hG.2 u hu
    exact ⟨by rw [h1 10 u (by decide) (by decide) (by decide), en 1 u (by omega)]; exact g1, by rw [h1 11 u (by decide) (by decide) (by decide), en 2 u (by omega)]; exact g2, by rw [h1 12 u (by decide) (by decide) (by decide), en 6 u (by omega)]; exact g3, (h2 u hu).2⟩
  · refine ⟨?_, ?_, ?_⟩
    · rw [h1 4 0 (by decide) (by decide) (by decide), tk1_20 c (by decide) (by decide)]; exact hM.1
    · rw [h1 4 1 (by decide) (by decide) (by decide), tk1_20 c (by decide) (by decide)]; exact hM.2.1
    · rw [h1 4 2 (by decide) (by decide) (by decide), tk1_a c (by decide), tkS_n c 30 0 (by omega)]; exact hM.2.2
  · intro _
    rw [tk1_20 c (by decide) (by decide)]
    exact tick_cnt (hC hg)
/-! a begin -/
theorem bg_11 (c : Nat → Nat → Nat) : ∀ k w, w < k → c_bgI c k 11 w = 0
  | 0, w, h => absurd h (Nat.not_lt_zero w)
  | k + 1, w, h => by
    show c_bg1 (c_bgI c k) k 11 w = 0
    unfold c_bg1 c_reset
    rw [up2_c (show (11 : Nat) ≠ 20 by decide), up2_c (show (11 : Nat) ≠ 12 by decide)]
    by_cases e : w = k
    · rw [e, up2_s]
    · rw [up2_i e, up2_c (show (11 : Nat) ≠ 9 by decide)]
      exact bg_11 c k w (by omega)
/-- what a begin leaves -/
theorem beg_v {c : Nat → Nat → Nat} {b : Nat} (hI : IC c) (hb : b ≤ 20) : (∀ a w, a ≤ 12 → a ≠ 8 → (c 20 1 ≤ w ∨ a < 9 ∨ a = 10) → c_begin c b a w = c a w) ∧ (∀ w, w < c 20 1 → c_begin c b 9 w = (if c 5 w = 0 then 0 else 4) ∧ c_begin c b 11 w = 0 ∧ c_begin c b 12 w = c 3 w) ∧ c_begin c b 20 1 = c 20 1 ∧ c_begin c b 20 3 = 1 ∧ c_begin c b 20 4 = b ∧ c_begin c b 20 5 = sm (fun u => if c 5 u = 0 then c 3 u else 0) (c 20 1) ∧ c_begin c b 30 0 = c 30 0 ∧ c_begin c b 20 6 = (if 0 < sm (fun u => if c 5 u = 0 then c 3 u else 0) (c 20 1) then 0 else 1000) := by
  have e0 : ∀ a i, a ≠ 8 → a ≠ 20 → c_bg0 c b a i = c a i := fun a i h h2 => by
    unfold c_bg0
    rw [up2_c h2, cutC_n _ a i h, up2_c h2]
  have e01 : c_bg0 c b 20 1 = c 20 1 := by
    unfold c_bg0
    rw [up2_i (by decide), cutC_n _ 20 1 (by decide), up2_i (by decide)]
  have e04 : c_bg0 c b 20 4 = b := by
    unfold c_bg0
    rw [up2_i (by decide), cutC_n _ 20 4 (by decide), up2_s]
  have e05 : c_bg0 c b 20 5 = 0 := up2_s ..
  obtain ⟨v1, v2, v3⟩ := bg_val (c := c_bg0 c b) e05 (c_bg0 c b 20 1)
  have v11 := bg_11 (c_bg0 c b) (c_bg0 c b 20 1)
  rw [e01] at v1 v2 v3 v11
  have sv : sm (fun u => if c_bg0 c b 5 u = 0 then c_bg0 c b 3 u else 0) (c 20 1) = sm (fun u => if c 5 u = 0 then c 3 u else 0) (c 20 1) := sm_cg (fun u _ => by rw [e0 5 u (by decide) (by decide), e0 3 u (by decide) (by decide)])
  rw [sv] at v3
  have ea : ∀ a i, a ≠ 20 → c_begin c b a i = c_bgI (c_bg0 c b) (c 20 1) a i := fun a i h => by
    unfold c_begin c_bar
    rw [e01, up2_c h, up2_c h, up2_c h]
  have eo : ∀ i, i ≠ 3 → i ≠ 6 → c_begin c b 20 i = c_bgI (c_bg0 c b) (c 20 1) 20 i := fun i h h6 => by
    unfold c_begin c_bar
    rw [e01, up2_i h6, up2_i h6, up2_i h]
  have f9 : ∀ w, w < c 20 1 → c_begin c b 9 w = (if c 5 w = 0 then 0 else 4) := fun w hw => by rw [ea 9 w (by decide), (v2 w hw).1, e0 5 w (by decide) (by decide)]
  refine ⟨fun a w ha h8 h => ?_, fun w hw => ⟨f9 w hw, ?_, ?_⟩, ?_, ?_, ?_, ?_, ?_, ?_⟩
  · rw [ea a w (by omega), v1 w a (by omega) ha, e0 a w h8 (by omega)]
  · rw [ea 11 w (by decide), v11 w hw]
  · rw [ea 12 w (by decide), (v2 w hw).2, e0 3 w (by decide) (by decide)]
  · rw [eo 1 (by decide) (by decide), bgI_n _ 20 1 (by omega), e01]
  · unfold c_begin c_bar
    rw [up2_i (by decide), up2_i (by decide), up2_s]
  · rw [eo 4 (by decide) (by decide), bgI_n _ 20 4 (by omega), e04]
  · rw [eo 5 (by decide) (by decide), v3]
  · rw [ea 30 0 (by decide), bgI_n _ 30 0 (by omega), e0 30 0 (by decide) (by decide)]
  · have hp : sm (c_part (up2 (up2 (c_bgI (c_bg0 c b) (c 20 1)) 20 3 1) 20 6 0)) (c 20 1) = 0 := sm_0 (fun w hw => by
      have h9 := f9 w hw
      rw [ea 9 w (by decide)] at h9
      have h9 : c_bgI (c_bg0 c b) (c 20 1) 9 w = 0 ∨ c_bgI (c_bg0 c b) (c 20 1) 9 w = 4 := by
        rw [h9]
        split
        · exact Or.inl rfl
        · exact Or.inr rfl
      unfold c_part
      rw [up2_c (show (9 : Nat) ≠ 20 by decide), up2_c (show (9 : Nat) ≠ 20 by decide), if_neg (by omega), if_neg (by omega)])
    unfold c_begin c_bar
    rw [e01, up2_s, up2_s, up2_i (show (3 : Nat) ≠ 6 by decide), up2_s, up2_i (show (5 : Nat) ≠ 6 by decide), up2_i (show (5 : Nat) ≠ 3 by decide), up2_i (show (1 : Nat) ≠ 6 by decide), up2_i (show (1 : Nat) ≠ 3 by decide), v3, bgI_n _ 20 1 (by omega), e01, hp]
    by_cases z : 0 < sm (fun u => if c 5 u = 0 then c 3 u else 0) (c 20 1)
    · rw [if_pos ⟨by decide, z⟩, if_pos z, Nat.mul_zero, Nat.zero_div]
      rfl
    · rw [if_neg (fun y => z y.2), if_neg z]
      rfl
theorem rbg8 (ρ : Nat → Nat → Nat) (b : Nat) {a i : Nat} (ha : a = 8 ∨ a = 9 ∨ a = 11) : r_begin ρ b a i = ρ a i := by
  unfold r_begin
  rw [up2_c (show a ≠ 30 by omega), up2_c (show a ≠ 30 by omega), rbg_n _ a i (by omega)]
  unfold r_bgS
  rw [up2_c (show a ≠ 30 by omega), up2_c (show a ≠ 30 by omega), up2_c (show a ≠ 30 by omega), up2_c (show a ≠ 30 by omega)]
theorem LI_begin {c r ρ u9 : Nat → Nat → Nat} {q b J : Nat} (h : LI c r ρ q) (hb : 1 ≤ b ∧ b ≤ 20) (hL9 : LWr u9 (cutI (r_clr (up2 ρ 30 22 0) 400) J)) (hnz : ∀ j, j < J → wkR (cutI (r_clr (up2 ρ 30 22 0) 400) j) ≠ 0) (h0 : wkR (cutI (r_clr (up2 ρ 30 22 0) 400) J) = 0) (hB9 : BR u9)
    (h1 : ∀ a j, (a = 10 ∨ a = 11 ∨ a = 12 ∨ a = 13 ∨ a = 14) → u9 a j = r a j) (h2 : ∀ u, u < c 20 1 → u9 16 u = 0 ∧ u9 17 u = c 3 u) (h3 : ∀ u, c 20 1 ≤ u → u9 16 u = r 16 u ∧ u9 17 u = r 17 u) (hm : u9 4 0 = b ∧ u9 4 1 = sm (fun u => if c 5 u = 0 then c 3 u else 0) (c 20 1) ∧ u9 4 2 = r 4 2) : ∃ ρ', LI (c_begin c b) u9 ρ' (q + 1) := by
  obtain ⟨hV, h8, hB, hL, hG, hM, hC⟩ := h
  have hIR : IR (cutI (r_clr (up2 ρ 30 22 0) 400) J) := IR_cutI (IR_c0 hV.2.1) J
  obtain ⟨-, hV2, -⟩ := Inv_begin (ρ := cutI (r_clr (up2 ρ 30 22 0) 400) J) hV hb (fun _ _ _ => rfl) (fun i => (IR_U hIR i).2.2.2.2.2.2.2.2.2.2) hnz h0
  obtain ⟨b1, b2, b3, b4, b5, b6, b7, b8⟩ := beg_v hV.1 hb.2
  refine ⟨_, hV2, by rw [b3]; exact h8, hB9, LWr_cg hL9 (fun _ => rfl) (fun e => ⟨rbg8 _ b (by omega), rbg8 _ b (by omega), rbg8 _ b (by omega)⟩), ⟨fun u hu => ?_, fun u hu => ?_⟩, ⟨?_, ?_, ?_⟩, ?_⟩
  · obtain ⟨g1, g2, g3, g4⟩ := hG.1 u hu
    refine ⟨by rw [h1 13 u (by omega), b1 5 u (by decide) (by decide) (by omega)]; exact g1, by rw [h1 14 u (by omega), b1 7 u (by decide) (by decide) (by omega)]; exact g2, ?_, ?_⟩
    · rcases Nat.lt_or_ge u (c 20 1) with e | e
      · rw [(h2 u e).1, (b2 u e).2.1]
      · rw [(h3 u e).1, b1 11 u (by decide) (by decide) (Or.inl e)]; exact g3
    · rcases Nat.lt_or_ge u (c 20 1) with e | e
      · rw [(h2 u e).2, (b2 u e).2.2]
      · rw [(h3 u e).2, b1 12 u (by decide) (by decide) (Or.inl e)]; exact g4
  · rw [b3] at hu
    obtain ⟨g1, g2, g3, g4⟩ := hG.2 u hu
    refine ⟨by rw [h1 10 u (by omega), b1 1 u (by decide) (by decide) (by omega)]; exact g1, by rw [h1 11 u (by omega), b1 2 u (by decide) (by decide) (by omega)]; exact g2, by rw [h1 12 u (by omega), b1 6 u (by decide) (by decide) (by omega)]; exact g3, fun z => ?_⟩
    rw [(b2 u hu).1] at z
    split at z <;> omega
  · rw [b5]; exact hm.1
  · rw [b6]; exact hm.2.1
  · rw [b7, hm.2.2]; exact hM.2.2
  · intro _
    have hz : c_cnt (c_begin c b) = 0 := by
      unfold c_cnt
      rw [b3]
      refine Nat.eq_zero_of_not_pos (fun z => ?_)
      have hle : ct (fun w => c_begin c b 9 w = 1) (c 20 1) ≤ ct (fun _ => False) (c 20 1) := ct_sub (fun w hw h1 => by
        rw [(b2 w hw).1] at h1
        split at h1 <;> omega)
      have h0 : ∀ n, ct (fun _ => False) n = 0 := fun n => by
        induction n with
        | zero => rfl
        | succ n ih => rw [ct_f (fun z => z), ih]
      rw [h0] at hle
      omega
    rw [hz]
    exact Nat.zero_le _
