theorem Inv_need {c r ρ : Nat → Nat → Nat} {i a b : Nat} (hV : Inv c r i) (ha : a < c 20 1) (hb : b < c 20 1) (hk : ∀ a i, a ≠ 21 → ρ a i = up2 r 30 22 0 a i) (h1 : ∀ i, ρ 21 i ≤ 1) :
    Inv (up2 c 7 a (c 7 a ||| 2 ^ b)) (up2 (up2 ρ 30 22 0) 7 (20 * a + b) 1) (i + 1) := by
  obtain ⟨hI, hJ, ⟨hF, hS, hN, hE, hW, hO, hG⟩, hw⟩ := hV
  have hn := IC_n hI
  have hk2 : ∀ q i, q ≠ 21 → q ≠ 30 → ρ q i = r q i := fun q i h h' => (hk q i h).trans (up2_c h')
  have hk3 : ∀ i, i ≠ 22 → ρ 30 i = r 30 i := fun i h => (hk 30 i (by decide)).trans (up2_i h)
  refine ⟨IC_67 hI (Or.inr ⟨Or.inl rfl, Nat.or_lt_two_pow (IC_7 hI a) (Nat.pow_lt_pow_right (by decide) hb)⟩), ?_, ⟨?_, ?_, ?_, ?_, ?_, ?_, hG⟩, Nat.le_succ_of_le hw⟩
  · exact IR_up (IR_obj (IR_off (IR_t0 hJ) hk h1) (o22 (by decide))) (rV0 (Or.inr (Or.inr (Or.inr (Or.inr (Or.inr (Or.inr (Or.inl ⟨rfl, Nat.le_refl 1⟩))))))))
  · intro u hu
    have hu2 : c 20 1 ≤ u := hu
    have h9 := hF u hu2
    have : u ≠ a := by omega
    simpa [up2, this] using h9
  · intro u
    simp [up2]
    rw [hk2 4 u (by decide) (by decide), hk2 6 u (by decide) (by decide), hk2 17 u (by decide) (by decide), hk2 18 u (by decide) (by decide), hk2 19 u (by decide) (by decide), hk2 20 u (by decide) (by decide)]
    exact hS u
  · intro u hu
    simp [up2]
    rw [hk2 1 u (by decide) (by decide), hk2 2 u (by decide) (by decide), hk2 3 u (by decide) (by decide), hk2 5 u (by decide) (by decide)]
    exact hN u hu
  · intro u v hu hv
    have h9 := hE u v hu hv
    refine ⟨?_, ?_, ?_⟩
    · by_cases e : u = a ∧ v = b
      · obtain ⟨rfl, rfl⟩ := e
        rw [up2_s, up2_s, Nat.testBit_or, Nat.testBit_two_pow]
        simp
      · rw [up2_i (show 20 * u + v ≠ 20 * a + b by omega), up2_c (show (7 : Nat) ≠ 30 by decide), hk2 7 _ (by decide) (by decide), ← h9.1]
        by_cases e2 : u = a
        · subst e2
          have : ¬ b = v := fun z => e ⟨rfl, z.symm⟩
          rw [up2_s, Nat.testBit_or, Nat.testBit_two_pow]
          simp [this]
        · rw [up2_i e2]
    · simp only [up2]
      simp
      rw [hk2 8 _ (by decide) (by decide), hk2 11 _ (by decide) (by decide)]
      exact h9.2.1
    · simp only [up2]
      simp
      rw [hk2 8 _ (by decide) (by decide), hk2 11 _ (by decide) (by decide)]
      exact h9.2.2
  · obtain ⟨w1, w2, w3⟩ := hW
    refine ⟨fun j hj => ?_, fun u v hu hv => ?_, ?_⟩
    · simp [up2]
      rw [hk2 8 _ (by decide) (by decide), hk2 9 _ (by decide) (by decide)]
      exact w1 j hj
    · simp [up2]
      rw [hk2 8 _ (by decide) (by decide)]
      exact w2 u v hu hv
    · simp [up2]
      rw [hk3 10 (by decide)]
      exact w3
  · obtain ⟨o1, o2, o3, o4, o5, o6⟩ := hO
    refine ⟨?_, ?_, ?_, ?_, ?_, ?_⟩ <;> simp [up2] <;> simp only [hk3 0 (by decide), hk3 12 (by decide), hk3 13 (by decide), hk3 14 (by decide), hk3 15 (by decide), hk3 16 (by decide)] <;> assumption
/-- off the reached column, and the thrown code -/
theorem Inv_off {c r ρ : Nat → Nat → Nat} {i w : Nat} (hV : Inv c r i) (hk : ∀ a i, a ≠ 21 → ρ a i = up2 r 30 22 0 a i) (h1 : ∀ i, ρ 21 i ≤ 1) (hw : w ≤ 3) : Inv c (up2 ρ 30 22 w) (i + 1) := by
  obtain ⟨hI, hJ, ⟨hF, hS, hN, hE, hW, hO, hG⟩, hw2⟩ := hV
  have hk2 : ∀ q i, q ≠ 21 → q ≠ 30 → ρ q i = r q i := fun q i h h' => (hk q i h).trans (up2_c h')
  have hk3 : ∀ i, i ≠ 22 → ρ 30 i = r 30 i := fun i h => (hk 30 i (by decide)).trans (up2_i h)
  refine ⟨hI, IR_obj (IR_off (IR_t0 hJ) hk h1) (o22 hw), ⟨hF, ?_, ?_, ?_, ?_, ?_, hG⟩, Nat.le_succ_of_le hw2⟩
  · intro u
    simp [up2]
    rw [hk2 4 u (by decide) (by decide), hk2 6 u (by decide) (by decide), hk2 17 u (by decide) (by decide), hk2 18 u (by decide) (by decide), hk2 19 u (by decide) (by decide), hk2 20 u (by decide) (by decide)]
    exact hS u
  · intro u hu
    simp [up2]
    rw [hk2 1 u (by decide) (by decide), hk2 2 u (by decide) (by decide), hk2 3 u (by decide) (by decide), hk2 5 u (by decide) (by decide)]
    exact hN u hu
  · intro u v hu hv
    simp only [up2]
    simp
    rw [hk2 7 _ (by decide) (by decide), hk2 8 _ (by decide) (by decide), hk2 11 _ (by decide) (by decide)]
    exact hE u v hu hv
  · obtain ⟨w1, w2, w3⟩ := hW
    refine ⟨fun j hj => ?_, fun u v hu hv => ?_, ?_⟩
    · simp [up2]
      rw [hk2 8 _ (by decide) (by decide), hk2 9 _ (by decide) (by decide)]
      exact w1 j hj
    · simp [up2]
      rw [hk2 8 _ (by decide) (by decide)]
      exact w2 u v hu hv
    · simp [up2]
      rw [hk3 10 (by decide)]
      exact w3
  · obtain ⟨o1, o2, o3, o4, o5, o6⟩ := hO
    refine ⟨?_, ?_, ?_, ?_, ?_, ?_⟩ <;> simp [up2] <;> simp only [hk3 0 (by decide), hk3 12 (by decide), hk3 13 (by decide), hk3 14 (by decide), hk3 15 (by decide), hk3 16 (by decide)] <;> assumption
theorem T_need {c r : Nat → Nat → Nat} {i o : Nat} {x y k9 v : Int32} {z9 : (Nat → Nat → Nat) × Nat} {u9 : Nat → Nat → Nat} (hV : Inv c r i) (h1 : PC_need c o x y k9 z9) (h2 : PM_need r x y v u9) : OutZ k9 z9 v u9 i := by
  have e0 : r 30 0 = c 20 1 := hV.2.2.1.2.2.2.2.2.1.1
  have e3 : r 30 13 = c 20 3 := hV.2.2.1.2.2.2.2.2.1.2.1
  have hn := IC_n hV.1
  unfold PM_need at h2
  rw [e0, e3, ok_iff hV.2.2.1, ok_iff hV.2.2.1] at h2
  simp only [← reach_iff hV.1 hV.2.2.1] at h2
  rcases h1 with ⟨rfl, w, ⟨a, b, ha, hb, rfl, rfl, hr, hg, rfl, hz⟩, ho⟩ | ⟨rfl, rfl, hp⟩ | ⟨rfl, rfl, hp⟩
  · rcases h2 with ⟨hc, -⟩ | ⟨a', b', ρ, ha', hb', ex, ey, hc, -⟩ | ⟨a', b', ρ, ha', hb', ex, ey, -, -, hk, h1, rfl, rfl⟩
    · exact absurd ⟨⟨a, ha, rfl⟩, ⟨b, hb, rfl⟩⟩ hc
    · have e1 : a = a' := nI_ij (by omega) (by omega) ex
      have e2 : b = b' := nI_ij (by omega) (by omega) ey
      subst e1 e2
      exact absurd ⟨hr, hg⟩ hc
    · have e1 : a = a' := nI_ij (by omega) (by omega) ex
      have e2 : b = b' := nI_ij (by omega) (by omega) ey
      subst e1 e2
      refine ⟨by simp [up2], fun _ => ?_, ?_⟩
      · rw [ho]
        have h9 := (hV.2.2.1.2.2.2.1 a b (by omega) (by omega)).1
        have h8 := (IR_E hV.2.1 (20 * a + b)).1
        rw [b01 h8 h9.symm]
      · rw [hz]
        exact Inv_need hV ha hb hk h1
  · have hb := hp.elim (fun z => z.2) (fun z => absurd z.1 exOS)
    rcases h2 with ⟨-, rfl⟩ | ⟨a', b', ρ, ha', hb', rfl, rfl, -⟩ | ⟨a', b', ρ, ha', hb', rfl, rfl, -⟩
    · exact OutZ_f hV (by decide) (by decide)
    · exact absurd ⟨⟨_, ha', rfl⟩, ⟨_, hb', rfl⟩⟩ hb
    · exact absurd ⟨⟨_, ha', rfl⟩, ⟨_, hb', rfl⟩⟩ hb
  · obtain ⟨-, a, b, ha, hb, rfl, rfl, hc⟩ := hp.elim (fun z => absurd z.1.symm exOS) id
    rcases h2 with ⟨hc', -⟩ | ⟨a', b', ρ, ha', hb', ex, ey, -, hk, h1, rfl⟩ | ⟨a', b', ρ, ha', hb', ex, ey, h8, h9, -⟩
    · exact absurd ⟨⟨a, ha, rfl⟩, ⟨b, hb, rfl⟩⟩ hc'
    · exact ⟨by simp [up2], fun z => absurd (nI_ij (by decide) (by decide) z) (by decide), Inv_off hV hk h1 (by decide)⟩
    · have e1 : a = a' := nI_ij (by omega) (by omega) ex
      have e2 : b = b' := nI_ij (by omega) (by omega) ey
      subst e1 e2
      exact absurd ⟨h8, h9⟩ hc
/-- a unit's own number set: columns 4/4, 5/6, 1/1 -/
theorem Inv_unit {c r : Nat → Nat → Nat} {i a t ac ar : Nat} (hV : Inv c r i) (ha : a < c 20 1) (hc : (ac = 1 ∧ ar = 1 ∧ t ≤ 100) ∨ (ac = 4 ∧ ar = 4 ∧ t ≤ 10) ∨ (ac = 5 ∧ ar = 6 ∧ t ≤ 1 ∧ c 20 3 = 0)) :
    Inv (up2 c ac a t) (up2 (up2 r 30 22 0) ar a t) (i + 1) := by
  obtain ⟨hI, hJ, ⟨hF, hS, hN, hE, hW, hO, hG⟩, hw⟩ := hV
  have hIC : IC (up2 c ac a t) := IC_1 hI (hc.elim (fun z => Or.inl ⟨z.1, z.2.2⟩) (fun z => z.elim (fun z => Or.inr (Or.inr (Or.inl ⟨z.1, z.2.2⟩))) (fun z => Or.inr (Or.inr (Or.inr ⟨z.1, z.2.2.1⟩)))))
  have hIR : IR (up2 (up2 r 30 22 0) ar a t) := IR_up (IR_t0 hJ) (rV0 (hc.elim (fun z => Or.inl ⟨z.2.1, z.2.2⟩) (fun z => z.elim (fun z => Or.inr (Or.inr (Or.inr (Or.inl ⟨z.2.1, z.2.2⟩)))) (fun z => Or.inr (Or.inr (Or.inr (Or.inr (Or.inr (Or.inl ⟨z.2.1, z.2.2.1⟩)))))))))
  refine ⟨hIC, hIR, ⟨?_, ?_, ?_, ?_, ?_, ?_, ?_⟩, ?_⟩
  · intro u hu
    have hu2 : c 20 1 ≤ u := by
      have : up2 c ac a t 20 1 = c 20 1 := up2_c (by omega)
      omega
    have h9 := hF u hu2
    have : u ≠ a := by omega
    rw [up2_i this, up2_i this, up2_i this, up2_i this, up2_i this, up2_i this, up2_i this]
    exact h9
  · intro u
    have h9 := hS u
    rcases hc with ⟨rfl, rfl, -⟩ | ⟨rfl, rfl, -⟩ | ⟨rfl, rfl, -⟩
    · simpa [up2] using h9
    · by_cases e : u = a
      · subst e; simpa [up2] using h9.2
      · simpa [up2, e] using h9
    · by_cases e : u = a
      · subst e; simpa [up2] using ⟨h9.1, h9.2.2⟩
      · simpa [up2, e] using h9
  · intro u hu
    have hu2 : u < c 20 1 := by
      have : up2 c ac a t 20 1 = c 20 1 := up2_c (by omega)
      omega
    have h9 := hN u hu2
    rcases hc with ⟨rfl, rfl, -⟩ | ⟨rfl, rfl, -⟩ | ⟨rfl, rfl, -⟩
    · by_cases e : u = a
      · subst e; simpa [up2] using h9.2
      · simpa [up2, e] using h9
    · simpa [up2] using h9
    · simpa [up2] using h9
  · intro u v hu hv
    have h9 := hE u v hu hv
    rw [up2_c (show (7 : Nat) ≠ ac by omega), up2_c (show (8 : Nat) ≠ ac by omega), up2_c (show (7 : Nat) ≠ ar by omega), up2_c (show (8 : Nat) ≠ ar by omega), up2_c (show (11 : Nat) ≠ ar by omega)]
    exact h9
  · unfold Wsh
    rw [up2_c (show (30 : Nat) ≠ ac by omega), up2_c (show (30 : Nat) ≠ ar by omega)]
    refine ⟨fun j hj => ?_, fun u v hu hv => ?_, hW.2.2⟩
    · rw [up2_c (show (31 : Nat) ≠ ac by omega), up2_c (show (32 : Nat) ≠ ac by omega), up2_c (show (33 : Nat) ≠ ac by omega), up2_c (show (8 : Nat) ≠ ar by omega), up2_c (show (9 : Nat) ≠ ar by omega)]
      exact hW.1 j hj
    · rw [up2_c (show (8 : Nat) ≠ ar by omega)]
      intro h
      obtain ⟨j, h1, h2, h3⟩ := hW.2.1 u v hu hv h
      exact ⟨j, h1, by rw [up2_c (show (31 : Nat) ≠ ac by omega)]; exact h2, by rw [up2_c (show (32 : Nat) ≠ ac by omega)]; exact h3⟩
  · unfold Obj
    rw [up2_c (show (20 : Nat) ≠ ac by omega), up2_c (show (20 : Nat) ≠ ac by omega), up2_c (show (20 : Nat) ≠ ac by omega), up2_c (show (20 : Nat) ≠ ac by omega), up2_c (show (20 : Nat) ≠ ac by omega), up2_c (show (30 : Nat) ≠ ar by omega), up2_c (show (30 : Nat) ≠ ar by omega), up2_c (show (30 : Nat) ≠ ar by omega), up2_c (show (30 : Nat) ≠ ar by omega), up2_c (show (30 : Nat) ≠ ar by omega), up2_c (show (30 : Nat) ≠ ar by omega)]
    exact hO
  · unfold Goi
    rw [up2_c (show (20 : Nat) ≠ ac by omega), up2_c (show (20 : Nat) ≠ ac by omega), up2_c (show (20 : Nat) ≠ ac by omega), up2_c (show (20 : Nat) ≠ ac by omega)]
    refine ⟨hG.1, fun z => ?_⟩
    have hne : ac ≠ 5 := fun e => by omega
    obtain ⟨g1, g2⟩ := hG.2 z
    have e5 : ∀ u, up2 c ac a t 5 u = c 5 u := fun u => up2_c (fun z => hne z.symm)
    have e12 : ∀ u, up2 c ac a t 12 u = c 12 u := fun u => up2_c (by omega)
    have e9 : ∀ u, up2 c ac a t 9 u = c 9 u := fun u => up2_c (by omega)
    simp only [e5, e12, e9]
    exact ⟨g1, g2⟩
  · rw [up2_c (show (30 : Nat) ≠ ac by omega)]
    exact Nat.le_succ_of_le hw
theorem T_hold {c r : Nat → Nat → Nat} {i o b : Nat} {x k9 v : Int32} {z9 : (Nat → Nat → Nat) × Nat} {u9 : Nat → Nat → Nat} (hV : Inv c r i) (hb1 : b ≤ 1) (h1 : PC_hold c o x b k9 z9) (h2 : PM_hold r x b v u9) : OutZ k9 z9 v u9 i := by
  have e0 : r 30 0 = c 20 1 := hV.2.2.1.2.2.2.2.2.1.1
  have e3 : r 30 13 = c 20 3 := hV.2.2.1.2.2.2.2.2.1.2.1
  have hn := IC_n hV.1
  unfold PM_hold at h2
  rw [e0, e3, ok_iff hV.2.2.1] at h2
  rcases h1 with ⟨rfl, w, ⟨a, ha, rfl, hg, rfl, hz⟩, ho⟩ | ⟨rfl, rfl, hp⟩ | ⟨rfl, rfl, hp⟩
  · rcases h2 with ⟨hc, -⟩ | ⟨-, hc, -⟩ | ⟨a', ha', ex, -, rfl, rfl⟩
    · exact absurd ⟨a, ha, rfl⟩ hc
    · exact absurd hg hc
    · have e1 : a = a' := nI_ij (by omega) (by omega) ex
      subst e1
      refine ⟨by simp [up2], fun _ => by rw [ho, (hV.2.2.1.2.1 a).2.1], ?_⟩
      rw [hz]
      exact Inv_unit hV ha (Or.inr (Or.inr ⟨rfl, rfl, hb1, hg⟩))
  · have hb := hp.elim (fun z => z.2) (fun z => absurd z.1 exOS)
    rcases h2 with ⟨-, rfl⟩ | ⟨hc, -⟩ | ⟨a', ha', rfl, -⟩
    · exact OutZ_f hV (by decide) (by decide)
    · exact absurd hc hb
    · exact absurd ⟨_, ha', rfl⟩ hb
  · obtain ⟨-, ha, hb⟩ := hp.elim (fun z => absurd z.1.symm exOS) id
    rcases h2 with ⟨hc, -⟩ | ⟨-, -, rfl⟩ | ⟨a', ha', rfl, hc, -⟩
    · exact absurd ha hc
    · exact OutZ_f hV (by decide) (by decide)
    · exact absurd hc hb
theorem T_set {c r : Nat → Nat → Nat} {i o lo hi ac : Nat} {x y k9 v : Int32} {z9 : (Nat → Nat → Nat) × Nat} {u9 : Nat → Nat → Nat} (hV : Inv c r i) (hac : (ac = 1 ∧ lo = 1 ∧ hi = 100) ∨ (ac = 4 ∧ lo = 0 ∧ hi = 10))
    (h1 : (k9 = nI 0 ∧ ∃ v9 : Int32, (fun (u9 : Nat → Nat → Nat) => ∃ a t, a < c 20 1 ∧ x = nI a ∧ (lo ≤ t ∧ t ≤ hi) ∧ y = nI t ∧ v9 = nI (c ac a) ∧ u9 = up2 c ac a t) z9.1 ∧ v9.toInt64 = lE z9.2) ∨ (k9 = nI 1 ∧ z9 = (c, o) ∧ (fun E => (E = exO ∧ ¬ okU c x) ∨ (E = exA ∧ okU c x ∧ ¬ inR y lo hi)) exO) ∨ (k9 = nI 2 ∧ z9 = (c, o) ∧ (fun E => (E = exO ∧ ¬ okU c x) ∨ (E = exA ∧ okU c x ∧ ¬ inR y lo hi)) exA))
    (h2 : (¬ okR r x ∧ u9 = up2 r 30 22 1) ∨ (okR r x ∧ ¬ inR y lo hi ∧ u9 = up2 r 30 22 2) ∨ (∃ a t, a < r 30 0 ∧ x = nI a ∧ (lo ≤ t ∧ t ≤ hi) ∧ y = nI t ∧ v = nI (r ac a) ∧ u9 = up2 (up2 r 30 22 0) ac a t)) : Out k9 z9 v u9 i := by
  have e0 : r 30 0 = c 20 1 := hV.2.2.1.2.2.2.2.2.1.1
  have hn := IC_n hV.1
  have hhi : hi < 2 ^ 31 := by omega
  rw [e0, ok_iff hV.2.2.1] at h2
  rcases h1 with ⟨rfl, w, ⟨a, t, ha, rfl, ht, rfl, rfl, hz⟩, ho⟩ | ⟨rfl, rfl, hp⟩ | ⟨rfl, rfl, hp⟩
  · rcases h2 with ⟨hc, -⟩ | ⟨-, hc, -⟩ | ⟨a', t', ha', ex, ht', ey, rfl, rfl⟩
    · exact absurd ⟨a, ha, rfl⟩ hc
    · exact absurd (inR_of ht.1 ht.2 hhi) hc
    · have e1 : a = a' := nI_ij (by omega) (by omega) ex
      have e2 : t = t' := nI_ij (by omega) (by omega) ey
      subst e1 e2
      refine ⟨by rw [up2_c (show (30 : Nat) ≠ ac by omega), up2_s], fun _ => ?_, ?_⟩
      · rw [← ho]
        rcases hac with ⟨rfl, -⟩ | ⟨rfl, -⟩
        · rw [(hV.2.2.1.2.2.1 a ha).1]
        · rw [(hV.2.2.1.2.1 a).1]
      · rw [hz]
        exact Inv_unit hV ha (by omega)
  · have hb := hp.elim (fun z => z.2) (fun z => absurd z.1.symm exAO)
    rcases h2 with ⟨-, rfl⟩ | ⟨hc, -⟩ | ⟨a', t', ha', rfl, -⟩
    · exact Out_f hV (by decide) (by decide)
    · exact absurd hc hb
    · exact absurd ⟨_, ha', rfl⟩ hb
  · obtain ⟨-, ha, hb⟩ := hp.elim (fun z => absurd z.1 exAO) id
    rcases h2 with ⟨hc, -⟩ | ⟨-, -, rfl⟩ | ⟨a', t', ha', rfl, ht', rfl, -⟩
    · exact absurd ha hc
    · exact Out_f hV (by decide) (by decide)
    · exact absurd (inR_of ht'.1 ht'.2 hhi) hb
theorem T_setFaults {c r : Nat → Nat → Nat} {i o : Nat} {x y k9 v : Int32} {z9 : (Nat → Nat → Nat) × Nat} {u9 : Nat → Nat → Nat} (hV : Inv c r i) (h1 : PC_setFaults c o x y k9 z9) (h2 : PM_setFaults r x y v u9) : Out k9 z9 v u9 i :=
  T_set (ac := 4) hV (Or.inr ⟨rfl, rfl, rfl⟩) h1 h2
theorem T_setTime {c r : Nat → Nat → Nat} {i o : Nat} {x y k9 v : Int32} {z9 : (Nat → Nat → Nat) × Nat} {u9 : Nat → Nat → Nat} (hV : Inv c r i) (h1 : PC_setTime c o x y k9 z9) (h2 : PM_setTime r x y v u9) : Out k9 z9 v u9 i :=
  T_set (ac := 1) hV (Or.inl ⟨rfl, rfl, rfl⟩) h1 h2
