theorem Inv_si {c r : Nat → Nat → Nat} {i a k : Nat} (hV : Inv c r i) (ha : a < c 20 1) (hk : k ≤ c 20 1) : Inv (up2 c 6 a k) (up2 (up2 r 30 22 0) 5 a k) (i + 1) := by
  obtain ⟨hI, hJ, ⟨hF, hS, hN, hE, hW, hO, hG⟩, hw⟩ := hV
  have hn := IC_n hI
  refine ⟨IC_67 hI (Or.inl ⟨rfl, hk⟩), IR_up (IR_t0 hJ) (rV0 (Or.inr (Or.inr (Or.inr (Or.inr (Or.inl ⟨rfl, by omega⟩)))))), ⟨?_, ?_, ?_, ?_, ?_, ?_, ?_⟩, Nat.le_succ_of_le hw⟩
  · intro u hu
    have hu2 : c 20 1 ≤ u := hu
    have h9 := hF u hu2
    have : u ≠ a := by omega
    simpa [up2, this] using h9
  · intro u
    simpa [up2] using hS u
  · intro u hu
    have h9 := hN u hu
    by_cases e : u = a
    · subst e
      simp [up2]
      exact ⟨h9.1, h9.2.1, h9.2.2.1⟩
    · simpa [up2, e] using h9
  · intro u v hu hv
    simpa [up2] using hE u v hu hv
  · simpa [up2, Wsh] using hW
  · simpa [up2, Obj] using hO
  · exact hG
theorem sI_dec {n : Nat} {y : Int32} {k k' a : Nat} (hn : n ≤ 20) (h1 : k = 0 ∧ y = -1 ∨ ∃ b, b < n ∧ y = nI b ∧ b ≠ a ∧ k = b + 1) (h2 : k' = 0 ∧ y = -1 ∨ ∃ b, b < n ∧ y = nI b ∧ b ≠ a ∧ k' = b + 1) : k = k' := by
  rcases h1 with ⟨rfl, e1⟩ | ⟨b, hb, e1, -, rfl⟩ <;> rcases h2 with ⟨rfl, e2⟩ | ⟨b', hb', e2, -, rfl⟩
  · rfl
  · exact absurd (e2.symm.trans e1) (fun z => nI_pos (show b' < 2 ^ 31 by omega) (by rw [z]; decide))
  · exact absurd (e1.symm.trans e2) (fun z => nI_pos (show b < 2 ^ 31 by omega) (by rw [z]; decide))
  · have := nI_ij (by omega) (by omega) (e1.symm.trans e2)
    omega
theorem T_standIn {c r : Nat → Nat → Nat} {i o : Nat} {x y k9 v : Int32} {z9 : (Nat → Nat → Nat) × Nat} {u9 : Nat → Nat → Nat} (hV : Inv c r i) (h1 : PC_standIn c o x y k9 z9) (h2 : PM_standIn r x y v u9) : Out k9 z9 v u9 i := by
  have e0 : r 30 0 = c 20 1 := hV.2.2.1.2.2.2.2.2.1.1
  have e3 : r 30 13 = c 20 3 := hV.2.2.1.2.2.2.2.2.1.2.1
  have hn := IC_n hV.1
  unfold PM_standIn at h2
  rw [e0, e3, ok_iff hV.2.2.1, ok_iff hV.2.2.1] at h2
  have okk : ∀ {k a : Nat}, (k = 0 ∧ y = -1 ∨ ∃ b, b < c 20 1 ∧ y = nI b ∧ b ≠ a ∧ k = b + 1) → (y = -1 ∨ okU c y) := fun h => h.elim (fun z => Or.inl z.2) (fun ⟨b, z1, z2, _⟩ => Or.inr ⟨b, z1, z2⟩)
  have nek : ∀ {k a : Nat}, a < c 20 1 → (k = 0 ∧ y = -1 ∨ ∃ b, b < c 20 1 ∧ y = nI b ∧ b ≠ a ∧ k = b + 1) → nI a ≠ y := fun {k a} ha h e => h.elim (fun z => nI_pos (show a < 2 ^ 31 by omega) (by rw [e, z.2]; decide)) (fun ⟨b, z1, z2, z3, _⟩ => z3 (nI_ij (by omega) (by omega) (z2.symm.trans e.symm)))
  rcases h1 with ⟨rfl, w, ⟨a, k, ha, rfl, hk, hg, rfl, hz⟩, ho⟩ | ⟨rfl, rfl, hp⟩ | ⟨rfl, rfl, hp⟩ | ⟨rfl, rfl, hp⟩
  · rcases h2 with ⟨hc, -⟩ | ⟨-, hc, hd, -⟩ | ⟨-, -, -, hc, -⟩ | ⟨a', k', ha', ex, hk', -, rfl, rfl⟩
    · exact absurd ⟨⟨a, ha, rfl⟩, okk hk⟩ hc
    · exact absurd hd (nek ha hk)
    · exact absurd hg hc
    · have e1 : a = a' := nI_ij (by omega) (by omega) ex
      subst e1
      have e2 := sI_dec hn hk hk'
      subst e2
      refine ⟨by simp [up2], fun _ => by rw [← (hV.2.2.1.2.2.1 a ha).2.2.2]; exact ho, ?_⟩
      rw [hz]
      refine Inv_si hV ha ?_
      rcases hk with ⟨rfl, -⟩ | ⟨b, hb, -, -, rfl⟩ <;> omega
  · have hb := hp.elim (fun z => z.2) (fun z => z.elim (fun z => absurd z.1.symm exAO) (fun z => absurd z.1 exOS))
    rcases h2 with ⟨-, rfl⟩ | ⟨h8, h9, -⟩ | ⟨h8, h9, -⟩ | ⟨a', k', ha', rfl, hk', -⟩
    · exact Out_f hV (by decide) (by decide)
    · exact absurd ⟨h8, Or.inr h9⟩ hb
    · exact absurd ⟨h8, h9⟩ hb
    · exact absurd ⟨⟨_, ha', rfl⟩, okk hk'⟩ hb
  · obtain ⟨-, h8, h9, hb⟩ := hp.elim (fun z => absurd z.1 exAO) (fun z => z.elim id (fun z => absurd z.1 exAS))
    rcases h2 with ⟨hc, -⟩ | ⟨-, -, -, rfl⟩ | ⟨-, -, hc, -⟩ | ⟨a', k', ha', rfl, hk', -⟩
    · exact absurd ⟨h8, Or.inr h9⟩ hc
    · exact Out_f hV (by decide) (by decide)
    · exact absurd hb hc
    · exact absurd hb (nek ha' hk')
  · obtain ⟨-, h8, h9, hb, hg⟩ := hp.elim (fun z => absurd z.1.symm exOS) (fun z => z.elim (fun z => absurd z.1.symm exAS) id)
    rcases h2 with ⟨hc, -⟩ | ⟨-, -, hc, -⟩ | ⟨-, -, -, -, rfl⟩ | ⟨a', k', ha', rfl, hk', hc, -⟩
    · exact absurd ⟨h8, h9⟩ hc
    · exact absurd hc hb
    · exact Out_f hV (by decide) (by decide)
    · exact absurd hc hg
/-- the wish is there in both, or in neither -/
theorem wf_0 {c r : Nat → Nat → Nat} {i a b : Nat} (hV : Inv c r i) (ha : a < 20) (hb : b < 20) (h : wfK c a b = 0) : r 8 (20 * a + b) = 0 := by
  rcases Nat.eq_zero_or_pos (r 8 (20 * a + b)) with e | e
  · exact e
  · obtain ⟨j, h1, h2, h3⟩ := hV.2.2.1.2.2.2.2.1.2.1 a b ha hb e
    exact absurd ⟨h2, h3⟩ (fP_no h j h1)
theorem wf_s {c r : Nat → Nat → Nat} {i a b j : Nat} (hV : Inv c r i) (h : wfK c a b = j + 1) : j < c 30 0 ∧ c 31 j = a ∧ c 32 j = b ∧ r 8 (20 * a + b) = c 33 j ∧ r 9 (20 * a + b) = j ∧ 0 < c 33 j := by
  obtain ⟨h1, h2, h3⟩ := fP_lt h
  obtain ⟨e1, e2⟩ := hV.2.2.1.2.2.2.2.1.1 j h1
  rw [h2, h3] at e1 e2
  have := IC_W hV.1 j h1
  exact ⟨h1, h2, h3, e1, e2, by omega⟩
theorem Inv_wnew {c r ca : Nat → Nat → Nat} {i a b t N : Nat} (hV : Inv c r i) (hi : i < 600) (ha : a < c 20 1) (hb : b < c 20 1) (ht : 1 ≤ t ∧ t ≤ 100) (hg : c 20 3 = 0) (hw0 : wfK c a b = 0)
    (hlo : ∀ k q, k ≤ 29 → ca k q = c k q) (h30 : ∀ q, ca 30 q = if q = 0 then c 30 0 + 1 else c 30 q) (h31 : ∀ q, ca 31 q = if q = c 30 0 then a else c 31 q) (h32 : ∀ q, ca 32 q = if q = c 30 0 then b else c 32 q) (h33 : ∀ q, ca 33 q = if q = c 30 0 then t else c 33 q) (h36 : ca 36 0 = N) (hN1 : c 30 0 < N) (hN2 : N ≤ 2 * (c 30 0 + 1) + 10) :
    Inv (up2 ca 8 a (ca 8 a ||| 2 ^ b)) (up2 (up2 (up2 (up2 r 30 22 0) 8 (20 * a + b) t) 9 (20 * a + b) (r 30 10)) 30 10 (r 30 10 + 1)) (i + 1) := by
  have h80 := wf_0 hV (by have := IC_n hV.1; omega) (by have := IC_n hV.1; omega) hw0
  obtain ⟨hI, hJ, ⟨hF, hS, hN, hE, hW, hO, hG⟩, hw⟩ := hV
  have hn := IC_n hI
  have hB := IC_B hI
  have hWB := IC_W hI
  obtain ⟨w1, w2, w3⟩ := hW
  have e300 : ca 30 0 = c 30 0 + 1 := by rw [h30, if_pos rfl]
  have hIa : IC ca := by
    refine IC_ws hI hlo (fun q => ⟨?_, ?_, ?_, ?_⟩) (fun j hj => ?_) ?_
    · rw [h31]; split; omega; exact hB _ _ (by decide)
    · rw [h32]; split; omega; exact hB _ _ (by decide)
    · rw [h33]; split; omega; exact hB _ _ (by decide)
    · rw [h30]; split; omega; exact hB _ _ (by decide)
    · rw [e300] at hj
      rw [h31, h32, h33, hlo 20 1 (by decide)]
      by_cases e : j = c 30 0
      · rw [if_pos e, if_pos e, if_pos e]; omega
      · rw [if_neg e, if_neg e, if_neg e]; exact hWB j (by omega)
    · rw [e300, h36]; omega
  have e1 : ca 20 1 = c 20 1 := hlo 20 1 (by decide)
  have e8 : ∀ q, ca 8 q = c 8 q := fun q => hlo 8 q (by decide)
  have h11 : r 11 (20 * a + b) = 0 := by
    rcases Nat.eq_zero_or_pos (r 11 (20 * a + b)) with e | e
    · exact e
    · have := (hE a b (by omega) (by omega)).2.2 (Nat.ne_of_gt e); omega
  have hIC : IC (up2 ca 8 a (ca 8 a ||| 2 ^ b)) := IC_67 hIa (Or.inr ⟨Or.inr rfl, Nat.or_lt_two_pow (IC_8 hIa a) (by rw [e1]; exact Nat.pow_lt_pow_right (by decide) hb)⟩)
  refine ⟨hIC, ?_, ⟨?_, ?_, ?_, ?_, ⟨?_, ?_, ?_⟩, ?_, ?_⟩, ?_⟩
  · refine IR_up (IR_up (IR_up (IR_t0 hJ) (rV0 (Or.inr (Or.inr (Or.inr (Or.inr (Or.inr (Or.inr (Or.inr (Or.inl ⟨rfl, ht.2⟩)))))))))) (rV0 (Or.inr (Or.inr (Or.inr (Or.inr (Or.inr (Or.inr (Or.inr (Or.inr (Or.inl ⟨rfl, IR_B hJ _ _ (by decide)⟩))))))))))) (rV0 (Or.inr (Or.inr (Or.inr (Or.inr (Or.inr (Or.inr (Or.inr (Or.inr (Or.inr (Or.inr (Or.inr ⟨rfl, rfl, by omega⟩))))))))))))
  · intro u hu
    have hu2 : c 20 1 ≤ u := by rw [← e1]; exact hu
    have h9 := hF u hu2
    have hne : u ≠ a := by omega
    rw [up2_i hne, up2_i hne, up2_i hne, up2_i hne, up2_i hne, up2_i hne, up2_i hne, hlo 3 u (by decide), hlo 4 u (by decide), hlo 5 u (by decide), hlo 6 u (by decide), hlo 7 u (by decide), hlo 8 u (by decide), hlo 9 u (by decide)]
    exact h9
  · intro u
    have h9 := hS u
    rw [up2_c (show (4 : Nat) ≠ 8 by decide), up2_c (show (5 : Nat) ≠ 8 by decide), up2_c (show (9 : Nat) ≠ 8 by decide), up2_c (show (10 : Nat) ≠ 8 by decide), up2_c (show (11 : Nat) ≠ 8 by decide), up2_c (show (12 : Nat) ≠ 8 by decide), hlo 4 u (by decide), hlo 5 u (by decide), hlo 9 u (by decide), hlo 10 u (by decide), hlo 11 u (by decide), hlo 12 u (by decide)]
    simpa [up2] using h9
  · intro u hu
    have hu2 : u < c 20 1 := by rw [← e1]; exact hu
    have h9 := hN u hu2
    rw [up2_c (show (1 : Nat) ≠ 8 by decide), up2_c (show (2 : Nat) ≠ 8 by decide), up2_c (show (3 : Nat) ≠ 8 by decide), up2_c (show (6 : Nat) ≠ 8 by decide), hlo 1 u (by decide), hlo 2 u (by decide), hlo 3 u (by decide), hlo 6 u (by decide)]
    simpa [up2] using h9
  · intro u v hu hv
    have h9 := hE u v hu hv
    rw [up2_c (show (7 : Nat) ≠ 8 by decide), hlo 7 u (by decide)]
    refine ⟨by simpa [up2] using h9.1, ?_, ?_⟩
    · by_cases e : u = a ∧ v = b
      · obtain ⟨rfl, rfl⟩ := e
        rw [up2_s, Nat.testBit_or, Nat.testBit_two_pow]
        simp [up2]
        exact ⟨by omega, h11⟩
      · have hne : 20 * u + v ≠ 20 * a + b := by omega
        have ex : (up2 ca 8 a (ca 8 a ||| 2 ^ b) 8 u).testBit v = (c 8 u).testBit v := by
          by_cases e2 : u = a
          · subst e2
            have : ¬ b = v := fun z => e ⟨rfl, z.symm⟩
            rw [up2_s, Nat.testBit_or, Nat.testBit_two_pow, e8]
            simp [this]
          · rw [up2_i e2, e8]
        rw [ex]
        simpa [up2, hne] using h9.2.1
    · simp only [up2]
      simp
      intro h
      split
      · omega
      · exact h9.2.2 h
  · intro j hj
    have hj2 : j < c 30 0 + 1 := by
      have : up2 ca 8 a (ca 8 a ||| 2 ^ b) 30 0 = ca 30 0 := up2_c (by decide)
      omega
    rw [up2_c (show (31 : Nat) ≠ 8 by decide), up2_c (show (32 : Nat) ≠ 8 by decide), up2_c (show (33 : Nat) ≠ 8 by decide), h31, h32, h33]
    by_cases e : j = c 30 0
    · rw [if_pos e, if_pos e, if_pos e]
      simp [up2]
      omega
    · rw [if_neg e, if_neg e, if_neg e]
      have h9 := w1 j (by omega)
      have hne : 20 * c 31 j + c 32 j ≠ 20 * a + b := fun z => by
        have := hWB j (by omega)
        rw [z] at h9
        omega
      simpa [up2, hne] using h9
  · intro u v hu hv h
    by_cases e : u = a ∧ v = b
    · refine ⟨c 30 0, ?_, ?_, ?_⟩
      · have : up2 ca 8 a (ca 8 a ||| 2 ^ b) 30 0 = ca 30 0 := up2_c (by decide)
        omega
      · rw [up2_c (show (31 : Nat) ≠ 8 by decide), h31, if_pos rfl]; exact e.1.symm
      · rw [up2_c (show (32 : Nat) ≠ 8 by decide), h32, if_pos rfl]; exact e.2.symm
    · have hne : 20 * u + v ≠ 20 * a + b := by omega
      have h2 : 0 < r 8 (20 * u + v) := by simpa [up2, hne] using h
      obtain ⟨j, z1, z2, z3⟩ := w2 u v hu hv h2
      refine ⟨j, ?_, ?_, ?_⟩
      · have : up2 ca 8 a (ca 8 a ||| 2 ^ b) 30 0 = ca 30 0 := up2_c (by decide)
        omega
      · rw [up2_c (show (31 : Nat) ≠ 8 by decide), h31, if_neg (by omega)]; exact z2
      · rw [up2_c (show (32 : Nat) ≠ 8 by decide), h32, if_neg (by omega)]; exact z3
  · rw [up2_s, up2_c (show (30 : Nat) ≠ 8 by decide), e300]
    omega
  · obtain ⟨o1, o2, o3, o4, o5, o6⟩ := hO
    refine ⟨?_, ?_, ?_, ?_, ?_, ?_⟩ <;> simp [up2] <;> (try simp only [hlo 20 1 (by decide), hlo 20 3 (by decide), hlo 20 4 (by decide), hlo 20 5 (by decide), hlo 20 6 (by decide)]) <;> assumption
  · refine ⟨by rw [up2_c (show (20 : Nat) ≠ 8 by decide), hlo 20 6 (by decide)]; exact hG.1, fun z => absurd ?_ z⟩
    rw [up2_c (show (20 : Nat) ≠ 8 by decide), hlo 20 3 (by decide)]
    exact hg
  · rw [up2_c (show (30 : Nat) ≠ 8 by decide), e300]
    omega
theorem Inv_wupd {c r : Nat → Nat → Nat} {i a b t j : Nat} (hV : Inv c r i) (ha : a < 20) (hb : b < 20) (ht : 1 ≤ t ∧ t ≤ 100) (hw0 : wfK c a b = j + 1) :
    Inv (up2 c 33 j t) (up2 (up2 (up2 (up2 r 30 22 0) 8 (20 * a + b) t) 9 (20 * a + b) (r 9 (20 * a + b))) 30 10 (r 30 10 + 0)) (i + 1) := by
  obtain ⟨j1, j2, j3, j4, j5, j6⟩ := wf_s hV hw0
  obtain ⟨hI, hJ, ⟨hF, hS, hN, hE, hW, hO, hG⟩, hw⟩ := hV
  have hB := IC_B hI
  have hWB := IC_W hI
  have hL := IC_L hI
  obtain ⟨w1, w2, w3⟩ := hW
  refine ⟨?_, ?_, ⟨hF, ?_, ?_, ?_, ⟨?_, ?_, ?_⟩, ?_, hG⟩, Nat.le_succ_of_le hw⟩
  · refine IC_ws hI (fun k q hk => up2_c (by omega)) (fun q => ⟨hB _ _ (by decide), hB _ _ (by decide), ?_, hB _ _ (by decide)⟩) (fun q hq => ?_) hL
    · unfold up2
      split
      · omega
      · exact hB _ _ (by decide)
    · have h9 := hWB q hq
      by_cases e : q = j
      · subst e
        rw [up2_s, up2_c (show (31 : Nat) ≠ 33 by decide), up2_c (show (32 : Nat) ≠ 33 by decide), up2_c (show (20 : Nat) ≠ 33 by decide)]
        omega
      · rw [up2_c (show (31 : Nat) ≠ 33 by decide), up2_c (show (32 : Nat) ≠ 33 by decide), up2_c (show (20 : Nat) ≠ 33 by decide), up2_i e]
        exact h9
  · refine IR_up (IR_up (IR_up (IR_t0 hJ) (rV0 (Or.inr (Or.inr (Or.inr (Or.inr (Or.inr (Or.inr (Or.inr (Or.inl ⟨rfl, ht.2⟩)))))))))) (rV0 (Or.inr (Or.inr (Or.inr (Or.inr (Or.inr (Or.inr (Or.inr (Or.inr (Or.inl ⟨rfl, IR_B hJ _ _ (by decide)⟩))))))))))) (rV0 (Or.inr (Or.inr (Or.inr (Or.inr (Or.inr (Or.inr (Or.inr (Or.inr (Or.inr (Or.inr (Or.inr ⟨rfl, rfl, ?_⟩))))))))))))
    have h9 := IR_O hJ
    unfold RO at h9
    omega
  · intro u
    simpa [up2] using hS u
  · intro u hu
    simpa [up2] using hN u hu
  · intro u v hu hv
    have h9 := hE u v hu hv
    rw [up2_c (show (7 : Nat) ≠ 33 by decide), up2_c (show (8 : Nat) ≠ 33 by decide)]
    by_cases e : 20 * u + v = 20 * a + b
    · rw [e] at h9 ⊢
      refine ⟨by simpa [up2] using h9.1, ?_, ?_⟩
      · simp [up2]
        rw [h9.2.1]
        constructor
        · intro z; exact ⟨by omega, z.2⟩
        · intro z; exact ⟨by omega, z.2⟩
      · simp [up2]
        intro _
        omega
    · simpa [up2, e] using h9
  · intro q hq
    have h9 := w1 q hq
    rw [up2_c (show (31 : Nat) ≠ 33 by decide), up2_c (show (32 : Nat) ≠ 33 by decide)]
    by_cases e : q = j
    · subst e
      rw [j2, j3]
      simp [up2]
      exact j5
    · have hne : 20 * c 31 q + c 32 q ≠ 20 * a + b := fun z => by
        rw [z] at h9
        omega
      rw [up2_i e]
      simpa [up2, hne] using h9
  · intro u v hu hv h
    rw [up2_c (show (30 : Nat) ≠ 33 by decide)]
    by_cases e : 20 * u + v = 20 * a + b
    · exact ⟨j, j1, by rw [up2_c (show (31 : Nat) ≠ 33 by decide)]; omega, by rw [up2_c (show (32 : Nat) ≠ 33 by decide)]; omega⟩
    · have h2 : 0 < r 8 (20 * u + v) := by simpa [up2, e] using h
      obtain ⟨j', z1, z2, z3⟩ := w2 u v hu hv h2
      exact ⟨j', z1, by rw [up2_c (show (31 : Nat) ≠ 33 by decide)]; exact z2, by rw [up2_c (show (32 : Nat) ≠ 33 by decide)]; exact z3⟩
  · rw [up2_s, up2_c (show (30 : Nat) ≠ 33 by decide)]
    exact w3
  · simpa [up2, Obj] using hO
theorem T_wish {c r : Nat → Nat → Nat} {i o : Nat} {x y z k9 v : Int32} {z9 : (Nat → Nat → Nat) × Nat} {u9 : Nat → Nat → Nat} (hV : Inv c r i) (hi : i < 600) (h1 : PC_wish c o x y z k9 z9) (h2 : PM_wish r x y z v u9) : Out k9 z9 v u9 i := by
  have e0 : r 30 0 = c 20 1 := hV.2.2.1.2.2.2.2.2.1.1
  have e3 : r 30 13 = c 20 3 := hV.2.2.1.2.2.2.2.2.1.2.1
  have hn := IC_n hV.1
  unfold PM_wish at h2
  rw [e0, e3, ok_iff hV.2.2.1, ok_iff hV.2.2.1] at h2
  have neq : ∀ {a b : Nat}, a < c 20 1 → b < c 20 1 → a ≠ b → nI a ≠ nI b := fun ha hb h e => h (nI_ij (by omega) (by omega) e)
  rcases h1 with ⟨rfl, w, ⟨a, b, t, ha, hb, rfl, rfl, hab, ht, rfl, hg, hz⟩, ho⟩ | ⟨rfl, rfl, hp⟩ | ⟨rfl, rfl, hp⟩ | ⟨rfl, rfl, hp⟩
  · rcases h2 with ⟨hc, -⟩ | ⟨-, -, hc, -⟩ | ⟨-, -, -, hc, -⟩ | ⟨a', b', t', ha', hb', ex, ey, -, ht', ez, -, rfl, h2⟩
    · exact absurd ⟨⟨a, ha, rfl⟩, ⟨b, hb, rfl⟩⟩ hc
    · exact absurd ⟨inR_of ht.1 ht.2 (by decide), neq ha hb hab⟩ hc
    · exact absurd hg hc
    · have e1 : a = a' := nI_ij (by omega) (by omega) ex
      have e2 : b = b' := nI_ij (by omega) (by omega) ey
      have e4 : t = t' := nI_ij (by omega) (by omega) ez
      subst e1 e2 e4
      rcases hz with ⟨hw0, rfl, q, p, N, ca, hca, hN1, hN2, hz⟩ | ⟨j, hw0, rfl, hz⟩
      · have h80 := wf_0 hV (by omega) (by omega) hw0
        rcases h2 with ⟨-, rfl⟩ | ⟨h8, -⟩
        · refine ⟨by simp [up2], fun _ => by rw [← ho, h80], ?_⟩
          rw [hz]
          have hp0 : ∀ k q', ca k q' = c_app (up2 (up2 (up2 (up2 (up2 (up2 (c_raw c q) 38 2 (a + 1)) 38 3 (b + 1)) 38 4 t) 37 0 (c 37 0 + 1)) 35 0 p) 36 0 N) a b t k q' := fun k q' => by rw [hca]
          refine Inv_wnew (N := N) hV hi ha hb ht hg hw0 ?_ ?_ ?_ ?_ ?_ ?_ hN1 hN2
          · intro k q' hk
            rw [hp0]
            unfold c_app c_raw
            rw [up2_c (show k ≠ 38 by omega), up2_c (show k ≠ 30 by omega), up2_c (show k ≠ 34 by omega), up2_c (show k ≠ 33 by omega), up2_c (show k ≠ 32 by omega), up2_c (show k ≠ 31 by omega), up2_c (show k ≠ 36 by omega), up2_c (show k ≠ 35 by omega), up2_c (show k ≠ 37 by omega), up2_c (show k ≠ 38 by omega), up2_c (show k ≠ 38 by omega), up2_c (show k ≠ 38 by omega), up2_c (show k ≠ 38 by omega), up2_c (show k ≠ 38 by omega), up2_c (show k ≠ 38 by omega), up2_c (show k ≠ 38 by omega), up2_c (show k ≠ 38 by omega)]
          · intro q'; rw [hp0]; unfold c_app c_raw; simp [up2]
          · intro q'; rw [hp0]; unfold c_app c_raw; simp [up2]
          · intro q'; rw [hp0]; unfold c_app c_raw; simp [up2]
          · intro q'; rw [hp0]; unfold c_app c_raw; simp [up2]
          · rw [hp0]; unfold c_app c_raw; simp [up2]
        · omega
      · obtain ⟨j1, j2, j3, j4, j5, j6⟩ := wf_s hV hw0
        rcases h2 with ⟨h8, -⟩ | ⟨-, rfl⟩
        · omega
        · refine ⟨by simp [up2], fun _ => by rw [← ho, j4], ?_⟩
          rw [hz]
          exact Inv_wupd hV (by omega) (by omega) ht hw0
  · have hb := hp.elim (fun z => z.2) (fun z => z.elim (fun z => absurd z.1.symm exAO) (fun z => absurd z.1 exOS))
    rcases h2 with ⟨-, rfl⟩ | ⟨h8, h9, -⟩ | ⟨h8, h9, -⟩ | ⟨a', b', t', ha', hb', rfl, rfl, -⟩
    · exact Out_f hV (by decide) (by decide)
    · exact absurd ⟨h8, h9⟩ hb
    · exact absurd ⟨h8, h9⟩ hb
    · exact absurd ⟨⟨_, ha', rfl⟩, ⟨_, hb', rfl⟩⟩ hb
  · obtain ⟨-, h8, h9, hb⟩ := hp.elim (fun z => absurd z.1 exAO) (fun z => z.elim id (fun z => absurd z.1 exAS))
    rcases h2 with ⟨hc, -⟩ | ⟨-, -, -, rfl⟩ | ⟨-, -, hc, -⟩ | ⟨a', b', t', ha', hb', rfl, rfl, hab, ht', rfl, -⟩
    · exact absurd ⟨h8, h9⟩ hc
    · exact Out_f hV (by decide) (by decide)
    · exact absurd hc hb
    · exact absurd ⟨inR_of ht'.1 ht'.2 (by decide), neq ha' hb' hab⟩ hb
  · obtain ⟨-, h8, h9, hb, hg⟩ := hp.elim (fun z => absurd z.1.symm exOS) (fun z => z.elim (fun z => absurd z.1.symm exAS) id)
    rcases h2 with ⟨hc, -⟩ | ⟨-, -, hc, -⟩ | ⟨-, -, -, -, rfl⟩ | ⟨a', b', t', ha', hb', rfl, rfl, hab, ht', rfl, hc, -⟩
    · exact absurd ⟨h8, h9⟩ hc
    · exact absurd hb hc
    · exact Out_f hV (by decide) (by decide)
    · exact absurd hc hg
