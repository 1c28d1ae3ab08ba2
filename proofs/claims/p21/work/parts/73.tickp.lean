/-! A TICK, unit by unit -/
theorem endI_at (c : Nat → Nat → Nat) (a u : Nat) : ∀ k, u < k → c_endI c k a u = c_end1 (c_endI c u) u a u
  | 0, h => absurd h (Nat.not_lt_zero _)
  | k + 1, h => by
    rcases Nat.lt_or_ge u k with e | e
    · exact (Off_end1 _ k a u (fun z => by omega)).trans (endI_at c a u k e)
    · have e2 : u = k := by omega
      subst e2
      rfl
theorem failI_at (c : Nat → Nat → Nat) (a u : Nat) : ∀ k, u < k → c_failI c k a u = c_fail1 (c_failI c u) u a u
  | 0, h => absurd h (Nat.not_lt_zero _)
  | k + 1, h => by
    rcases Nat.lt_or_ge u k with e | e
    · exact (Off_fail1 _ k a u (fun z => by omega)).trans (failI_at c a u k e)
    · have e2 : u = k := by omega
      subst e2
      rfl
theorem stI_at (met dn : Nat) (c : Nat → Nat → Nat) (a u : Nat) : ∀ k, u < k → c_stI met dn c k a u = c_st1 met dn (c_stI met dn c u) u a u
  | 0, h => absurd h (Nat.not_lt_zero _)
  | k + 1, h => by
    rcases Nat.lt_or_ge u k with e | e
    · exact (Off_st1 met dn _ k a u (fun z => by omega)).trans (stI_at met dn c a u k e)
    · have e2 : u = k := by omega
      subst e2
      rfl
theorem e1_0 {c : Nat → Nat → Nat} {u : Nat} (h : c 9 u ≠ 1) : c_end1 c u = c := by unfold c_end1; rw [if_neg h]
theorem e1_1 {c : Nat → Nat → Nat} {u : Nat} (h : c 9 u = 1) (h2 : c 10 u + 1 < c 1 u) : c_end1 c u = up2 c 10 u (c 10 u + 1) := by unfold c_end1; rw [if_pos h, if_pos h2]
theorem e1_2 {c : Nat → Nat → Nat} {u : Nat} (h : c 9 u = 1) (h2 : ¬ c 10 u + 1 < c 1 u) (h4 : c 4 u = 0) : c_end1 c u = up2 (up2 (up2 c 10 u (c 10 u + 1)) 9 u 2) 3 u (max 1 ((c 3 u + c 1 u) / 2)) := by
  unfold c_end1 c_come
  rw [if_pos h, if_neg h2, if_pos (by rw [up2_c (by decide)]; exact h4), up2_c (by decide), up2_c (by decide)]
theorem e1_3 {c : Nat → Nat → Nat} {u : Nat} (h : c 9 u = 1) (h2 : ¬ c 10 u + 1 < c 1 u) (h4 : ¬ c 4 u = 0) (h5 : c 11 u < c 2 u) : c_end1 c u = up2 (up2 (up2 (up2 c 10 u (c 10 u + 1)) 4 u (c 4 u - 1)) 11 u (c 11 u + 1)) 9 u 0 := by
  unfold c_end1 c_come
  rw [if_pos h, if_neg h2, if_neg (by rw [up2_c (by decide)]; exact h4), if_pos (by rw [up2_c (by decide), up2_c (by decide)]; exact h5), up2_c (show (4 : Nat) ≠ 10 by decide), up2_c (show (11 : Nat) ≠ 10 by decide)]
theorem e1_4 {c : Nat → Nat → Nat} {u : Nat} (h : c 9 u = 1) (h2 : ¬ c 10 u + 1 < c 1 u) (h4 : ¬ c 4 u = 0) (h5 : ¬ c 11 u < c 2 u) : c_end1 c u = up2 (up2 (up2 c 10 u (c 10 u + 1)) 4 u (c 4 u - 1)) 9 u 3 := by
  unfold c_end1 c_come
  rw [if_pos h, if_neg h2, if_neg (by rw [up2_c (by decide)]; exact h4), if_neg (by rw [up2_c (by decide), up2_c (by decide)]; exact h5), up2_c (show (4 : Nat) ≠ 10 by decide)]
def En (c : Nat → Nat → Nat) (u : Nat) : Prop := c 9 u = 1 ∧ c 1 u ≤ c 10 u + 1
/-- a unit where the starts are ended -/
def TE (c x : Nat → Nat → Nat) (u : Nat) : Prop :=
  (c 9 u ≠ 1 → x 9 u = c 9 u ∧ x 10 u = c 10 u ∧ x 3 u = c 3 u ∧ x 4 u = c 4 u ∧ x 11 u = c 11 u) ∧
  (c 9 u = 1 → c 10 u + 1 < c 1 u → x 9 u = 1 ∧ x 10 u = c 10 u + 1 ∧ x 3 u = c 3 u ∧ x 4 u = c 4 u ∧ x 11 u = c 11 u) ∧
  (c 9 u = 1 → ¬ c 10 u + 1 < c 1 u → c 4 u = 0 → x 9 u = 2 ∧ x 3 u = max 1 ((c 3 u + c 1 u) / 2) ∧ x 4 u = c 4 u ∧ x 11 u = c 11 u) ∧
  (c 9 u = 1 → ¬ c 10 u + 1 < c 1 u → ¬ c 4 u = 0 → c 11 u < c 2 u → x 9 u = 0 ∧ x 3 u = c 3 u ∧ x 4 u = c 4 u - 1 ∧ x 11 u = c 11 u + 1) ∧
  (c 9 u = 1 → ¬ c 10 u + 1 < c 1 u → ¬ c 4 u = 0 → ¬ c 11 u < c 2 u → x 9 u = 3 ∧ x 3 u = c 3 u ∧ x 4 u = c 4 u - 1 ∧ x 11 u = c 11 u)
theorem end1_TE (c : Nat → Nat → Nat) (u : Nat) : TE c (c_end1 c u) u := by
  refine ⟨fun h => by rw [e1_0 h]; simp, fun h h2 => by rw [e1_1 h h2]; simp [up2, h], fun h h2 h4 => by rw [e1_2 h h2 h4]; simp [up2], fun h h2 h4 h5 => by rw [e1_3 h h2 h4 h5]; simp [up2], fun h h2 h4 h5 => by rw [e1_4 h h2 h4 h5]; simp [up2]⟩
theorem endI_TE {c : Nat → Nat → Nat} {n u : Nat} (hu : u < n) : TE c (c_endI c n) u := by
  have h := end1_TE (c_endI c u) u
  have e : ∀ a, c_endI c u a u = c a u := fun a => endI_hi c a u u (Nat.le_refl _)
  have e2 : ∀ a, c_endI c n a u = c_end1 (c_endI c u) u a u := fun a => endI_at c a u n hu
  unfold TE at *
  simp only [e] at h
  simp only [e2]
  exact h
/-- some need of u is lost -/
def LSP (c : Nat → Nat → Nat) (u v : Nat) : Prop := (c 7 u).testBit v = true ∧ lostP (c 9) (c 6) v
theorem failI_9 (c : Nat → Nat → Nat) (a i : Nat) (ha : a ≠ 9) : ∀ k, c_failI c k a i = c a i
  | 0 => rfl
  | k + 1 => by
    show c_fail1 (c_failI c k) k a i = _
    unfold c_fail1
    split
    · rw [up2_c ha]; exact failI_9 c a i ha k
    · exact failI_9 c a i ha k
theorem failI_up {c : Nat → Nat → Nat} {w : Nat} : ∀ k, c_failI c k 9 w = c 9 w ∨ (c 9 w = 0 ∧ c_failI c k 9 w = 3)
  | 0 => Or.inl rfl
  | k + 1 => by
    have ih := failI_up (c := c) (w := w) k
    show c_fail1 (c_failI c k) k 9 w = _ ∨ (_ ∧ c_fail1 (c_failI c k) k 9 w = 3)
    unfold c_fail1
    split
    · rename_i h
      by_cases e : w = k
      · subst e
        rw [up2_s]
        have h0 := h.1
        omega
      · rw [up2_i e]; exact ih
    · exact ih
theorem failI_upk {c : Nat → Nat → Nat} {w k : Nat} : ∀ m, c_failI c (k + m) 9 w = c_failI c k 9 w ∨ (c_failI c k 9 w = 0 ∧ c_failI c (k + m) 9 w = 3)
  | 0 => Or.inl rfl
  | m + 1 => by
    have ih := failI_upk (c := c) (w := w) (k := k) m
    show c_fail1 (c_failI c (k + m)) (k + m) 9 w = _ ∨ (_ ∧ c_fail1 (c_failI c (k + m)) (k + m) 9 w = 3)
    unfold c_fail1
    split
    · rename_i h
      by_cases e : w = k + m
      · subst e
        rw [up2_s]
        have h0 := h.1
        omega
      · rw [up2_i e]; exact ih
    · exact ih
theorem lost_up {st st' sb : Nat → Nat} (h : ∀ w, st' w = st w ∨ st w = 0 ∨ st w = 1) {v : Nat} (hl : lostP st sb v) : lostP st' sb v := by
  unfold lostP goneP at *
  have h1 := h v
  have h2 := h (sb v - 1)
  omega
theorem and_ex {a : Nat} {P : Nat → Prop} {n : Nat} (h : a &&& mk P n ≠ 0) : ∃ v, v < n ∧ a.testBit v = true ∧ P v := by
  apply Classical.byContradiction
  intro hn
  refine h (and_0.mpr (fun i h1 h2 => hn ?_))
  exact ⟨i, (mk_bit.mp h2).1, h1, (mk_bit.mp h2).2⟩
theorem an_ex {a : Nat} {P : Nat → Prop} {n : Nat} (h : anN a (mk P n) ≠ 0) (ha : a < 2 ^ n) : ∃ v, v < n ∧ a.testBit v = true ∧ ¬ P v := by
  apply Classical.byContradiction
  intro hn
  refine h (anN_0.mpr (fun i h1 => mk_bit.mpr ⟨bit_lt ha h1, Classical.byContradiction (fun z => hn ⟨i, bit_lt ha h1, h1, z⟩)⟩))
/-- where units without their needs fail -/
theorem failI_F {c : Nat → Nat → Nat} {u : Nat} (hu : u < c 20 1) : c_failI c (c 20 1) 9 u = c 9 u ∨ (c 9 u = 0 ∧ c_failI c (c 20 1) 9 u = 3 ∧ ∃ v, v < c 20 1 ∧ LSP (c_failI c (c 20 1)) u v) := by
  have e := failI_at c 9 u (c 20 1) hu
  have e9 : c_failI c u 9 u = c 9 u := failI_hi c 9 u u (Nat.le_refl _)
  have e7 : c_failI c u 7 u = c 7 u := failI_9 c 7 u (by decide) u
  have e20 : c_failI c u 20 1 = c 20 1 := failI_9 c 20 1 (by decide) u
  rw [e]
  unfold c_fail1
  split
  · rename_i h
    rw [up2_s]
    refine Or.inr ⟨by rw [← e9]; exact h.1, rfl, ?_⟩
    obtain ⟨v, h1, h2, h3⟩ := and_ex h.2
    rw [e20] at h1
    refine ⟨v, h1, by rw [failI_9 c 7 u (by decide), ← e7]; exact h2, ?_⟩
    have h6 : c_failI c u 6 = c_failI c (c 20 1) 6 := funext fun w => (failI_9 c 6 w (by decide) u).trans (failI_9 c 6 w (by decide) _).symm
    rw [h6] at h3
    refine lost_up (fun w => ?_) h3
    have := failI_upk (c := c) (w := w) (k := u) (c 20 1 - u)
    rw [show u + (c 20 1 - u) = c 20 1 by omega] at this
    omega
  · exact Or.inl e9
/-- where starts begin -/
theorem stI_S {met dn : Nat} {c : Nat → Nat → Nat} {n u : Nat} (hu : u < n) : (c 9 u = 0 ∧ c_stI met dn c n 9 u = 1 ∧ c_stI met dn c n 10 u = 0 ∧ ∀ a, a ≠ 9 → a ≠ 10 → c_stI met dn c n a u = c a u) ∨ ((∀ a, c_stI met dn c n a u = c a u) ∧ ¬ (c_cnt (c_stI met dn c u) < c 20 4 ∧ c 9 u = 0 ∧ anN (c 7 u) met = 0 ∧ anN (c 8 u) dn = 0)) := by
  have e2 : ∀ a, c_stI met dn c n a u = c_st1 met dn (c_stI met dn c u) u a u := fun a => stI_at met dn c a u n hu
  have e : ∀ a, c_stI met dn c u a u = c a u := fun a => stI_hi met dn c a u u (Nat.le_refl _)
  have e4 : c_stI met dn c u 20 4 = c 20 4 := stI_n met dn c 20 4 (by omega) u
  rcases Classical.em (c_cnt (c_stI met dn c u) < c_stI met dn c u 20 4 ∧ c_stI met dn c u 9 u = 0 ∧ anN (c_stI met dn c u 7 u) met = 0 ∧ anN (c_stI met dn c u 8 u) dn = 0) with z | z
  · have e3 : c_st1 met dn (c_stI met dn c u) u = up2 (up2 (c_stI met dn c u) 9 u 1) 10 u 0 := by unfold c_st1; rw [if_pos z]
    refine Or.inl ⟨by rw [← e 9]; exact z.2.1, by rw [e2, e3, up2_c (by decide), up2_s], by rw [e2, e3, up2_s], fun a h9 h10 => ?_⟩
    rw [e2, e3, up2_c h10, up2_c h9, e]
  · have e3 : c_st1 met dn (c_stI met dn c u) u = c_stI met dn c u := by unfold c_st1; rw [if_neg z]
    refine Or.inr ⟨fun a => by rw [e2, e3, e], ?_⟩
    rw [e 9, e 7, e 8, e4] at z
    exact z
theorem cnt_mono {met dn : Nat} {c : Nat → Nat → Nat} : ∀ m k, k + m ≤ c 20 1 → c_cnt (c_stI met dn c k) ≤ c_cnt (c_stI met dn c (k + m)) ∧ (c_cnt (c_stI met dn c k) ≤ c 20 4 → c_cnt (c_stI met dn c (k + m)) ≤ c 20 4)
  | 0, k, _ => ⟨Nat.le_refl _, id⟩
  | m + 1, k, h => by
    obtain ⟨ih1, ih2⟩ := cnt_mono (met := met) (dn := dn) (c := c) m k (by omega)
    have e1 : c_stI met dn c (k + m) 20 1 = c 20 1 := stI_n met dn c 20 1 (by omega) _
    have e4 : c_stI met dn c (k + m) 20 4 = c 20 4 := stI_n met dn c 20 4 (by omega) _
    show _ ≤ c_cnt (c_st1 met dn (c_stI met dn c (k + m)) (k + m)) ∧ (_ → c_cnt (c_st1 met dn (c_stI met dn c (k + m)) (k + m)) ≤ _)
    unfold c_st1
    split
    · rename_i z
      have := cnt_up (c := c_stI met dn c (k + m)) (u := k + m) (by omega) z.2.1
      rw [this]
      have z1 := z.1
      exact ⟨by omega, fun _ => by omega⟩
    · exact ⟨ih1, ih2⟩
/-- the state behind a tick, but for the BootStage's own fields -/
noncomputable def tkE (c : Nat → Nat → Nat) : Nat → Nat → Nat := c_endI c (c 20 1)
noncomputable def tkF (c : Nat → Nat → Nat) : Nat → Nat → Nat := c_failI (tkE c) (tkE c 20 1)
noncomputable def tkS (c : Nat → Nat → Nat) : Nat → Nat → Nat := c_start (tkF c)
theorem tkE_n (c : Nat → Nat → Nat) (a i : Nat) (ha : a = 1 ∨ a = 2 ∨ a = 5 ∨ a = 6 ∨ a = 7 ∨ a = 8 ∨ 12 ≤ a) : tkE c a i = c a i := (Kp_endI c _).1 a i ha
theorem tkF_n (c : Nat → Nat → Nat) (a i : Nat) (ha : a = 1 ∨ a = 2 ∨ a = 5 ∨ a = 6 ∨ a = 7 ∨ a = 8 ∨ 12 ≤ a) : tkF c a i = c a i := ((Kp_failI _ _).1 a i ha).trans (tkE_n c a i ha)
theorem tkS_n (c : Nat → Nat → Nat) (a i : Nat) (ha : a = 1 ∨ a = 2 ∨ a = 5 ∨ a = 6 ∨ a = 7 ∨ a = 8 ∨ 12 ≤ a) : tkS c a i = c a i := ((Kp_stI _ _ _ _).1 a i ha).trans (tkF_n c a i ha)
theorem tk1_eq (c : Nat → Nat → Nat) : c_tick1 c = c_bar (up2 (tkS c) 20 3 (bN (0 < c_cnt (tkS c)))) := rfl
theorem tk1_a (c : Nat → Nat → Nat) {a i : Nat} (ha : a ≠ 20) : c_tick1 c a i = tkS c a i := by
  rw [tk1_eq]
  unfold c_bar
  rw [up2_c ha, up2_c ha]
theorem tk1_20 (c : Nat → Nat → Nat) {i : Nat} (h3 : i ≠ 3) (h6 : i ≠ 6) : c_tick1 c 20 i = c 20 i := by
  rw [tk1_eq]
  unfold c_bar
  rw [up2_i h6, up2_i h3]
  exact tkS_n c 20 i (by omega)
theorem tk1_cnt (c : Nat → Nat → Nat) : c_cnt (c_tick1 c) = c_cnt (tkS c) := by
  unfold c_cnt
  rw [tk1_20 c (by decide) (by decide), tkS_n c 20 1 (by omega)]
  exact ct_cg (fun i _ => by rw [tk1_a c (by decide)])
theorem tk1_3 (c : Nat → Nat → Nat) : c_tick1 c 20 3 = bN (0 < c_cnt (c_tick1 c)) := by
  rw [tk1_cnt, tk1_eq]
  unfold c_bar
  rw [up2_i (by decide), up2_s]
theorem tk1_6 (c : Nat → Nat → Nat) : c_tick1 c 20 6 = max (c 20 6) (if c_tick1 c 20 3 ≠ 0 ∧ 0 < c 20 5 then 1000 * sm (c_part (c_tick1 c)) (c 20 1) / c 20 5 else 1000) := by
  have h3 := tk1_3 c
  rw [tk1_cnt] at h3
  have hp : sm (c_part (c_tick1 c)) (c 20 1) = sm (c_part (up2 (tkS c) 20 3 (bN (0 < c_cnt (tkS c))))) (c 20 1) := sm_cg (fun i _ => by
    unfold c_part
    rw [tk1_a c (show (9 : Nat) ≠ 20 by decide), tk1_a c (show (10 : Nat) ≠ 20 by decide), tk1_a c (show (12 : Nat) ≠ 20 by decide), up2_c (show (9 : Nat) ≠ 20 by decide), up2_c (show (10 : Nat) ≠ 20 by decide), up2_c (show (12 : Nat) ≠ 20 by decide)])
  rw [h3, hp, tk1_eq]
  unfold c_bar
  rw [up2_s, up2_s, up2_i (show (5 : Nat) ≠ 3 by decide), up2_i (show (6 : Nat) ≠ 3 by decide), up2_i (show (1 : Nat) ≠ 3 by decide), tkS_n c 20 5 (by omega), tkS_n c 20 6 (by omega), tkS_n c 20 1 (by omega)]
/-- what a tick does to a unit -/
def TS (c x : Nat → Nat → Nat) (u : Nat) : Prop :=
  ((c 9 u = 1 ∧ c 1 u ≤ c 10 u + 1) ∧ 0 < c 4 u → x 4 u + 1 = c 4 u) ∧ (¬ ((c 9 u = 1 ∧ c 1 u ≤ c 10 u + 1) ∧ 0 < c 4 u) → x 4 u = c 4 u) ∧
  ((c 9 u = 1 ∧ c 1 u ≤ c 10 u + 1) ∧ c 4 u = 0 → x 3 u = max 1 ((c 3 u + c 1 u) / 2)) ∧ (¬ ((c 9 u = 1 ∧ c 1 u ≤ c 10 u + 1) ∧ c 4 u = 0) → x 3 u = c 3 u) ∧
  (((c 9 u = 1 ∧ c 1 u ≤ c 10 u + 1) ∧ 0 < c 4 u) ∧ c 11 u < c 2 u → x 11 u = c 11 u + 1) ∧ (¬ (((c 9 u = 1 ∧ c 1 u ≤ c 10 u + 1) ∧ 0 < c 4 u) ∧ c 11 u < c 2 u) → x 11 u = c 11 u) ∧
  (c 9 u = 1 ∧ ¬ c 1 u ≤ c 10 u + 1 → x 9 u = 1 ∧ x 10 u = c 10 u + 1) ∧
  ((c 9 u = 1 ∧ c 1 u ≤ c 10 u + 1) ∧ c 4 u = 0 → x 9 u = 2) ∧
  (((c 9 u = 1 ∧ c 1 u ≤ c 10 u + 1) ∧ 0 < c 4 u) ∧ ¬ c 11 u < c 2 u → x 9 u = 3) ∧
  (((c 9 u = 1 ∧ c 1 u ≤ c 10 u + 1) ∧ 0 < c 4 u) ∧ c 11 u < c 2 u → x 9 u = 0 ∨ x 9 u = 3 ∨ (x 9 u = 1 ∧ x 10 u = 0)) ∧
  (2 ≤ c 9 u → x 9 u = c 9 u) ∧ (c 9 u = 0 → x 9 u = 0 ∨ x 9 u = 3 ∨ (x 9 u = 1 ∧ x 10 u = 0))
set_option maxHeartbeats 8000000 in
theorem tick_TS {c : Nat → Nat → Nat} {u : Nat} (hu : u < c 20 1) : TS c (c_tick1 c) u ∧ (c 9 u = 0 → c_tick1 c 9 u = 3 → ∃ v, v < c 20 1 ∧ LSP (c_tick1 c) u v) := by
  have hE : TE c (tkE c) u := endI_TE hu
  have eE : tkE c 20 1 = c 20 1 := tkE_n c 20 1 (by omega)
  have eF : tkF c 20 1 = c 20 1 := tkF_n c 20 1 (by omega)
  have hF := failI_F (c := tkE c) (u := u) (by omega)
  have hF : tkF c 9 u = tkE c 9 u ∨ (tkE c 9 u = 0 ∧ tkF c 9 u = 3 ∧ ∃ v, v < tkE c 20 1 ∧ LSP (tkF c) u v) := hF
  have f3 : tkF c 3 u = tkE c 3 u := failI_9 _ 3 u (by decide) _
  have f4 : tkF c 4 u = tkE c 4 u := failI_9 _ 4 u (by decide) _
  have f10 : tkF c 10 u = tkE c 10 u := failI_9 _ 10 u (by decide) _
  have f11 : tkF c 11 u = tkE c 11 u := failI_9 _ 11 u (by decide) _
  have hS := stI_S (met := mk (metP (tkF c 9) (tkF c 6)) (tkF c 20 1)) (dn := mk (doneP (tkF c 9)) (tkF c 20 1)) (c := tkF c) (n := tkF c 20 1) (u := u) (by omega)
  have hS : (tkF c 9 u = 0 ∧ tkS c 9 u = 1 ∧ tkS c 10 u = 0 ∧ ∀ a, a ≠ 9 → a ≠ 10 → tkS c a u = tkF c a u) ∨ (∀ a, tkS c a u = tkF c a u) := hS.elim Or.inl (fun z => Or.inr z.1)
  have t9 : c_tick1 c 9 u = tkS c 9 u := tk1_a c (by decide)
  have t3 : c_tick1 c 3 u = tkS c 3 u := tk1_a c (by decide)
  have t4 : c_tick1 c 4 u = tkS c 4 u := tk1_a c (by decide)
  have t10 : c_tick1 c 10 u = tkS c 10 u := tk1_a c (by decide)
  have t11 : c_tick1 c 11 u = tkS c 11 u := tk1_a c (by decide)
  have hS2 : (tkF c 9 u = 0 ∧ tkS c 9 u = 1 ∧ tkS c 10 u = 0 ∧ tkS c 3 u = tkF c 3 u ∧ tkS c 4 u = tkF c 4 u ∧ tkS c 11 u = tkF c 11 u) ∨ (tkS c 9 u = tkF c 9 u ∧ tkS c 10 u = tkF c 10 u ∧ tkS c 3 u = tkF c 3 u ∧ tkS c 4 u = tkF c 4 u ∧ tkS c 11 u = tkF c 11 u) := by
    rcases hS with ⟨a1, a2, a3, a4⟩ | a
    · exact Or.inl ⟨a1, a2, a3, a4 3 (by decide) (by decide), a4 4 (by decide) (by decide), a4 11 (by decide) (by decide)⟩
    · exact Or.inr ⟨a 9, a 10, a 3, a 4, a 11⟩
  have hF2 : tkF c 9 u = tkE c 9 u ∨ (tkE c 9 u = 0 ∧ tkF c 9 u = 3) := hF.elim Or.inl (fun z => Or.inr ⟨z.1, z.2.1⟩)
  constructor
  · unfold TE at hE
    obtain ⟨q1, q2, q3, q4, q5⟩ := hE
    unfold TS
    rw [t9, t3, t4, t10, t11]
    generalize tkS c 9 u = s9 at *
    generalize tkS c 10 u = s10 at *
    generalize tkS c 3 u = s3 at *
    generalize tkS c 4 u = s4 at *
    generalize tkS c 11 u = s11 at *
    generalize tkF c 9 u = f9 at *
    generalize tkE c 9 u = x9 at *
    generalize tkE c 10 u = x10 at *
    generalize tkE c 3 u = x3 at *
    generalize tkE c 4 u = x4 at *
    generalize tkE c 11 u = x11 at *
    generalize max 1 ((c 3 u + c 1 u) / 2) = mx at *
    rcases Classical.em (c 9 u = 1) with k1 | k1
    · rcases Classical.em (c 10 u + 1 < c 1 u) with k2 | k2
      · have h9 := q2 k1 k2
        clear q1 q2 q3 q4 q5 hF hS; rcases hF2 with hF2 | hF2 <;> rcases hS2 with hS2 | hS2 <;> exact ⟨fun _ => by omega, fun _ => by omega, fun _ => by omega, fun _ => by omega, fun _ => by omega, fun _ => by omega, fun _ => by omega, fun _ => by omega, fun _ => by omega, fun _ => by omega, fun _ => by omega, fun _ => by omega⟩
      · rcases Classical.em (c 4 u = 0) with k4 | k4
        · have h9 := q3 k1 k2 k4
          clear q1 q2 q3 q4 q5 hF hS; rcases hF2 with hF2 | hF2 <;> rcases hS2 with hS2 | hS2 <;> exact ⟨fun _ => by omega, fun _ => by omega, fun _ => by omega, fun _ => by omega, fun _ => by omega, fun _ => by omega, fun _ => by omega, fun _ => by omega, fun _ => by omega, fun _ => by omega, fun _ => by omega, fun _ => by omega⟩
        · rcases Classical.em (c 11 u < c 2 u) with k5 | k5
          · have h9 := q4 k1 k2 k4 k5
            clear q1 q2 q3 q4 q5 hF hS; rcases hF2 with hF2 | hF2 <;> rcases hS2 with hS2 | hS2 <;> exact ⟨fun _ => by omega, fun _ => by omega, fun _ => by omega, fun _ => by omega, fun _ => by omega, fun _ => by omega, fun _ => by omega, fun _ => by omega, fun _ => by omega, fun _ => by omega, fun _ => by omega, fun _ => by omega⟩
          · have h9 := q5 k1 k2 k4 k5
            clear q1 q2 q3 q4 q5 hF hS; rcases hF2 with hF2 | hF2 <;> rcases hS2 with hS2 | hS2 <;> exact ⟨fun _ => by omega, fun _ => by omega, fun _ => by omega, fun _ => by omega, fun _ => by omega, fun _ => by omega, fun _ => by omega, fun _ => by omega, fun _ => by omega, fun _ => by omega, fun _ => by omega, fun _ => by omega⟩
    · have h9 := q1 k1
      clear q1 q2 q3 q4 q5 hF hS; rcases hF2 with hF2 | hF2 <;> rcases hS2 with hS2 | hS2 <;> exact ⟨fun _ => by omega, fun _ => by omega, fun _ => by omega, fun _ => by omega, fun _ => by omega, fun _ => by omega, fun _ => by omega, fun _ => by omega, fun _ => by omega, fun _ => by omega, fun _ => by omega, fun _ => by omega⟩
  · intro h0 h3
    rw [t9] at h3
    have e9 : tkE c 9 u = 0 := by have := hE.1 (by omega); omega
    rcases hF with z | ⟨z1, z2, v, hv, hl⟩
    · omega
    · rw [eE] at hv
      refine ⟨v, hv, ?_⟩
      obtain ⟨l1, l2⟩ := hl
      refine ⟨by rw [tk1_a c (by decide), tkS_n c 7 u (by omega), ← tkF_n c 7 u (by omega)]; exact l1, ?_⟩
      have h6 : c_tick1 c 6 = tkF c 6 := funext fun w => by rw [tk1_a c (by decide), tkS_n c 6 w (by omega), tkF_n c 6 w (by omega)]
      rw [h6]
      refine lost_up (fun w => ?_) l2
      have hw := W_stI (mk (metP (tkF c 9) (tkF c 6)) (tkF c 20 1)) (mk (doneP (tkF c 9)) (tkF c 20 1)) (tkF c) (tkF c 20 1) w
      have hw : tkS c 9 w = tkF c 9 w ∨ (tkF c 9 w = 0 ∧ tkS c 9 w = 1) := hw
      rw [tk1_a c (by decide)]
      omega
/-- no more starts than the bound -/
theorem tick_cnt {c : Nat → Nat → Nat} (h : c_cnt c ≤ c 20 4) : c_cnt (c_tick1 c) ≤ c 20 4 := by
  rw [tk1_cnt]
  have h1 := (cnt_mono (met := mk (metP (tkF c 9) (tkF c 6)) (tkF c 20 1)) (dn := mk (doneP (tkF c 9)) (tkF c 20 1)) (c := tkF c) (tkF c 20 1) 0 (by omega)).2
  rw [Nat.zero_add, tkF_n c 20 4 (by omega)] at h1
  refine h1 (Nat.le_trans ?_ h)
  show ct (fun w => tkF c 9 w = 1) (tkF c 20 1) ≤ ct (fun w => c 9 w = 1) (c 20 1)
  rw [tkF_n c 20 1 (by omega)]
  refine ct_sub (fun w hw h1 => ?_)
  have hE : TE c (tkE c) w := endI_TE hw
  have hF := failI_up (c := tkE c) (w := w) (tkE c 20 1)
  have hF : tkF c 9 w = tkE c 9 w ∨ (tkE c 9 w = 0 ∧ tkF c 9 w = 3) := hF
  apply Classical.byContradiction
  intro hn
  have := hE.1 hn
  omega
/-- who still waits, with room left, waits for something or has lost a need -/
theorem tick_open {c : Nat → Nat → Nat} (hI : IC c) {u : Nat} (hu : u < c 20 1) (h0 : c_tick1 c 9 u = 0) (hc : c_cnt (c_tick1 c) < c 20 4) : (∃ v, v < c 20 1 ∧ awC (c_tick1 c) u v) ∨ ∃ v, v < c 20 1 ∧ LSP (c_tick1 c) u v := by
  rw [tk1_cnt] at hc
  rw [tk1_a c (by decide)] at h0
  have eF : tkF c 20 1 = c 20 1 := tkF_n c 20 1 (by omega)
  have hS := stI_S (met := mk (metP (tkF c 9) (tkF c 6)) (tkF c 20 1)) (dn := mk (doneP (tkF c 9)) (tkF c 20 1)) (c := tkF c) (n := tkF c 20 1) (u := u) (by omega)
  have hW : ∀ w, tkS c 9 w = tkF c 9 w ∨ (tkF c 9 w = 0 ∧ tkS c 9 w = 1) := W_stI (mk (metP (tkF c 9) (tkF c 6)) (tkF c 20 1)) (mk (doneP (tkF c 9)) (tkF c 20 1)) (tkF c) (tkF c 20 1)
  rcases hS with ⟨_, a2, _⟩ | ⟨a1, a2⟩
  · have a2 : tkS c 9 u = 1 := a2
    omega
  · have h9 : tkF c 9 u = 0 := by have : tkS c 9 u = tkF c 9 u := a1 9; omega
    have hm := (cnt_mono (met := mk (metP (tkF c 9) (tkF c 6)) (tkF c 20 1)) (dn := mk (doneP (tkF c 9)) (tkF c 20 1)) (c := tkF c) (tkF c 20 1 - u) u (by omega)).1
    rw [show u + (tkF c 20 1 - u) = tkF c 20 1 by omega] at hm
    have hm : c_cnt (c_stI (mk (metP (tkF c 9) (tkF c 6)) (tkF c 20 1)) (mk (doneP (tkF c 9)) (tkF c 20 1)) (tkF c) u) ≤ c_cnt (tkS c) := hm
    have e7 : c_tick1 c 7 u = tkF c 7 u := by rw [tk1_a c (by decide), tkS_n c 7 u (by omega), tkF_n c 7 u (by omega)]
    have e8 : c_tick1 c 8 u = tkF c 8 u := by rw [tk1_a c (by decide), tkS_n c 8 u (by omega), tkF_n c 8 u (by omega)]
    have e6 : c_tick1 c 6 = tkF c 6 := funext fun w => by rw [tk1_a c (by decide), tkS_n c 6 w (by omega), tkF_n c 6 w (by omega)]
    have e9 : c_tick1 c 9 = tkS c 9 := funext fun w => tk1_a c (by decide)
    have hx : anN (tkF c 7 u) (mk (metP (tkF c 9) (tkF c 6)) (tkF c 20 1)) ≠ 0 ∨ anN (tkF c 8 u) (mk (doneP (tkF c 9)) (tkF c 20 1)) ≠ 0 := by
      apply Classical.byContradiction
      intro z
      refine a2 ⟨by rw [tkF_n c 20 4 (by omega)]; omega, h9, ?_, ?_⟩ <;> omega
    rcases hx with hx | hx
    · obtain ⟨v, h1, h2, h3⟩ := an_ex hx (by rw [tkF_n c 7 u (by omega), eF]; exact IC_7 hI u)
      rw [eF] at h1
      have h4 : ¬ metP (tkS c 9) (tkF c 6) v := by
        intro q
        apply h3
        unfold metP goneP at *
        have w1 := hW v
        have w2 := hW (tkF c 6 v - 1)
        omega
      rcases Classical.em (lostP (tkS c 9) (tkF c 6) v) with l | l
      · exact Or.inr ⟨v, h1, by rw [e7]; exact h2, by rw [e6, e9]; exact l⟩
      · exact Or.inl ⟨v, h1, Or.inl ⟨by rw [e7]; exact h2, by rw [e6, e9]; exact h4, by rw [e6, e9]; exact l⟩⟩
    · obtain ⟨v, h1, h2, h3⟩ := an_ex hx (by rw [tkF_n c 8 u (by omega), eF]; exact IC_8 hI u)
      rw [eF] at h1
      refine Or.inl ⟨v, h1, Or.inr ⟨by rw [e8]; exact h2, ?_⟩⟩
      rw [e9]
      intro q
      apply h3
      unfold doneP goneP at *
      have w1 := hW v
      omega
