/-! THE CLASS'S STATE: bounds that always hold, and the steps of a tick -/
def UB (c : Nat → Nat → Nat) (u : Nat) : Prop := c 1 u ≤ 100 ∧ c 2 u ≤ 3 ∧ 1 ≤ c 3 u ∧ c 3 u ≤ 100 ∧ c 4 u ≤ 10 ∧ c 5 u ≤ 1 ∧ c 9 u ≤ 4 ∧ c 10 u ≤ 100 ∧ (c 9 u = 1 → c 10 u ≤ 99) ∧ c 11 u ≤ 3 ∧ c 12 u ≤ 100
def WB (c : Nat → Nat → Nat) : Prop := ∀ j, j < c 30 0 → c 31 j < c 20 1 ∧ c 32 j < c 20 1 ∧ 1 ≤ c 33 j ∧ c 33 j ≤ 100
def IC (c : Nat → Nat → Nat) : Prop := BC c ∧ c 20 1 ≤ 20 ∧ (∀ u, c 6 u ≤ c 20 1) ∧ (∀ u, c 7 u < 2 ^ c 20 1) ∧ (∀ u, c 8 u < 2 ^ c 20 1) ∧ (∀ u, UB c u) ∧ (c 20 3 ≤ 1 ∧ c 20 4 ≤ 20 ∧ c 20 5 ≤ 2000 ∧ c 20 6 ≤ 2000000) ∧ WB c ∧ (c 30 0 ≤ c 36 0 ∧ c 36 0 ≤ 2 * c 30 0 + 10)
theorem IC_B {c : Nat → Nat → Nat} (h : IC c) : BC c := h.1
theorem IC_n {c : Nat → Nat → Nat} (h : IC c) : c 20 1 ≤ 20 := h.2.1
theorem IC_s {c : Nat → Nat → Nat} (h : IC c) : ∀ u, c 6 u ≤ 20 := fun u => Nat.le_trans (h.2.2.1 u) h.2.1
theorem IC_7 {c : Nat → Nat → Nat} (h : IC c) : ∀ u, c 7 u < 2 ^ c 20 1 := h.2.2.2.1
theorem IC_8 {c : Nat → Nat → Nat} (h : IC c) : ∀ u, c 8 u < 2 ^ c 20 1 := h.2.2.2.2.1
theorem p20 {x n : Nat} (h : x < 2 ^ n) (hn : n ≤ 20) : x < 2 ^ 20 := Nat.lt_of_lt_of_le h (Nat.pow_le_pow_right (by decide) hn)
theorem IC_U {c : Nat → Nat → Nat} (h : IC c) : ∀ u, UB c u := h.2.2.2.2.2.1
theorem IC_o {c : Nat → Nat → Nat} (h : IC c) : c 20 3 ≤ 1 ∧ c 20 4 ≤ 20 ∧ c 20 5 ≤ 2000 ∧ c 20 6 ≤ 2000000 := h.2.2.2.2.2.2.1
theorem IC_W {c : Nat → Nat → Nat} (h : IC c) : WB c := h.2.2.2.2.2.2.2.1
theorem IC_L {c : Nat → Nat → Nat} (h : IC c) : c 30 0 ≤ c 36 0 ∧ c 36 0 ≤ 2 * c 30 0 + 10 := h.2.2.2.2.2.2.2.2
/-- columns of a unit that a start writes -/
def uc (a : Nat) : Prop := 1 ≤ a ∧ a ≤ 12 ∧ a ≠ 6 ∧ a ≠ 7 ∧ a ≠ 8
theorem IC_unit {c c' : Nat → Nat → Nat} {u : Nat} (h : IC c) (hk : ∀ a i, ¬ (uc a ∧ i = u) → c' a i = c a i) (hU : UB c' u) : IC c' := by
  have k0 : ∀ a i, (a = 6 ∨ a = 7 ∨ a = 8 ∨ 12 < a) → c' a i = c a i := fun a i ha => hk a i (fun z => by obtain ⟨⟨_, _, _, _, _⟩, _⟩ := z; omega)
  obtain ⟨h1, h2, h3, h4, h5, h6, h7, h8, h9⟩ := h
  refine ⟨?_, by rw [k0 20 1 (by omega)]; exact h2, fun w => by rw [k0 6 w (by omega), k0 20 1 (by omega)]; exact h3 w, fun w => by rw [k0 7 w (by omega), k0 20 1 (by omega)]; exact h4 w, fun w => by rw [k0 8 w (by omega), k0 20 1 (by omega)]; exact h5 w, ?_, by rw [k0 20 3 (by omega), k0 20 4 (by omega), k0 20 5 (by omega), k0 20 6 (by omega)]; exact h7, ?_, by rw [k0 30 0 (by omega), k0 36 0 (by omega)]; exact h9⟩
  · intro a i ha
    by_cases hz : uc a ∧ i = u
    · obtain ⟨⟨z1, z2, z3, z4, z5⟩, z6⟩ := hz
      subst z6
      obtain ⟨u1, u2, u3, u4, u5, u6, u7, u8, u9, u10, u11⟩ := hU
      have : a = 1 ∨ a = 2 ∨ a = 3 ∨ a = 4 ∨ a = 5 ∨ a = 9 ∨ a = 10 ∨ a = 11 ∨ a = 12 := by omega
      rcases this with e | e | e | e | e | e | e | e | e <;> subst e <;> omega
    · rw [hk a i hz]; exact h1 a i ha
  · intro w
    by_cases hw : w = u
    · subst hw; exact hU
    · have k1 : ∀ a, c' a w = c a w := fun a => hk a w (fun z => hw z.2)
      unfold UB
      simp only [k1]
      exact h6 w
  · intro j hj
    rw [k0 30 0 (by omega)] at hj
    rw [k0 31 j (by omega), k0 32 j (by omega), k0 33 j (by omega), k0 20 1 (by omega)]
    exact h8 j hj
def c_end1 (c : Nat → Nat → Nat) (u : Nat) : Nat → Nat → Nat :=
  if c 9 u = 1 then (if c 10 u + 1 < c 1 u then up2 c 10 u (c 10 u + 1) else c_come (up2 c 10 u (c 10 u + 1)) u) else c
def c_endI (c : Nat → Nat → Nat) : Nat → Nat → Nat → Nat
  | 0 => c
  | k + 1 => c_end1 (c_endI c k) k
noncomputable def c_fail1 (c : Nat → Nat → Nat) (u : Nat) : Nat → Nat → Nat :=
  if c 9 u = 0 ∧ c 7 u &&& mk (lostP (c 9) (c 6)) (c 20 1) ≠ 0 then up2 c 9 u 3 else c
noncomputable def c_failI (c : Nat → Nat → Nat) : Nat → Nat → Nat → Nat
  | 0 => c
  | k + 1 => c_fail1 (c_failI c k) k
/-- how many are STARTING -/
noncomputable def c_cnt (c : Nat → Nat → Nat) : Nat := ct (fun w => c 9 w = 1) (c 20 1)
noncomputable def c_st1 (met dn : Nat) (c : Nat → Nat → Nat) (u : Nat) : Nat → Nat → Nat :=
  if c_cnt c < c 20 4 ∧ c 9 u = 0 ∧ anN (c 7 u) met = 0 ∧ anN (c 8 u) dn = 0 then up2 (up2 c 9 u 1) 10 u 0 else c
noncomputable def c_stI (met dn : Nat) (c : Nat → Nat → Nat) : Nat → Nat → Nat → Nat
  | 0 => c
  | k + 1 => c_st1 met dn (c_stI met dn c k) k
noncomputable def c_start (c : Nat → Nat → Nat) : Nat → Nat → Nat := c_stI (mk (metP (c 9) (c 6)) (c 20 1)) (mk (doneP (c 9)) (c 20 1)) c (c 20 1)
def c_bar (c : Nat → Nat → Nat) : Nat → Nat → Nat := up2 c 20 6 (max (c 20 6) (if c 20 3 ≠ 0 ∧ 0 < c 20 5 then 1000 * sm (c_part c) (c 20 1) / c 20 5 else 1000))
noncomputable def c_go (c : Nat → Nat → Nat) : Nat → Nat → Nat := up2 (c_start c) 20 3 (bN (0 < c_cnt (c_start c)))
noncomputable def c_tick1 (c : Nat → Nat → Nat) : Nat → Nat → Nat := c_bar (c_go (c_failI (c_endI c (c 20 1)) (c_endI c (c 20 1) 20 1)))
theorem up_off {c : Nat → Nat → Nat} {a i v b j : Nat} (h : ¬ (b = a ∧ j = i)) : up2 c a i v b j = c b j := by simp [up2, h]
/-- c' is c but for the start's columns of u -/
def Offu (c c' : Nat → Nat → Nat) (u : Nat) : Prop := ∀ a i, ¬ (uc a ∧ i = u) → c' a i = c a i
theorem Off_up {c c' : Nat → Nat → Nat} {u a v : Nat} (h : Offu c c' u) (ha : uc a) : Offu c (up2 c' a u v) u := fun b j hb => by
  have hz : ¬ (b = a ∧ j = u) := fun z => hb ⟨by rw [z.1]; exact ha, z.2⟩
  rw [up_off hz]
  exact h b j hb
theorem Off_r {c : Nat → Nat → Nat} {u : Nat} : Offu c c u := fun _ _ _ => rfl
theorem Off_come {c c' : Nat → Nat → Nat} {u : Nat} (h : Offu c c' u) : Offu c (c_come c' u) u := by
  unfold c_come
  split
  · exact Off_up (Off_up h ⟨by decide, by decide, by decide, by decide, by decide⟩) ⟨by decide, by decide, by decide, by decide, by decide⟩
  · split
    · exact Off_up (Off_up (Off_up h ⟨by decide, by decide, by decide, by decide, by decide⟩) ⟨by decide, by decide, by decide, by decide, by decide⟩) ⟨by decide, by decide, by decide, by decide, by decide⟩
    · exact Off_up (Off_up h ⟨by decide, by decide, by decide, by decide, by decide⟩) ⟨by decide, by decide, by decide, by decide, by decide⟩
theorem Off_end1 (c : Nat → Nat → Nat) (u : Nat) : Offu c (c_end1 c u) u := by
  unfold c_end1
  split
  · split
    · exact Off_up Off_r ⟨by decide, by decide, by decide, by decide, by decide⟩
    · exact Off_come (Off_up Off_r ⟨by decide, by decide, by decide, by decide, by decide⟩)
  · exact Off_r
theorem Off_fail1 (c : Nat → Nat → Nat) (u : Nat) : Offu c (c_fail1 c u) u := by
  unfold c_fail1
  split
  · exact Off_up Off_r ⟨by decide, by decide, by decide, by decide, by decide⟩
  · exact Off_r
theorem Off_st1 (met dn : Nat) (c : Nat → Nat → Nat) (u : Nat) : Offu c (c_st1 met dn c u) u := by
  unfold c_st1
  split
  · exact Off_up (Off_up Off_r ⟨by decide, by decide, by decide, by decide, by decide⟩) ⟨by decide, by decide, by decide, by decide, by decide⟩
  · exact Off_r
theorem UB_come {c : Nat → Nat → Nat} {u : Nat} (h : UB c u ∨ (c 1 u ≤ 100 ∧ c 2 u ≤ 3 ∧ 1 ≤ c 3 u ∧ c 3 u ≤ 100 ∧ c 4 u ≤ 10 ∧ c 5 u ≤ 1 ∧ c 10 u ≤ 100 ∧ c 11 u ≤ 3 ∧ c 12 u ≤ 100)) : UB (c_come c u) u := by
  have h : c 1 u ≤ 100 ∧ c 2 u ≤ 3 ∧ 1 ≤ c 3 u ∧ c 3 u ≤ 100 ∧ c 4 u ≤ 10 ∧ c 5 u ≤ 1 ∧ c 10 u ≤ 100 ∧ c 11 u ≤ 3 ∧ c 12 u ≤ 100 := by
    rcases h with h | h
    · obtain ⟨u1, u2, u3, u4, u5, u6, u7, u8, u9, u10, u11⟩ := h
      exact ⟨u1, u2, u3, u4, u5, u6, u8, u10, u11⟩
    · exact h
  obtain ⟨u1, u2, u3, u4, u5, u6, u8, u10, u11⟩ := h
  unfold c_come UB
  split
  · simp [up2]; omega
  · split
    · simp [up2]; omega
    · simp [up2]; omega
theorem IC_end1 {c : Nat → Nat → Nat} (h : IC c) (u : Nat) : IC (c_end1 c u) := by
  refine IC_unit h (Off_end1 c u) ?_
  have hu := IC_U h u
  obtain ⟨u1, u2, u3, u4, u5, u6, u7, u8, u9, u10, u11⟩ := id hu
  unfold c_end1
  split
  · rename_i h1
    have h9 := u9 h1
    split
    · unfold UB; simp [up2]; omega
    · refine UB_come (Or.inr ?_)
      simp [up2]; omega
  · exact hu
theorem IC_endI {c : Nat → Nat → Nat} (h : IC c) : ∀ k, IC (c_endI c k)
  | 0 => h
  | k + 1 => IC_end1 (IC_endI h k) k
theorem IC_fail1 {c : Nat → Nat → Nat} (h : IC c) (u : Nat) : IC (c_fail1 c u) := by
  refine IC_unit h (Off_fail1 c u) ?_
  have hu := IC_U h u
  obtain ⟨u1, u2, u3, u4, u5, u6, u7, u8, u9, u10, u11⟩ := id hu
  unfold c_fail1
  split
  · unfold UB; simp [up2]; omega
  · exact hu
theorem IC_failI {c : Nat → Nat → Nat} (h : IC c) : ∀ k, IC (c_failI c k)
  | 0 => h
  | k + 1 => IC_fail1 (IC_failI h k) k
theorem IC_st1 {met dn : Nat} {c : Nat → Nat → Nat} (h : IC c) (u : Nat) : IC (c_st1 met dn c u) := by
  refine IC_unit h (Off_st1 met dn c u) ?_
  have hu := IC_U h u
  obtain ⟨u1, u2, u3, u4, u5, u6, u7, u8, u9, u10, u11⟩ := id hu
  unfold c_st1
  split
  · unfold UB; simp [up2]; omega
  · exact hu
theorem IC_stI {met dn : Nat} {c : Nat → Nat → Nat} (h : IC c) : ∀ k, IC (c_stI met dn c k)
  | 0 => h
  | k + 1 => IC_st1 (IC_stI h k) k
theorem IC_start {c : Nat → Nat → Nat} (h : IC c) : IC (c_start c) := IC_stI h _
theorem Off_n {c c' : Nat → Nat → Nat} {u : Nat} (h : Offu c c' u) (a i : Nat) (ha : a = 6 ∨ a = 7 ∨ a = 8 ∨ 12 < a) : c' a i = c a i := h a i (fun z => by obtain ⟨⟨_, _, _, _, _⟩, _⟩ := z; omega)
theorem endI_n (c : Nat → Nat → Nat) (a i : Nat) (ha : a = 6 ∨ a = 7 ∨ a = 8 ∨ 12 < a) : ∀ k, c_endI c k a i = c a i
  | 0 => rfl
  | k + 1 => (Off_n (Off_end1 _ k) a i ha).trans (endI_n c a i ha k)
theorem failI_n (c : Nat → Nat → Nat) (a i : Nat) (ha : a = 6 ∨ a = 7 ∨ a = 8 ∨ 12 < a) : ∀ k, c_failI c k a i = c a i
  | 0 => rfl
  | k + 1 => (Off_n (Off_fail1 _ k) a i ha).trans (failI_n c a i ha k)
theorem stI_n (met dn : Nat) (c : Nat → Nat → Nat) (a i : Nat) (ha : a = 6 ∨ a = 7 ∨ a = 8 ∨ 12 < a) : ∀ k, c_stI met dn c k a i = c a i
  | 0 => rfl
  | k + 1 => (Off_n (Off_st1 met dn _ k) a i ha).trans (stI_n met dn c a i ha k)
/-- a full bound stays full -/
theorem stI_stay {met dn : Nat} {c : Nat → Nat → Nat} {i : Nat} (h : c 20 4 ≤ c_cnt (c_stI met dn c i)) : ∀ k, c_stI met dn c (i + k) = c_stI met dn c i
  | 0 => rfl
  | k + 1 => by
    have ih := stI_stay h k
    show c_st1 met dn (c_stI met dn c (i + k)) (i + k) = _
    rw [ih]
    unfold c_st1
    rw [if_neg]
    rintro ⟨z, -⟩
    rw [stI_n met dn c 20 4 (by omega)] at z
    omega
theorem cnt_up {c : Nat → Nat → Nat} {u : Nat} (hu : u < c 20 1) (h : c 9 u = 0) : c_cnt (up2 (up2 c 9 u 1) 10 u 0) = c_cnt c + 1 := by
  unfold c_cnt
  have e : up2 (up2 c 9 u 1) 10 u 0 20 1 = c 20 1 := by simp [up2]
  rw [e]
  exact ct_one (u := u) (by omega) (by simp [up2]) hu (fun i _ hi => by simp [up2, hi])
theorem IC_obj {c : Nat → Nat → Nat} {k v : Nat} (h : IC c) (hk : k = 3 ∧ v ≤ 1 ∨ k = 4 ∧ v ≤ 20 ∨ k = 5 ∧ v ≤ 2000 ∨ k = 6 ∧ v ≤ 2000000) : IC (up2 c 20 k v) := by
  obtain ⟨h1, h2, h3, h4, h5, h6, h7, h8, h9⟩ := h
  have k1 : up2 c 20 k v 20 1 = c 20 1 := up2_i (by omega)
  refine ⟨?_, by rw [k1]; exact h2, fun w => by rw [k1]; exact h3 w, fun w => by rw [k1]; exact h4 w, fun w => by rw [k1]; exact h5 w, h6, ?_, fun j hj => by rw [k1]; exact h8 j hj, h9⟩
  · intro a i ha
    by_cases hz : a = 20 ∧ i = k
    · rw [hz.1, hz.2, up2_s]; omega
    · rw [up_off hz]; exact h1 a i ha
  · rcases hk with ⟨e, hv⟩ | ⟨e, hv⟩ | ⟨e, hv⟩ | ⟨e, hv⟩ <;> subst e <;> simp [up2] <;> omega
theorem BC_up {c : Nat → Nat → Nat} {a i v : Nat} (h : BC c) (hv : v < 2 ^ 31) : BC (up2 c a i v) := fun b j hb => by
  by_cases hz : b = a ∧ j = i
  · rw [hz.1, hz.2, up2_s]; exact hv
  · rw [up_off hz]; exact h b j hb
theorem part1_le {c : Nat → Nat → Nat} (h : IC c) (u : Nat) : c_part c u ≤ 100 := by
  obtain ⟨u1, u2, u3, u4, u5, u6, u7, u8, u9, u10, u11⟩ := IC_U h u
  unfold c_part
  split
  · exact u11
  · split
    · exact Nat.le_trans (Nat.min_le_right _ _) u11
    · exact Nat.zero_le _
theorem part_le {c : Nat → Nat → Nat} (h : IC c) : sm (c_part c) (c 20 1) ≤ 2000 := by
  have h1 := sm_le (f := c_part c) (k := 100) (n := c 20 1) (fun i _ => part1_le h i)
  have h2 := IC_n h
  omega
theorem IC_failw {c : Nat → Nat → Nat} {u : Nat} (h : IC c) (h0 : c 9 u = 0) (h1 : 0 < c 7 u &&& mk (lostP (c 9) (c 6)) (c 20 1)) : IC (up2 c 9 u 3) := by
  have h9 := IC_fail1 h u
  unfold c_fail1 at h9
  rw [if_pos ⟨h0, Nat.ne_of_gt h1⟩] at h9
  exact h9
theorem IC_bar {c : Nat → Nat → Nat} (h : IC c) : IC (c_bar c) := by
  refine IC_obj h (Or.inr (Or.inr (Or.inr ⟨rfl, ?_⟩)))
  have h1 := part_le h
  have h2 := (IC_o h).2.2.2
  have h3 : 1000 * sm (c_part c) (c 20 1) / c 20 5 ≤ 2000000 := Nat.le_trans (Nat.div_le_self _ _) (by omega)
  refine Nat.max_le.mpr ⟨h2, ?_⟩
  split
  · exact h3
  · decide
theorem IC_tick1 {c : Nat → Nat → Nat} (h : IC c) : IC (c_tick1 c) := IC_bar (IC_obj (IC_start (IC_failI (IC_endI h _) _)) (Or.inl ⟨rfl, bN_le _⟩))
noncomputable def c_tkI (c : Nat → Nat → Nat) : Nat → Nat → Nat → Nat
  | 0 => c
  | k + 1 => c_tick1 (c_tkI c k)
theorem IC_tkI {c : Nat → Nat → Nat} (h : IC c) : ∀ k, IC (c_tkI c k)
  | 0 => h
  | k + 1 => IC_tick1 (IC_tkI h k)
/-- the first place of P below n, and 1; 0 without one -/
noncomputable def fP (P : Nat → Prop) : Nat → Nat
  | 0 => 0
  | n + 1 => if fP P n = 0 then bN (P n) * (n + 1) else fP P n
theorem fP_stay {P : Nat → Prop} {i : Nat} (h : fP P i ≠ 0) : ∀ k, fP P (i + k) = fP P i
  | 0 => rfl
  | k + 1 => by
    have ih := fP_stay h k
    show (if fP P (i + k) = 0 then bN (P (i + k)) * (i + k + 1) else fP P (i + k)) = _
    rw [if_neg (by rw [ih]; exact h), ih]
theorem fP_hit {P : Nat → Prop} {i n : Nat} (h : fP P i = 0) (hp : P i) (hi : i < n) : fP P n = i + 1 := by
  have h1 : fP P (i + 1) = i + 1 := by rw [fP, if_pos h, bN_t hp, Nat.one_mul]
  have h2 := fP_stay (P := P) (i := i + 1) (by rw [h1]; exact Nat.succ_ne_zero i) (n - (i + 1))
  rw [show i + 1 + (n - (i + 1)) = n by omega, h1] at h2
  exact h2
theorem fP_miss {P : Nat → Prop} {i : Nat} (h : fP P i = 0) (hp : ¬ P i) : fP P (i + 1) = 0 := by rw [fP, if_pos h, bN_f hp, Nat.zero_mul]
theorem siI_s (w : Nat) : siI (w + 1) = nI w := nI_pred w
theorem siI_0 : siI 0 = -1 := by decide
