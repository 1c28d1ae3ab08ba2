/-! THE MODEL'S STATE: bounds and steps -/
def BRr (r : Nat → Nat → Nat) : Prop := ∀ a i, a ≤ 30 → r a i < 2 ^ 31
def RU (r : Nat → Nat → Nat) (u : Nat) : Prop := r 1 u ≤ 100 ∧ r 2 u ≤ 100 ∧ r 3 u ≤ 3 ∧ r 4 u ≤ 10 ∧ r 6 u ≤ 1 ∧ r 17 u ≤ 4 ∧ r 18 u ≤ 100 ∧ (r 17 u = 1 → r 18 u ≤ 99) ∧ r 19 u ≤ 3 ∧ r 20 u ≤ 100 ∧ r 21 u ≤ 1
def RE (r : Nat → Nat → Nat) (e : Nat) : Prop := r 7 e ≤ 1 ∧ r 8 e ≤ 100 ∧ r 11 e ≤ 1
def RO (r : Nat → Nat → Nat) : Prop := r 30 0 ≤ 20 ∧ r 30 10 ≤ 100000 ∧ r 30 12 ≤ 1 ∧ r 30 13 ≤ 1 ∧ r 30 14 ≤ 20 ∧ r 30 15 ≤ 2000 ∧ r 30 16 ≤ 2000000 ∧ r 30 22 ≤ 3
def IR (r : Nat → Nat → Nat) : Prop := BRr r ∧ (∀ u, RU r u) ∧ (∀ e, RE r e) ∧ RO r ∧ ∀ u, r 5 u ≤ 20
theorem IR_B {r : Nat → Nat → Nat} (h : IR r) : BRr r := h.1
theorem IR_U {r : Nat → Nat → Nat} (h : IR r) : ∀ u, RU r u := h.2.1
theorem IR_E {r : Nat → Nat → Nat} (h : IR r) : ∀ e, RE r e := h.2.2.1
theorem IR_O {r : Nat → Nat → Nat} (h : IR r) : RO r := h.2.2.2.1
theorem IR_n {r : Nat → Nat → Nat} (h : IR r) : r 30 0 ≤ 20 := h.2.2.2.1.1
theorem IR_s {r : Nat → Nat → Nat} (h : IR r) : ∀ u, r 5 u ≤ 20 := h.2.2.2.2
def uR (a : Nat) : Prop := a = 1 ∨ a = 2 ∨ a = 3 ∨ a = 4 ∨ a = 6 ∨ a = 17 ∨ a = 18 ∨ a = 19 ∨ a = 20 ∨ a = 21
theorem IR_unit {r r' : Nat → Nat → Nat} {u : Nat} (h : IR r) (hk : ∀ a i, ¬ (uR a ∧ i = u) → r' a i = r a i) (hU : RU r' u) : IR r' := by
  have k0 : ∀ a i, (a = 5 ∨ a = 7 ∨ a = 8 ∨ a = 11 ∨ 21 < a) → r' a i = r a i := fun a i ha => hk a i (fun z => by obtain ⟨z1, _⟩ := z; unfold uR at z1; omega)
  obtain ⟨h1, h2, h3, h4, h5⟩ := h
  refine ⟨?_, ?_, ?_, ?_, ?_⟩
  · intro a i ha
    by_cases hz : uR a ∧ i = u
    · obtain ⟨z1, z2⟩ := hz
      subst z2
      obtain ⟨u1, u2, u3, u4, u5, u6, u7, u8, u9, u10, u11⟩ := hU
      rcases z1 with e | e | e | e | e | e | e | e | e | e <;> subst e <;> omega
    · rw [hk a i hz]; exact h1 a i ha
  · intro w
    by_cases hw : w = u
    · subst hw; exact hU
    · have k1 : ∀ a, r' a w = r a w := fun a => hk a w (fun z => hw z.2)
      unfold RU
      simp only [k1]
      exact h2 w
  · intro e
    have := h3 e
    unfold RE at this ⊢
    rw [k0 7 e (by omega), k0 8 e (by omega), k0 11 e (by omega)]
    exact this
  · unfold RO at h4 ⊢
    rw [k0 30 0 (by omega), k0 30 10 (by omega), k0 30 12 (by omega), k0 30 13 (by omega), k0 30 14 (by omega), k0 30 15 (by omega), k0 30 16 (by omega), k0 30 22 (by omega)]
    exact h4
  · intro w
    rw [k0 5 w (by omega)]
    exact h5 w
/-- off the columns of a unit -/
def Ofr (r r' : Nat → Nat → Nat) (u : Nat) : Prop := ∀ a i, ¬ (uR a ∧ i = u) → r' a i = r a i
theorem Ofr_up {r r' : Nat → Nat → Nat} {u a v : Nat} (h : Ofr r r' u) (ha : uR a) : Ofr r (up2 r' a u v) u := fun b j hb => by
  have hz : ¬ (b = a ∧ j = u) := fun z => hb ⟨by rw [z.1]; exact ha, z.2⟩
  rw [up_off hz]
  exact h b j hb
theorem Ofr_r {r : Nat → Nat → Nat} {u : Nat} : Ofr r r u := fun _ _ _ => rfl
theorem Ofr_n {r r' : Nat → Nat → Nat} {u : Nat} (h : Ofr r r' u) (a i : Nat) (ha : a = 5 ∨ a = 7 ∨ a = 8 ∨ a = 9 ∨ a = 11 ∨ 21 < a) : r' a i = r a i := h a i (fun z => by obtain ⟨z1, _⟩ := z; unfold uR at z1; omega)
theorem uR_d {a : Nat} (h : (decide (a = 1) || decide (a = 2) || decide (a = 3) || decide (a = 4) || decide (a = 6) || decide (a = 17) || decide (a = 18) || decide (a = 19) || decide (a = 20) || decide (a = 21)) = true) : uR a := by
  unfold uR
  simp only [Bool.or_eq_true, decide_eq_true_eq] at h; omega
/-- the edges -/
def eR (r : Nat → Nat → Nat) (fl u v : Nat) : Prop := u < r 30 0 ∧ v < r 30 0 ∧ (0 < r 7 (20 * u + v) ∨ (0 < fl ∧ 0 < r 8 (20 * u + v) ∧ r 11 (20 * u + v) = 0))
def rrS (r : Nat → Nat → Nat) (fl a : Nat) : Nat → Nat → Prop
  | 0, j => j = a
  | k + 1, j => rrS r fl a k j ∨ (j = k % r 30 0 ∧ rrS r fl a k (k / r 30 0 % r 30 0) ∧ eR r fl (k / r 30 0 % r 30 0) j)
theorem rrS_up {r : Nat → Nat → Nat} {fl a j : Nat} {k : Nat} : ∀ d, rrS r fl a k j → rrS r fl a (k + d) j
  | 0, h => h
  | d + 1, h => Or.inl (rrS_up d h)
theorem rrS_le {r : Nat → Nat → Nat} {fl a j k m : Nat} (hk : k ≤ m) (h : rrS r fl a k j) : rrS r fl a m j := by
  have := rrS_up (m - k) h
  rwa [show k + (m - k) = m by omega] at this
theorem rrS_sound {r : Nat → Nat → Nat} {fl a : Nat} : ∀ k j, rrS r fl a k j → Rch (eR r fl) a j
  | 0, j, h => by rw [show j = a from h]; exact Rch_r a
  | k + 1, j, h => by
    rcases h with h | ⟨_, h2, h3⟩
    · exact rrS_sound k j h
    · exact Rch_s (rrS_sound k _ h2) h3
theorem rrS_lt {r : Nat → Nat → Nat} {fl a : Nat} (ha : a < r 30 0) : ∀ k j, rrS r fl a k j → j < r 30 0
  | 0, j, h => by rw [show j = a from h]; exact ha
  | k + 1, j, h => by
    rcases h with h | ⟨_, _, h3⟩
    · exact rrS_lt ha k j h
    · exact h3.2.1
theorem rr_ix {n t u v : Nat} (hu : u < n) (hv : v < n) : (t * (n * n) + (u * n + v)) % n = v ∧ (t * (n * n) + (u * n + v)) / n % n = u ∧ t * (n * n) + (u * n + v) < (t + 1) * (n * n) := by
  have hn : 0 < n := by omega
  have e : t * (n * n) + (u * n + v) = v + n * (u + n * t) := by
    have h1 : t * (n * n) = n * (n * t) := by rw [Nat.mul_comm t, Nat.mul_assoc]
    have h2 : u * n = n * u := Nat.mul_comm ..
    rw [h1, h2, Nat.mul_add]; omega
  refine ⟨?_, ?_, ?_⟩
  · rw [e, Nat.add_mul_mod_self_left, Nat.mod_eq_of_lt hv]
  · rw [e, Nat.add_mul_div_left _ _ hn, Nat.div_eq_of_lt hv, Nat.zero_add, Nat.add_mul_mod_self_left, Nat.mod_eq_of_lt hu]
  · have h3 : u * n + v < n * n := by
      have : (u + 1) * n ≤ n * n := Nat.mul_le_mul_right n hu
      rw [Nat.add_mul, Nat.one_mul] at this
      omega
    rw [Nat.add_mul, Nat.one_mul]; omega
theorem rrS_fin {r : Nat → Nat → Nat} {fl a b : Nat} (ha : a < r 30 0) : rrS r fl a (r 30 0 * r 30 0 * r 30 0) b ↔ Rch (eR r fl) a b := by
  refine ⟨rrS_sound _ b, fun h => ?_⟩
  generalize hn : r 30 0 = n at *
  obtain ⟨t, ht, hs⟩ := grow_still (S := fun t v => rrS r fl a (t * (n * n)) v) ha (show rrS r fl a (0 * (n * n)) a by rw [Nat.zero_mul]; rfl) (fun t v h => rrS_le (by rw [Nat.add_mul]; omega) h) (fun t v h => by have h9 := rrS_lt (by rw [hn]; exact ha) _ _ h; rw [hn] at h9; exact h9)
  have hc : ∀ u v, rrS r fl a (t * (n * n)) u → eR r fl u v → rrS r fl a (t * (n * n)) v := by
    intro u v hu he
    refine hs v ?_
    have hun : u < n := by have := he.1; omega
    have hvn : v < n := by have := he.2.1; omega
    obtain ⟨i1, i2, i3⟩ := rr_ix (t := t) hun hvn
    refine rrS_le (k := t * (n * n) + (u * n + v) + 1) (by omega) ?_
    refine Or.inr ⟨?_, ?_, ?_⟩
    · rw [hn]; exact i1.symm
    · rw [hn, i2]; exact rrS_le (by omega) hu
    · rw [hn, i2]; exact he
  have hb := h (fun v => rrS r fl a (t * (n * n)) v) (rrS_le (Nat.zero_le _) (show rrS r fl a 0 a from rfl)) hc
  refine rrS_le ?_ hb
  have : t * (n * n) ≤ n * (n * n) := Nat.mul_le_mul_right _ (by omega)
  rw [Nat.mul_assoc]; exact this
theorem eR_cg {r r' : Nat → Nat → Nat} (h : ∀ a i, a ≠ 21 → r' a i = r a i) (fl u v : Nat) : eR r' fl u v ↔ eR r fl u v := by
  unfold eR
  rw [h 30 0 (by decide), h 7 _ (by decide), h 8 _ (by decide), h 11 _ (by decide)]
/-- a unit's readings -/
def exQ (P : Nat → Prop) (n : Nat) : Prop := ∃ v, v < n ∧ P v
def alQ (P : Nat → Prop) (n : Nat) : Prop := ∀ v, v < n → P v
theorem exQ_0 {P : Nat → Prop} : ¬ exQ P 0 := fun ⟨_, h, _⟩ => absurd h (Nat.not_lt_zero _)
theorem exQ_o {P : Nat → Prop} {n : Nat} (h : exQ P n) : exQ P (n + 1) := by obtain ⟨v, h1, h2⟩ := h; exact ⟨v, by omega, h2⟩
theorem exQ_t {P : Nat → Prop} {n : Nat} (h : P n) : exQ P (n + 1) := ⟨n, by omega, h⟩
theorem exQ_f {P : Nat → Prop} {n : Nat} (h : ¬ exQ P n) (h2 : ¬ P n) : ¬ exQ P (n + 1) := fun ⟨v, h3, h4⟩ => by
  rcases Nat.lt_or_ge v n with e | e
  · exact h ⟨v, e, h4⟩
  · exact h2 (by rwa [show n = v by omega])
theorem alQ_0 {P : Nat → Prop} : alQ P 0 := fun _ h => absurd h (Nat.not_lt_zero _)
theorem alQ_t {P : Nat → Prop} {n : Nat} (h : alQ P n) (h2 : P n) : alQ P (n + 1) := fun v h3 => by
  rcases Nat.lt_or_ge v n with e | e
  · exact h v e
  · rwa [show v = n by omega]
theorem alQ_f1 {P : Nat → Prop} {n : Nat} (h : ¬ alQ P n) : ¬ alQ P (n + 1) := fun z => h (fun v hv => z v (by omega))
theorem alQ_f2 {P : Nat → Prop} {n : Nat} (h : ¬ P n) : ¬ alQ P (n + 1) := fun z => h (z n (by omega))
def hLP (r : Nat → Nat → Nat) (u v : Nat) : Prop := 0 < r 7 (20 * u + v) ∧ lostP (r 17) (r 5) v
def awR (r : Nat → Nat → Nat) (u v : Nat) : Prop := (0 < r 7 (20 * u + v) ∧ ¬ metP (r 17) (r 5) v ∧ ¬ lostP (r 17) (r 5) v) ∨ ((0 < r 8 (20 * u + v) ∧ r 11 (20 * u + v) = 0) ∧ ¬ doneP (r 17) v)
def hLR (r : Nat → Nat → Nat) (u : Nat) : Prop := exQ (hLP r u) (r 30 0)
def soR (r : Nat → Nat → Nat) (u : Nat) : Prop := alQ (fun v => ¬ awR r u v) (r 30 0) ∧ ¬ hLR r u
def r_ends (r : Nat → Nat → Nat) (u : Nat) : Nat → Nat → Nat :=
  if r 4 u = 0 then up2 (up2 (up2 r 17 u 2) 2 u ((r 2 u + r 1 u) / 2)) 2 u (if (r 2 u + r 1 u) / 2 < 1 then 1 else (r 2 u + r 1 u) / 2)
  else up2 (up2 (up2 r 4 u (r 4 u - 1)) 17 u (if r 19 u < r 3 u then 0 else 3)) 19 u (r 19 u + (if r 19 u < r 3 u then 1 else 0))
def r_tk (r : Nat → Nat → Nat) (u : Nat) : Nat → Nat → Nat := up2 r 18 u (r 18 u + (if r 17 u = 1 then 1 else 0))
def r_end1 (r : Nat → Nat → Nat) (u : Nat) : Nat → Nat → Nat := if r 17 u = 1 ∧ r 1 u ≤ r 18 u + 1 then r_ends (r_tk r u) u else r_tk r u
def r_endI (r : Nat → Nat → Nat) : Nat → Nat → Nat → Nat
  | 0 => r
  | k + 1 => r_end1 (r_endI r k) k
noncomputable def r_fail1 (r : Nat → Nat → Nat) (u : Nat) : Nat → Nat → Nat := up2 r 17 u (if r 17 u = 0 ∧ bN (hLR r u) = 1 then 3 else r 17 u)
noncomputable def r_failI (r : Nat → Nat → Nat) : Nat → Nat → Nat → Nat
  | 0 => r
  | k + 1 => r_fail1 (r_failI r k) k
noncomputable def r_cnt (r : Nat → Nat → Nat) : Nat := ct (fun w => r 17 w = 1) (r 30 0)
noncomputable def r_st1 (r : Nat → Nat → Nat) (u : Nat) : Nat → Nat → Nat := if r 17 u = 0 ∧ r_cnt r < r 30 14 ∧ bN (soR r u) = 1 then up2 (up2 r 17 u 1) 18 u 0 else r
noncomputable def r_stI (r : Nat → Nat → Nat) : Nat → Nat → Nat → Nat
  | 0 => r
  | k + 1 => r_st1 (r_stI r k) k
def r_part (r : Nat → Nat → Nat) (u : Nat) : Nat := if r 17 u = 2 ∨ r 17 u = 3 then r 20 u else if r 17 u = 1 then (if r 18 u < r 20 u then r 18 u else r 20 u) else 0
def r_its (r : Nat → Nat → Nat) : Nat := if r 30 15 = 0 then 1000 else 1000 * sm (r_part r) (r 30 0) / r 30 15
def r_rs (r : Nat → Nat → Nat) : Nat := if r_its r ≤ r 30 16 then r 30 16 else r_its r
noncomputable def r_t3 (r : Nat → Nat → Nat) : Nat → Nat → Nat := r_stI (r_failI (r_endI r (r 30 0)) (r 30 0)) (r 30 0)
noncomputable def r_tick1 (r : Nat → Nat → Nat) : Nat → Nat → Nat :=
  up2 (up2 (r_t3 r) 30 13 (bN (0 < r_cnt (r_t3 r)))) 30 16 (if bN (0 < r_cnt (r_t3 r)) = 1 then r_rs (up2 (r_t3 r) 30 13 (bN (0 < r_cnt (r_t3 r)))) else 1000)
noncomputable def r_tkI (r : Nat → Nat → Nat) : Nat → Nat → Nat → Nat
  | 0 => r
  | k + 1 => r_tick1 (r_tkI r k)
theorem RU_ends {r : Nat → Nat → Nat} {u : Nat} (h : r 1 u ≤ 100 ∧ r 2 u ≤ 100 ∧ r 3 u ≤ 3 ∧ r 4 u ≤ 10 ∧ r 6 u ≤ 1 ∧ r 18 u ≤ 100 ∧ r 19 u ≤ 3 ∧ r 20 u ≤ 100 ∧ r 21 u ≤ 1) : RU (r_ends r u) u := by
  obtain ⟨h1, h2, h3, h4, h6, h18, h19, h20, h21⟩ := h
  unfold r_ends RU
  split
  · simp only [up2_s, up2_c (show (1 : Nat) ≠ 2 by decide), up2_c (show (1 : Nat) ≠ 17 by decide), up2_c (show (3 : Nat) ≠ 2 by decide), up2_c (show (3 : Nat) ≠ 17 by decide), up2_c (show (4 : Nat) ≠ 2 by decide), up2_c (show (4 : Nat) ≠ 17 by decide), up2_c (show (6 : Nat) ≠ 2 by decide), up2_c (show (6 : Nat) ≠ 17 by decide), up2_c (show (17 : Nat) ≠ 2 by decide), up2_c (show (18 : Nat) ≠ 2 by decide), up2_c (show (18 : Nat) ≠ 17 by decide), up2_c (show (19 : Nat) ≠ 2 by decide), up2_c (show (19 : Nat) ≠ 17 by decide), up2_c (show (20 : Nat) ≠ 2 by decide), up2_c (show (20 : Nat) ≠ 17 by decide), up2_c (show (21 : Nat) ≠ 2 by decide), up2_c (show (21 : Nat) ≠ 17 by decide)]
    refine ⟨h1, ?_, h3, h4, h6, by decide, h18, fun z => absurd z (by decide), h19, h20, h21⟩
    split <;> omega
  · simp only [up2_s, up2_c (show (1 : Nat) ≠ 19 by decide), up2_c (show (1 : Nat) ≠ 17 by decide), up2_c (show (1 : Nat) ≠ 4 by decide), up2_c (show (2 : Nat) ≠ 19 by decide), up2_c (show (2 : Nat) ≠ 17 by decide), up2_c (show (2 : Nat) ≠ 4 by decide), up2_c (show (3 : Nat) ≠ 19 by decide), up2_c (show (3 : Nat) ≠ 17 by decide), up2_c (show (3 : Nat) ≠ 4 by decide), up2_c (show (4 : Nat) ≠ 19 by decide), up2_c (show (4 : Nat) ≠ 17 by decide), up2_c (show (6 : Nat) ≠ 19 by decide), up2_c (show (6 : Nat) ≠ 17 by decide), up2_c (show (6 : Nat) ≠ 4 by decide), up2_c (show (17 : Nat) ≠ 19 by decide), up2_c (show (18 : Nat) ≠ 19 by decide), up2_c (show (18 : Nat) ≠ 17 by decide), up2_c (show (18 : Nat) ≠ 4 by decide), up2_c (show (20 : Nat) ≠ 19 by decide), up2_c (show (20 : Nat) ≠ 17 by decide), up2_c (show (20 : Nat) ≠ 4 by decide), up2_c (show (21 : Nat) ≠ 19 by decide), up2_c (show (21 : Nat) ≠ 17 by decide), up2_c (show (21 : Nat) ≠ 4 by decide)]
    split <;> omega
theorem Ofr_ends {r r' : Nat → Nat → Nat} {u : Nat} (h : Ofr r r' u) : Ofr r (r_ends r' u) u := by
  unfold r_ends
  split
  · exact Ofr_up (Ofr_up (Ofr_up h (uR_d rfl)) (uR_d rfl)) (uR_d rfl)
  · exact Ofr_up (Ofr_up (Ofr_up h (uR_d rfl)) (uR_d rfl)) (uR_d rfl)
theorem Ofr_end1 (r : Nat → Nat → Nat) (u : Nat) : Ofr r (r_end1 r u) u := by
  unfold r_end1
  split
  · exact Ofr_ends (Ofr_up Ofr_r (uR_d rfl))
  · exact Ofr_up Ofr_r (uR_d rfl)
theorem Ofr_fail1 (r : Nat → Nat → Nat) (u : Nat) : Ofr r (r_fail1 r u) u := Ofr_up Ofr_r (uR_d rfl)
theorem Ofr_st1 (r : Nat → Nat → Nat) (u : Nat) : Ofr r (r_st1 r u) u := by
  unfold r_st1
  split
  · exact Ofr_up (Ofr_up Ofr_r (uR_d rfl)) (uR_d rfl)
  · exact Ofr_r
theorem RU_tk {r : Nat → Nat → Nat} {u : Nat} (h : RU r u) : (r_tk r u) 1 u ≤ 100 ∧ (r_tk r u) 2 u ≤ 100 ∧ (r_tk r u) 3 u ≤ 3 ∧ (r_tk r u) 4 u ≤ 10 ∧ (r_tk r u) 6 u ≤ 1 ∧ (r_tk r u) 18 u ≤ 100 ∧ (r_tk r u) 19 u ≤ 3 ∧ (r_tk r u) 20 u ≤ 100 ∧ (r_tk r u) 21 u ≤ 1 := by
  obtain ⟨u1, u2, u3, u4, u5, u6, u7, u8, u9, u10, u11⟩ := h
  unfold r_tk
  simp only [up2_s, up2_c (show (1 : Nat) ≠ 18 by decide), up2_c (show (2 : Nat) ≠ 18 by decide), up2_c (show (3 : Nat) ≠ 18 by decide), up2_c (show (4 : Nat) ≠ 18 by decide), up2_c (show (6 : Nat) ≠ 18 by decide), up2_c (show (19 : Nat) ≠ 18 by decide), up2_c (show (20 : Nat) ≠ 18 by decide), up2_c (show (21 : Nat) ≠ 18 by decide)]
  refine ⟨u1, u2, u3, u4, u5, ?_, u9, u10, u11⟩
  split <;> omega
theorem IR_end1 {r : Nat → Nat → Nat} (h : IR r) (u : Nat) : IR (r_end1 r u) := by
  refine IR_unit h (Ofr_end1 r u) ?_
  have hu := IR_U h u
  unfold r_end1
  split
  · exact RU_ends (RU_tk hu)
  · rename_i hc
    have ht := RU_tk hu
    obtain ⟨u1, u2, u3, u4, u5, u6, u7, u8, u9, u10, u11⟩ := hu
    obtain ⟨t1, t2, t3, t4, t5, t6, t7, t8, t9⟩ := ht
    have e17 : (r_tk r u) 17 u = r 17 u := up2_c (by decide)
    have e18 : (r_tk r u) 18 u = r 18 u + (if r 17 u = 1 then 1 else 0) := up2_s ..
    refine ⟨t1, t2, t3, t4, t5, by rw [e17]; exact u6, t6, fun z => ?_, t7, t8, t9⟩
    rw [e17] at z
    rw [e18, if_pos z]
    have := u8 z
    have : ¬ r 1 u ≤ r 18 u + 1 := fun q => hc ⟨z, q⟩
    omega
theorem IR_endI {r : Nat → Nat → Nat} (h : IR r) : ∀ k, IR (r_endI r k)
  | 0 => h
  | k + 1 => IR_end1 (IR_endI h k) k
theorem IR_fail1 {r : Nat → Nat → Nat} (h : IR r) (u : Nat) : IR (r_fail1 r u) := by
  refine IR_unit h (Ofr_fail1 r u) ?_
  obtain ⟨u1, u2, u3, u4, u5, u6, u7, u8, u9, u10, u11⟩ := IR_U h u
  unfold r_fail1 RU
  simp only [up2_s, up2_c (show (1 : Nat) ≠ 17 by decide), up2_c (show (2 : Nat) ≠ 17 by decide), up2_c (show (3 : Nat) ≠ 17 by decide), up2_c (show (4 : Nat) ≠ 17 by decide), up2_c (show (6 : Nat) ≠ 17 by decide), up2_c (show (18 : Nat) ≠ 17 by decide), up2_c (show (19 : Nat) ≠ 17 by decide), up2_c (show (20 : Nat) ≠ 17 by decide), up2_c (show (21 : Nat) ≠ 17 by decide)]
  split <;> omega
theorem IR_failI {r : Nat → Nat → Nat} (h : IR r) : ∀ k, IR (r_failI r k)
  | 0 => h
  | k + 1 => IR_fail1 (IR_failI h k) k
theorem IR_st1 {r : Nat → Nat → Nat} (h : IR r) (u : Nat) : IR (r_st1 r u) := by
  refine IR_unit h (Ofr_st1 r u) ?_
  have hu := IR_U h u
  obtain ⟨u1, u2, u3, u4, u5, u6, u7, u8, u9, u10, u11⟩ := id hu
  unfold r_st1
  split
  · unfold RU
    simp only [up2_s, up2_c (show (1 : Nat) ≠ 18 by decide), up2_c (show (2 : Nat) ≠ 18 by decide), up2_c (show (3 : Nat) ≠ 18 by decide), up2_c (show (4 : Nat) ≠ 18 by decide), up2_c (show (6 : Nat) ≠ 18 by decide), up2_c (show (17 : Nat) ≠ 18 by decide), up2_c (show (19 : Nat) ≠ 18 by decide), up2_c (show (20 : Nat) ≠ 18 by decide), up2_c (show (21 : Nat) ≠ 18 by decide), up2_c (show (1 : Nat) ≠ 17 by decide), up2_c (show (2 : Nat) ≠ 17 by decide), up2_c (show (3 : Nat) ≠ 17 by decide), up2_c (show (4 : Nat) ≠ 17 by decide), up2_c (show (6 : Nat) ≠ 17 by decide), up2_c (show (19 : Nat) ≠ 17 by decide), up2_c (show (20 : Nat) ≠ 17 by decide), up2_c (show (21 : Nat) ≠ 17 by decide)]
    omega
  · exact hu
theorem IR_stI {r : Nat → Nat → Nat} (h : IR r) : ∀ k, IR (r_stI r k)
  | 0 => h
  | k + 1 => IR_st1 (IR_stI h k) k
theorem rendI_n (r : Nat → Nat → Nat) (a i : Nat) (ha : a = 5 ∨ a = 7 ∨ a = 8 ∨ a = 9 ∨ a = 11 ∨ 21 < a) : ∀ k, r_endI r k a i = r a i
  | 0 => rfl
  | k + 1 => (Ofr_n (Ofr_end1 _ k) a i ha).trans (rendI_n r a i ha k)
theorem rfailI_n (r : Nat → Nat → Nat) (a i : Nat) (ha : a = 5 ∨ a = 7 ∨ a = 8 ∨ a = 9 ∨ a = 11 ∨ 21 < a) : ∀ k, r_failI r k a i = r a i
  | 0 => rfl
  | k + 1 => (Ofr_n (Ofr_fail1 _ k) a i ha).trans (rfailI_n r a i ha k)
theorem rstI_n (r : Nat → Nat → Nat) (a i : Nat) (ha : a = 5 ∨ a = 7 ∨ a = 8 ∨ a = 9 ∨ a = 11 ∨ 21 < a) : ∀ k, r_stI r k a i = r a i
  | 0 => rfl
  | k + 1 => (Ofr_n (Ofr_st1 _ k) a i ha).trans (rstI_n r a i ha k)
theorem t3_n (r : Nat → Nat → Nat) (a i : Nat) (ha : a = 5 ∨ a = 7 ∨ a = 8 ∨ a = 9 ∨ a = 11 ∨ 21 < a) : r_t3 r a i = r a i := (rstI_n _ a i ha _).trans ((rfailI_n _ a i ha _).trans (rendI_n r a i ha _))
theorem IR_t3 {r : Nat → Nat → Nat} (h : IR r) : IR (r_t3 r) := IR_stI (IR_failI (IR_endI h _) _) _
/-- an int of the model -/
def rOk (k v : Nat) : Prop := (k = 10 ∧ v ≤ 100000) ∨ (k = 12 ∧ v ≤ 1) ∨ (k = 13 ∧ v ≤ 1) ∨ (k = 14 ∧ v ≤ 20) ∨ (k = 15 ∧ v ≤ 2000) ∨ (k = 16 ∧ v ≤ 2000000) ∨ (k = 22 ∧ v ≤ 3)
theorem IR_obj {r : Nat → Nat → Nat} {k v : Nat} (h : IR r) (hk : rOk k v) : IR (up2 r 30 k v) := by
  obtain ⟨h1, h2, h3, h4, h5⟩ := h
  have k0 : ∀ a i, a ≠ 30 → up2 r 30 k v a i = r a i := fun a i ha => up2_c ha
  have hv : v < 2 ^ 31 := by unfold rOk at hk; omega
  have hk0 : k ≠ 0 := by unfold rOk at hk; omega
  refine ⟨?_, fun u => ?_, fun e => ?_, ?_, fun u => ?_⟩
  · intro a i ha
    unfold up2
    split
    · exact hv
    · exact h1 a i ha
  · unfold RU
    simp only [k0 _ _ (show (1 : Nat) ≠ 30 by decide), k0 _ _ (show (2 : Nat) ≠ 30 by decide), k0 _ _ (show (3 : Nat) ≠ 30 by decide), k0 _ _ (show (4 : Nat) ≠ 30 by decide), k0 _ _ (show (6 : Nat) ≠ 30 by decide), k0 _ _ (show (17 : Nat) ≠ 30 by decide), k0 _ _ (show (18 : Nat) ≠ 30 by decide), k0 _ _ (show (19 : Nat) ≠ 30 by decide), k0 _ _ (show (20 : Nat) ≠ 30 by decide), k0 _ _ (show (21 : Nat) ≠ 30 by decide)]
    exact h2 u
  · unfold RE
    simp only [k0 _ _ (show (7 : Nat) ≠ 30 by decide), k0 _ _ (show (8 : Nat) ≠ 30 by decide), k0 _ _ (show (11 : Nat) ≠ 30 by decide)]
    exact h3 e
  · unfold RO at h4 ⊢
    unfold rOk at hk
    rcases hk with ⟨rfl, z⟩ | ⟨rfl, z⟩ | ⟨rfl, z⟩ | ⟨rfl, z⟩ | ⟨rfl, z⟩ | ⟨rfl, z⟩ | ⟨rfl, z⟩ <;> simp [up2] <;> omega
  · rw [k0 5 u (by decide)]
    exact h5 u
theorem rpart_le {r : Nat → Nat → Nat} (h : IR r) (u : Nat) : r_part r u ≤ 100 := by
  obtain ⟨u1, u2, u3, u4, u5, u6, u7, u8, u9, u10, u11⟩ := IR_U h u
  unfold r_part
  split
  · omega
  · split
    · split <;> omega
    · omega
theorem its_le {r : Nat → Nat → Nat} (h : IR r) : r_its r ≤ 2000000 := by
  unfold r_its
  split
  · omega
  · have h1 : sm (r_part r) (r 30 0) ≤ r 30 0 * 100 := sm_le (fun i _ => rpart_le h i)
    have h2 := IR_n h
    exact Nat.le_trans (Nat.div_le_self _ _) (by omega)
theorem rs_le {r : Nat → Nat → Nat} (h : IR r) : r_rs r ≤ 2000000 := by
  have h1 := its_le h
  obtain ⟨_, _, _, _, _, _, o7, _⟩ := IR_O h
  unfold r_rs
  split <;> omega
theorem IR_tick1 {r : Nat → Nat → Nat} (h : IR r) : IR (r_tick1 r) := by
  unfold r_tick1
  have h1 : IR (up2 (r_t3 r) 30 13 (bN (0 < r_cnt (r_t3 r)))) := IR_obj (IR_t3 h) (Or.inr (Or.inr (Or.inl ⟨rfl, bN_le _⟩)))
  refine IR_obj h1 (Or.inr (Or.inr (Or.inr (Or.inr (Or.inr (Or.inl ⟨rfl, ?_⟩))))))
  split
  · exact rs_le h1
  · decide
theorem IR_tkI {r : Nat → Nat → Nat} (h : IR r) : ∀ k, IR (r_tkI r k)
  | 0 => h
  | k + 1 => IR_tick1 (IR_tkI h k)
/-- canRun -/
def hasP (r : Nat → Nat → Nat) (S : Nat → Prop) (v : Nat) : Prop := S v ∨ (r 5 v ≠ 0 ∧ S (r 5 v - 1))
def cnP (r : Nat → Nat → Nat) (u : Nat) (S : Nat → Prop) (i : Nat) : Prop := (r 6 u = 0 ∧ r 4 u ≤ r 3 u) ∧ alQ (fun v => r 7 (20 * u + v) = 0 ∨ hasP r S v) i
theorem bit1 {f v : Nat} : (f / 2 ^ v) &&& 1 = 1 ↔ f.testBit v = true := by
  rw [Nat.testBit, Nat.shiftRight_eq_div_pow, Nat.and_comm 1]
  have : (f / 2 ^ v) &&& 1 < 2 ^ 1 := Nat.and_lt_two_pow _ (by decide)
  constructor
  · intro h; rw [h]; rfl
  · intro h
    have h2 : (f / 2 ^ v) &&& 1 ≠ 0 := by simpa using h
    omega
/-- the weakest wish of a loop: 0 none, e + 1 -/
def wkP (r : Nat → Nat → Nat) (k f : Nat) : Prop := 0 < r 8 (20 * (k / r 30 0) + k % r 30 0) ∧ r 11 (20 * (k / r 30 0) + k % r 30 0) = 0 ∧ (f = 0 ∨ r 8 (20 * (k / r 30 0) + k % r 30 0) < r 8 (f - 1) ∨ (r 8 (20 * (k / r 30 0) + k % r 30 0) = r 8 (f - 1) ∧ r 9 (20 * (k / r 30 0) + k % r 30 0) < r 9 (f - 1))) ∧ Rch (eR r 1) (k % r 30 0) (k / r 30 0)
noncomputable def wkI (r : Nat → Nat → Nat) : Nat → Nat
  | 0 => 0
  | k + 1 => if bN (wkP r k (wkI r k)) = 1 then 20 * (k / r 30 0) + k % r 30 0 + 1 else wkI r k
noncomputable def wkR (r : Nat → Nat → Nat) : Nat := wkI r (r 30 0 * r 30 0)
theorem wkP_cg {r r' : Nat → Nat → Nat} (h : ∀ a i, a ≠ 21 → r' a i = r a i) (k f : Nat) : wkP r' k f ↔ wkP r k f := by
  unfold wkP
  rw [h 30 0 (by decide), h 8 _ (by decide), h 11 _ (by decide), h 8 _ (by decide), h 9 _ (by decide), h 9 _ (by decide), Rch_cg (eR_cg h 1)]
theorem wkI_cg {r r' : Nat → Nat → Nat} (h : ∀ a i, a ≠ 21 → r' a i = r a i) : ∀ k, wkI r' k = wkI r k
  | 0 => rfl
  | k + 1 => by rw [wkI, wkI, wkI_cg h k, h 30 0 (by decide), bN_c (wkP_cg h k _)]
theorem wkR_cg {r r' : Nat → Nat → Nat} (h : ∀ a i, a ≠ 21 → r' a i = r a i) : wkR r' = wkR r := by
  unfold wkR
  rw [h 30 0 (by decide), wkI_cg h]
theorem wkI_t {r : Nat → Nat → Nat} {k : Nat} (h : wkP r k (wkI r k)) : wkI r (k + 1) = 20 * (k / r 30 0) + k % r 30 0 + 1 := by rw [wkI, if_pos (bN_t h)]
theorem wkI_f {r : Nat → Nat → Nat} {k : Nat} (h : ¬ wkP r k (wkI r k)) : wkI r (k + 1) = wkI r k := by rw [wkI, if_neg (by rw [bN_f h]; decide)]
theorem dm_lt {n k : Nat} (hk : k < n * n) (hn : n ≤ 20) : k / n < n ∧ k % n < n ∧ 20 * (k / n) + k % n < 400 := by
  have h0 : 0 < n := by rcases Nat.eq_zero_or_pos n with e | e; subst e; omega; exact e
  have h1 : k / n < n := Nat.div_lt_of_lt_mul hk
  have h2 : k % n < n := Nat.mod_lt _ h0
  exact ⟨h1, h2, by omega⟩
theorem wkI_le {r : Nat → Nat → Nat} (hn : r 30 0 ≤ 20) : ∀ k, k ≤ r 30 0 * r 30 0 → wkI r k ≤ 400
  | 0, _ => Nat.zero_le _
  | k + 1, hk => by
    have := dm_lt (n := r 30 0) (k := k) (by omega) hn
    have h2 := wkI_le hn k (by omega)
    rw [wkI]
    split <;> omega
theorem IR_off {r r' : Nat → Nat → Nat} (h : IR r) (hk : ∀ a i, a ≠ 21 → r' a i = r a i) (h1 : ∀ i, r' 21 i ≤ 1) : IR r' := by
  obtain ⟨z1, z2, z3, z4, z5⟩ := h
  refine ⟨?_, fun u => ?_, fun e => ?_, ?_, fun u => ?_⟩
  · intro a i ha
    by_cases e : a = 21
    · subst e; exact Nat.lt_of_le_of_lt (h1 i) (by decide)
    · rw [hk a i e]; exact z1 a i ha
  · obtain ⟨u1, u2, u3, u4, u5, u6, u7, u8, u9, u10, u11⟩ := z2 u
    unfold RU
    rw [hk 1 u (by decide), hk 2 u (by decide), hk 3 u (by decide), hk 4 u (by decide), hk 6 u (by decide), hk 17 u (by decide), hk 18 u (by decide), hk 19 u (by decide), hk 20 u (by decide)]
    exact ⟨u1, u2, u3, u4, u5, u6, u7, u8, u9, u10, h1 u⟩
  · have := z3 e
    unfold RE at this ⊢
    rw [hk 7 e (by decide), hk 8 e (by decide), hk 11 e (by decide)]
    exact this
  · unfold RO at z4 ⊢
    rw [hk 30 0 (by decide), hk 30 10 (by decide), hk 30 12 (by decide), hk 30 13 (by decide), hk 30 14 (by decide), hk 30 15 (by decide), hk 30 16 (by decide), hk 30 22 (by decide)]
    exact z4
  · rw [hk 5 u (by decide)]
    exact z5 u
theorem IR_E11 {r : Nat → Nat → Nat} {e v : Nat} (h : IR r) (hv : v ≤ 1) : IR (up2 r 11 e v) := by
  obtain ⟨z1, z2, z3, z4, z5⟩ := h
  have k0 : ∀ a i, a ≠ 11 → up2 r 11 e v a i = r a i := fun a i ha => up2_c ha
  refine ⟨?_, fun u => ?_, fun w => ?_, ?_, fun u => ?_⟩
  · intro a i ha
    unfold up2
    split
    · omega
    · exact z1 a i ha
  · unfold RU
    rw [k0 1 u (by decide), k0 2 u (by decide), k0 3 u (by decide), k0 4 u (by decide), k0 6 u (by decide), k0 17 u (by decide), k0 18 u (by decide), k0 19 u (by decide), k0 20 u (by decide), k0 21 u (by decide)]
    exact z2 u
  · have := z3 w
    unfold RE at this ⊢
    rw [k0 7 w (by decide), k0 8 w (by decide)]
    refine ⟨this.1, this.2.1, ?_⟩
    unfold up2
    split
    · exact hv
    · exact this.2.2
  · unfold RO at z4 ⊢
    rw [k0 30 0 (by decide), k0 30 10 (by decide), k0 30 12 (by decide), k0 30 13 (by decide), k0 30 14 (by decide), k0 30 15 (by decide), k0 30 16 (by decide), k0 30 22 (by decide)]
    exact z4
  · rw [k0 5 u (by decide)]
    exact z5 u
