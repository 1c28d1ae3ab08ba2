/-! what the law's own loop needs -/
theorem LI_ar {c r ρ : Nat → Nat → Nat} {q : Nat} (h : LI c r ρ q) (hq : q ≤ 8000) : IC c ∧ c 20 1 ≤ 8 ∧ (∀ v, v < c 20 1 → r 12 v = c 6 v) ∧ (∀ u, u < c 20 1 → r 14 u = c 7 u) ∧ BR r ∧ (∀ u v, u < c 20 1 → v < c 20 1 → (wun r (8 * u + v) ↔ (c 8 u).testBit v = true)) ∧ c 20 6 ≤ 1000 ∧ (∀ u, u < c 20 1 → r 13 u = c 5 u) ∧ (∀ u, u < c 20 1 → r 11 u = c 2 u) ∧ c 30 0 ≤ q := by
  have hw := LI_hw h hq
  obtain ⟨hV, h8, hB, hL, hG, hM, hC⟩ := h
  exact ⟨hV.1, h8, fun v hv => (hG.2 v hv).2.2.1, fun u hu => (hG.1 u (by omega)).2.1, hB, hw, hV.2.2.1.2.2.2.2.2.2.1, fun u hu => (hG.1 u (by omega)).1, fun u hu => (hG.2 u hu).2.1, hV.2.2.2⟩
theorem LI_tk {c r ρ : Nat → Nat → Nat} {q : Nat} (h : LI c r ρ q) (hg : c 20 3 ≠ 0) : c_cnt c ≤ c 20 4 ∧ (∀ u, u < c 20 1 → r 10 u = c 1 u ∧ r 11 u = c 2 u ∧ r 16 u = c 11 u ∧ r 17 u = c 12 u ∧ (c 9 u = 1 → r 15 u = c 10 u)) ∧ (r 4 0 = c 20 4 ∧ r 4 1 = c 20 5) := by
  obtain ⟨hV, h8, hB, hL, hG, hM, hC⟩ := h
  refine ⟨hC hg, fun u hu => ⟨(hG.2 u hu).1, (hG.2 u hu).2.1, (hG.1 u (by omega)).2.2.1, (hG.1 u (by omega)).2.2.2, (hG.2 u hu).2.2.2⟩, hM.1, hM.2.1⟩
theorem oth_ne {n k t : Nat} (hk : k < n) (ht : t < n - 1) : (k + 1 + t) % n < n ∧ (k + 1 + t) % n ≠ k := by
  refine ⟨Nat.mod_lt _ (by omega), ?_⟩
  rcases Nat.lt_or_ge (k + 1 + t) n with z | z
  · rw [Nat.mod_eq_of_lt z]; omega
  · rw [Nat.mod_eq_sub_mod z, Nat.mod_eq_of_lt (by omega)]; omega
/-- the law's books at the start -/
def b00 : Nat → Nat → Nat := fun a _ => if a = 12 then 1 else 0
theorem b00_0 (a i : Nat) (h : a ≠ 12) : b00 a i = 0 := by unfold b00; rw [if_neg h]
