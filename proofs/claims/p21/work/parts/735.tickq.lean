/-! what the law's tick looks at -/
theorem BR_up {r : Nat → Nat → Nat} {a i v : Nat} (h : BR r) (hv : v < 2 ^ 31) : BR (up2 r a i v) := fun b j hb => by
  unfold up2
  split
  · exact hv
  · exact h b j hb
theorem fillR {c r : Nat → Nat → Nat} {i : Nat} (hi : i < 8) (h : ∀ k, k < i → r 3 k = c 9 k ∧ r 3 (8 + k) = c 4 k ∧ r 3 (16 + k) = c 3 k) : ∀ k, k < i + 1 → up2 (up2 (up2 r 3 i (c 9 i)) 3 (8 + i) (c 4 i)) 3 (16 + i) (c 3 i) 3 k = c 9 k ∧ up2 (up2 (up2 r 3 i (c 9 i)) 3 (8 + i) (c 4 i)) 3 (16 + i) (c 3 i) 3 (8 + k) = c 4 k ∧ up2 (up2 (up2 r 3 i (c 9 i)) 3 (8 + i) (c 4 i)) 3 (16 + i) (c 3 i) 3 (16 + k) = c 3 k := fun k hk => by
  rcases Nat.lt_or_ge k i with e | e
  · obtain ⟨a, b, d⟩ := h k e
    refine ⟨?_, ?_, ?_⟩
    · rw [up2_i (by omega), up2_i (by omega), up2_i (by omega)]; exact a
    · rw [up2_i (by omega), up2_i (by omega), up2_i (by omega)]; exact b
    · rw [up2_i (by omega), up2_i (by omega), up2_i (by omega)]; exact d
  · have e2 : k = i := by omega
    subst e2
    refine ⟨?_, ?_, ?_⟩
    · rw [up2_i (by omega), up2_i (by omega), up2_s]
    · rw [up2_i (by omega), up2_s]
    · rw [up2_s]
/-- the bar behind a tick -/
def itsV (C : Nat → Nat → Nat) (n : Nat) : Nat := if C 20 5 = 0 then 1000 else 1000 * sm (c_part C) n / C 20 5
theorem bar_fin {c C : Nat → Nat → Nat} (hC : C = c_tick1 c) (hb : c 20 6 ≤ 1000) : (¬ 0 < c_cnt C → C 20 6 = 1000) ∧ (0 < c_cnt C → itsV C (C 20 1) < c 20 6 → C 20 6 = c 20 6) ∧ (0 < c_cnt C → ¬ itsV C (C 20 1) < c 20 6 → C 20 6 = itsV C (C 20 1)) := by
  have h6 := tk1_6 c
  have h3 := tk1_3 c
  have e5 := tk1_20 c (i := 5) (by decide) (by decide)
  have e1 := tk1_20 c (i := 1) (by decide) (by decide)
  rw [← hC] at h6 h3 e5 e1
  have hk : 0 < c_cnt C → C 20 6 = max (c 20 6) (itsV C (C 20 1)) := by
    intro h
    rw [bN_t h] at h3
    rw [h6]
    unfold itsV
    by_cases z : c 20 5 = 0
    · rw [if_neg (by omega), if_pos (by omega)]
    · rw [if_pos ⟨by omega, by omega⟩, if_neg (by omega), e5, e1]
  refine ⟨fun h => ?_, fun h h2 => ?_, fun h h2 => ?_⟩
  · rw [bN_f h] at h3
    rw [h6, if_neg (fun z => z.1 h3)]
    exact Nat.max_eq_right hb
  · rw [hk h]; exact Nat.max_eq_left (Nat.le_of_lt h2)
  · rw [hk h]; exact Nat.max_eq_right (Nat.not_lt.mp h2)
theorem part100 {C : Nat → Nat → Nat} (hI : IC C) (u : Nat) : c_part C u ≤ 100 := by
  obtain ⟨u1, u2, u3, u4, u5, u6, u7, u8, u9, u10, u11⟩ := IC_U hI u
  unfold c_part
  split
  · exact u11
  · split
    · exact Nat.le_trans (Nat.min_le_right _ _) u11
    · exact Nat.zero_le _
theorem part_sm {C : Nat → Nat → Nat} (hI : IC C) {n : Nat} (hn : n ≤ 20) : sm (c_part C) n ≤ 2000 := by
  have := sm_le (f := c_part C) (k := 100) (n := n) (fun i _ => part100 hI i)
  omega
theorem lsp_ex {C : Nat → Nat → Nat} {u n : Nat} (h : ∃ v, v < n ∧ LSP C u v) : exQ (fun v => (C 7 u).testBit v = true ∧ lostP (C 9) (C 6) v) n := h
theorem opn {c C : Nat → Nat → Nat} (hI : IC c) (hC : C = c_tick1 c) {j : Nat} (hj : j < C 20 1) (h0 : C 9 j = 0) (hc : c_cnt C < c 20 4) (hw : ¬ (0 : Int32) ≤ siI (if C 9 j = 0 then fP (awC C j) (C 20 1) else 0)) : exQ (fun v => (C 7 j).testBit v = true ∧ lostP (C 9) (C 6) v) (C 20 1) := by
  have e1 : C 20 1 = c 20 1 := by rw [hC]; exact tk1_20 c (by decide) (by decide)
  subst hC
  rw [if_pos h0] at hw
  rcases tick_open hI (by omega) h0 hc with ⟨v, h1, h2⟩ | h
  · exfalso
    have hz : fP (awC (c_tick1 c) j) (c_tick1 c 20 1) ≠ 0 := fun z => fP_no z v (by omega) h2
    obtain ⟨k, hk⟩ : ∃ k, fP (awC (c_tick1 c) j) (c_tick1 c 20 1) = k + 1 := ⟨fP (awC (c_tick1 c) j) (c_tick1 c 20 1) - 1, by omega⟩
    rw [hk, siI_s] at hw
    have hl := (fP_lt hk).1
    have hn := IC_n hI
    exact hw (nI_ge0 (by omega))
  · obtain ⟨v, h1, h2⟩ := h
    exact ⟨v, by omega, h2⟩
