/-! WHAT CAN RUN, AND WHAT IS AWAITED, as the class finds them -/
noncomputable def keepS (c : Nat → Nat → Nat) (f : Nat) : Nat := mk (fun u => f.testBit u = true ∧ anN (c 7 u) (f ||| mk (fun w => c 6 w ≠ 0 ∧ f.testBit (c 6 w - 1) = true) (c 20 1)) = 0) (c 20 1)
noncomputable def kpI (c : Nat → Nat → Nat) : Nat → Nat
  | 0 => mk (fun w => c 5 w = 0 ∧ c 4 w ≤ c 2 w) (c 20 1)
  | i + 1 => keepS c (kpI c i)
noncomputable def kpB (c : Nat → Nat → Nat) : Nat → Nat
  | 0 => 0
  | i + 1 => kpI c i
noncomputable def canC (c : Nat → Nat → Nat) : Nat := kpI c (c 20 1 + 1)
theorem kpI_lt {c : Nat → Nat → Nat} (hn : c 20 1 ≤ 20) : ∀ i, kpI c i < 2 ^ 20
  | 0 => p20 (mk_lt _) hn
  | _ + 1 => p20 (mk_lt _) hn
theorem kpB_lt {c : Nat → Nat → Nat} (hn : c 20 1 ≤ 20) : ∀ i, kpB c i < 2 ^ 20
  | 0 => (by decide : (0 : Nat) < 2 ^ 20)
  | i + 1 => kpI_lt hn i
theorem keepS_0 (c : Nat → Nat → Nat) : keepS c 0 = 0 := by
  apply Nat.eq_of_testBit_eq
  intro i
  rw [Nat.zero_testBit]
  cases h : (keepS c 0).testBit i
  · rfl
  · have h1 := (mk_bit.mp h).2.1
    rw [Nat.zero_testBit] at h1
    cases h1
theorem keepS_sub {c : Nat → Nat → Nat} {f v : Nat} (h : (keepS c f).testBit v = true) : f.testBit v = true := (mk_bit.mp h).2.1
theorem kpI_const {c : Nat → Nat → Nat} {i : Nat} (h : keepS c (kpI c i) = kpI c i) : ∀ k, kpI c (i + k) = kpI c i
  | 0 => rfl
  | k + 1 => by
    show keepS c (kpI c (i + k)) = _
    rw [kpI_const h k]
    exact h
theorem canC_still (c : Nat → Nat → Nat) : keepS c (canC c) = canC c := by
  have h1 := grow_still (S := fun t v => v < c 20 1 + 1 ∧ (v = c 20 1 ∨ ¬ (kpI c t).testBit v = true)) (n := c 20 1 + 1) (a := c 20 1) (by omega) ⟨by omega, Or.inl rfl⟩
    (fun t v h => ⟨h.1, h.2.elim Or.inl (fun z => Or.inr (fun z2 => z (keepS_sub z2)))⟩) (fun t v h => h.1)
  obtain ⟨t, ht, hs⟩ := h1
  have e : keepS c (kpI c t) = kpI c t := by
    apply Nat.eq_of_testBit_eq
    intro v
    cases h2 : (kpI c t).testBit v
    · cases h3 : (keepS c (kpI c t)).testBit v
      · rfl
      · rw [keepS_sub h3] at h2; cases h2
    · have hv : v < c 20 1 := by
        cases t with
        | zero => exact (mk_bit.mp h2).1
        | succ t => exact (mk_bit.mp h2).1
      cases h3 : (keepS c (kpI c t)).testBit v
      · have h4 := hs v ⟨by omega, Or.inr (fun z => by rw [show kpI c (t + 1) = keepS c (kpI c t) from rfl, h3] at z; cases z)⟩
        rcases h4.2 with z | z
        · omega
        · exact absurd h2 z
      · rfl
  have h5 := kpI_const e (c 20 1 + 1 - t)
  rw [show t + (c 20 1 + 1 - t) = c 20 1 + 1 by omega] at h5
  show keepS c (kpI c (c 20 1 + 1)) = kpI c (c 20 1 + 1)
  rw [h5]
  exact e
theorem canC_fin {c : Nat → Nat → Nat} {i : Nat} (h : c 20 1 < i ∨ kpI c i = kpB c i) : kpI c i = canC c := by
  rcases h with h | h
  · have e := kpI_const (c := c) (i := c 20 1 + 1) (canC_still c) (i - (c 20 1 + 1))
    rw [show c 20 1 + 1 + (i - (c 20 1 + 1)) = i by omega] at e
    exact e
  · have e : keepS c (kpI c i) = kpI c i := by
      cases i with
      | zero => rw [h]; exact keepS_0 c
      | succ j =>
        have h2 : keepS c (kpI c j) = kpI c j := h
        show keepS c (keepS c (kpI c j)) = keepS c (kpI c j)
        rw [h2, h2]
    rcases Nat.le_total i (c 20 1 + 1) with hl | hl
    · have e2 := kpI_const e (c 20 1 + 1 - i)
      rw [show i + (c 20 1 + 1 - i) = c 20 1 + 1 by omega] at e2
      exact e2.symm
    · have e2 := kpI_const (c := c) (i := c 20 1 + 1) (canC_still c) (i - (c 20 1 + 1))
      rw [show c 20 1 + 1 + (i - (c 20 1 + 1)) = i by omega] at e2
      exact e2
/-- u waits for v -/
def awC (c : Nat → Nat → Nat) (u v : Nat) : Prop := ((c 7 u).testBit v = true ∧ ¬ metP (c 9) (c 6) v ∧ ¬ lostP (c 9) (c 6) v) ∨ ((c 8 u).testBit v = true ∧ ¬ doneP (c 9) v)
