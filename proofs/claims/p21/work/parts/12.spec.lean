/-! WHAT THE SYSTEM'S WORDS MEAN, over states st (2 READY, 3 FAILED, 4 HELD) and stand-ins sb (0: none, v + 1: v) -/
def goneP (st : Nat → Nat) (u : Nat) : Prop := st u = 3 ∨ st u = 4
def metP (st sb : Nat → Nat) (u : Nat) : Prop := st u = 2 ∨ (goneP st u ∧ sb u ≠ 0 ∧ st (sb u - 1) = 2)
def lostP (st sb : Nat → Nat) (u : Nat) : Prop := goneP st u ∧ (sb u = 0 ∨ goneP st (sb u - 1))
def doneP (st : Nat → Nat) (u : Nat) : Prop := st u = 2 ∨ goneP st u
/-- bounds of the class's numbers -/
def BC (c : Nat → Nat → Nat) : Prop := ∀ a i, a ≤ 33 → c a i < 2 ^ 31
def BR (r : Nat → Nat → Nat) : Prop := ∀ a i, a ≤ 30 → r a i < 2 ^ 31
/-- resetForStart -/
def c_reset (c : Nat → Nat → Nat) (u : Nat) : Nat → Nat → Nat := up2 (up2 (up2 c 9 u (if c 5 u = 0 then 0 else 4)) 11 u 0) 12 u (c 3 u)
/-- comeToEnd -/
def c_come (c : Nat → Nat → Nat) (u : Nat) : Nat → Nat → Nat :=
  if c 4 u = 0 then up2 (up2 c 9 u 2) 3 u (max 1 ((c 3 u + c 1 u) / 2))
  else if c 11 u < c 2 u then up2 (up2 (up2 c 4 u (c 4 u - 1)) 11 u (c 11 u + 1)) 9 u 0 else up2 (up2 c 4 u (c 4 u - 1)) 9 u 3
/-- timeDone of a unit -/
def c_part (c : Nat → Nat → Nat) (u : Nat) : Nat := if c 9 u = 2 ∨ c 9 u = 3 then c 12 u else if c 9 u = 1 then min (c 10 u) (c 12 u) else 0
theorem nI_max {a b : Nat} (ha : a < 2 ^ 31) (hb : b < 2 ^ 31) : (if nI a < nI b then nI b else nI a) = nI (max a b) := by
  by_cases h : a < b
  · rw [if_pos (nI_lt h hb), Nat.max_eq_right (Nat.le_of_lt h)]
  · rw [if_neg (nI_nlt (Nat.not_lt.mp h) ha), Nat.max_eq_left (Nat.not_lt.mp h)]
theorem nI_min {a b : Nat} (ha : a < 2 ^ 31) (hb : b < 2 ^ 31) : (if nI b < nI a then nI b else nI a) = nI (min a b) := by
  by_cases h : b < a
  · rw [if_pos (nI_lt h ha), Nat.min_eq_right (Nat.le_of_lt h)]
  · rw [if_neg (nI_nlt (Nat.not_lt.mp h) hb), Nat.min_eq_left (Nat.not_lt.mp h)]
