/-! a tick, read by the law's questions -/
def FAu (c : Nat → Nat → Nat) (u : Nat) : Prop := En c u ∧ 0 < c 4 u
def AGu (c : Nat → Nat → Nat) (u : Nat) : Prop := FAu c u ∧ c 11 u < c 2 u
/-- t is a where P holds, else b -/
def Sel (P : Prop) (t a b : Nat) : Prop := (P → t = a) ∧ (¬ P → t = b)
theorem Sel_ex (P : Prop) (a b : Nat) : ∃ t, Sel P t a b := by
  rcases Classical.em P with h | h
  · exact ⟨a, fun _ => rfl, fun z => absurd h z⟩
  · exact ⟨b, fun z => absurd z h, fun _ => rfl⟩
theorem Sel_lt {P : Prop} {t a b m : Nat} (h : Sel P t a b) (ha : a < m) (hb : b < m) : t < m := by
  rcases Classical.em P with z | z
  · rw [h.1 z]; exact ha
  · rw [h.2 z]; exact hb
theorem TS_0 {c x : Nat → Nat → Nat} {u : Nat} (h : TS c x u) (h1 : ¬ c 9 u = 1) (h2 : x 9 u = 1) : x 10 u = 0 := by
  obtain ⟨-, -, -, -, -, -, -, -, -, -, a, b⟩ := h
  rcases (show c 9 u = 0 ∨ 2 ≤ c 9 u by omega) with z | z
  · have := b z; omega
  · have := a z; omega
theorem TS_e {c x : Nat → Nat → Nat} {u : Nat} (h : TS c x u) (h1 : En c u) (h2 : x 9 u = 1) : x 10 u = 0 := by
  obtain ⟨-, -, -, -, -, -, -, a, b, d, -, -⟩ := h
  rcases (show c 4 u = 0 ∨ 0 < c 4 u by omega) with z | z
  · have := a ⟨h1, z⟩; omega
  · rcases Classical.em (c 11 u < c 2 u) with y | y
    · have := d ⟨⟨h1, z⟩, y⟩; omega
    · have := b ⟨⟨h1, z⟩, y⟩; omega
theorem TS_g {c x : Nat → Nat → Nat} {u : Nat} (h : TS c x u) (h1 : c 9 u = 1) (h2 : ¬ En c u) : x 9 u = 1 ∧ x 10 u = c 10 u + 1 := h.2.2.2.2.2.2.1 ⟨h1, fun z => h2 ⟨h1, z⟩⟩
theorem TS_f {c x : Nat → Nat → Nat} {u t : Nat} (h : TS c x u) (ht : Sel (FAu c u) t 1 0) : x 4 u = c 4 u - t ∧ t ≤ c 4 u := by
  rcases Classical.em (FAu c u) with z | z
  · have h1 := h.1 z
    rw [ht.1 z]
    omega
  · have h1 := h.2.1 z
    rw [ht.2 z]
    omega
theorem TS_l1 {c x : Nat → Nat → Nat} {u : Nat} (h : TS c x u) (h1 : En c u) (h2 : ¬ FAu c u) (h3 : (c 3 u + c 1 u) / 2 < 1) : x 3 u = 1 := by
  rw [h.2.2.1 ⟨h1, Nat.eq_zero_of_not_pos (fun z => h2 ⟨h1, z⟩)⟩]
  exact Nat.max_eq_left (by omega)
theorem TS_l2 {c x : Nat → Nat → Nat} {u : Nat} (h : TS c x u) (h1 : En c u) (h2 : ¬ FAu c u) (h3 : 1 ≤ (c 3 u + c 1 u) / 2) : x 3 u = (c 3 u + c 1 u) / 2 := by
  rw [h.2.2.1 ⟨h1, Nat.eq_zero_of_not_pos (fun z => h2 ⟨h1, z⟩)⟩]
  exact Nat.max_eq_right h3
theorem TS_l3 {c x : Nat → Nat → Nat} {u : Nat} (h : TS c x u) (h1 : ¬ (En c u ∧ ¬ FAu c u)) : x 3 u = c 3 u := h.2.2.2.1 (fun z => h1 ⟨z.1, fun y => absurd z.2 (Nat.ne_of_gt y.2)⟩)
theorem TS_a {c x : Nat → Nat → Nat} {u t : Nat} (h : TS c x u) (ht : Sel (AGu c u) t 1 0) : x 11 u = c 11 u + t := by
  rcases Classical.em (AGu c u) with z | z
  · rw [ht.1 z]; exact h.2.2.2.2.1 z
  · rw [ht.2 z]; exact h.2.2.2.2.2.1 z
theorem TS_s2 {c x : Nat → Nat → Nat} {u : Nat} (h : TS c x u) (h1 : En c u) (h2 : ¬ FAu c u) : x 9 u = 2 := h.2.2.2.2.2.2.2.1 ⟨h1, Nat.eq_zero_of_not_pos (fun z => h2 ⟨h1, z⟩)⟩
theorem TS_s3 {c x : Nat → Nat → Nat} {u : Nat} (h : TS c x u) (h1 : FAu c u) (h2 : ¬ AGu c u) : x 9 u = 3 := h.2.2.2.2.2.2.2.2.1 ⟨h1, fun z => h2 ⟨h1, z⟩⟩
theorem TS_s4 {c x : Nat → Nat → Nat} {u : Nat} (h : TS c x u) (h1 : AGu c u) : x 9 u ≠ 2 ∧ x 9 u ≠ 4 := by
  have := h.2.2.2.2.2.2.2.2.2.1 h1
  omega
theorem TS_s5 {c x : Nat → Nat → Nat} {u : Nat} (h : TS c x u) (h1 : 2 ≤ c 9 u) : x 9 u = c 9 u := h.2.2.2.2.2.2.2.2.2.2.1 h1
theorem TS_s6 {c x : Nat → Nat → Nat} {u : Nat} (h : TS c x u) (h1 : c 9 u = 0) : x 9 u = 0 ∨ x 9 u = 1 ∨ x 9 u = 3 := by
  have := h.2.2.2.2.2.2.2.2.2.2.2 h1
  omega
