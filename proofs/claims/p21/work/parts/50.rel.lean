/-! THE CLASS AND THE MODEL SIDE BY SIDE -/
theorem IC_1 {c : Nat → Nat → Nat} {a u v : Nat} (h : IC c) (hv : (a = 1 ∧ v ≤ 100) ∨ (a = 2 ∧ v ≤ 3) ∨ (a = 4 ∧ v ≤ 10) ∨ (a = 5 ∧ v ≤ 1)) : IC (up2 c a u v) := by
  refine IC_unit (u := u) h (Off_up Off_r (by unfold uc; omega)) ?_
  obtain ⟨u1, u2, u3, u4, u5, u6, u7, u8, u9, u10, u11⟩ := IC_U h u
  unfold UB
  rcases hv with ⟨rfl, z⟩ | ⟨rfl, z⟩ | ⟨rfl, z⟩ | ⟨rfl, z⟩ <;> simp [up2] <;> omega
theorem IC_n1 {c : Nat → Nat → Nat} (h : IC c) (hn : c 20 1 < 20) : IC (up2 c 20 1 (c 20 1 + 1)) := by
  obtain ⟨h1, h2, h3, h4, h5, h6, h7, h8, h9⟩ := h
  have k0 : ∀ a i, a ≠ 20 → up2 c 20 1 (c 20 1 + 1) a i = c a i := fun a i ha => up2_c ha
  refine ⟨?_, by rw [up2_s]; omega, fun w => by rw [k0 6 w (by decide), up2_s]; have := h3 w; omega, fun w => by rw [k0 7 w (by decide), up2_s, Nat.pow_succ]; have := h4 w; omega, fun w => by rw [k0 8 w (by decide), up2_s, Nat.pow_succ]; have := h5 w; omega, fun u => ?_, ?_, fun j hj => ?_, ?_⟩
  · intro a i ha
    unfold up2
    split
    · omega
    · exact h1 a i ha
  · unfold UB
    simp only [k0 _ _ (show (1 : Nat) ≠ 20 by decide), k0 _ _ (show (2 : Nat) ≠ 20 by decide), k0 _ _ (show (3 : Nat) ≠ 20 by decide), k0 _ _ (show (4 : Nat) ≠ 20 by decide), k0 _ _ (show (5 : Nat) ≠ 20 by decide), k0 _ _ (show (9 : Nat) ≠ 20 by decide), k0 _ _ (show (10 : Nat) ≠ 20 by decide), k0 _ _ (show (11 : Nat) ≠ 20 by decide), k0 _ _ (show (12 : Nat) ≠ 20 by decide)]
    exact h6 u
  · rw [up2_i (show (3 : Nat) ≠ 1 by decide), up2_i (show (4 : Nat) ≠ 1 by decide), up2_i (show (5 : Nat) ≠ 1 by decide), up2_i (show (6 : Nat) ≠ 1 by decide)]
    exact h7
  · rw [k0 30 0 (by decide)] at hj
    have := h8 j hj
    rw [k0 31 j (by decide), k0 32 j (by decide), k0 33 j (by decide), up2_s]
    omega
  · rw [k0 30 0 (by decide), k0 36 0 (by decide)]
    exact h9
/-- a column of masks, or of stand-ins -/
theorem IC_67 {c : Nat → Nat → Nat} {a u v : Nat} (h : IC c) (hv : (a = 6 ∧ v ≤ c 20 1) ∨ ((a = 7 ∨ a = 8) ∧ v < 2 ^ c 20 1)) : IC (up2 c a u v) := by
  obtain ⟨h1, h2, h3, h4, h5, h6, h7, h8, h9⟩ := h
  have k0 : ∀ b i, b ≠ a → up2 c a u v b i = c b i := fun b i hb => up2_c hb
  have hp : (2 : Nat) ^ c 20 1 ≤ 2 ^ 20 := Nat.pow_le_pow_right (by decide) h2
  refine ⟨?_, by rw [k0 20 1 (by omega)]; exact h2, fun w => ?_, fun w => ?_, fun w => ?_, fun w => ?_, ?_, fun j hj => ?_, ?_⟩
  · intro b i hb
    unfold up2
    split
    · omega
    · exact h1 b i hb
  · rw [k0 20 1 (by omega)]
    unfold up2
    split
    · omega
    · exact h3 w
  · rw [k0 20 1 (by omega)]
    unfold up2
    split
    · rcases hv with ⟨z, _⟩ | ⟨_, z⟩
      · omega
      · exact z
    · exact h4 w
  · rw [k0 20 1 (by omega)]
    unfold up2
    split
    · rcases hv with ⟨z, _⟩ | ⟨_, z⟩
      · omega
      · exact z
    · exact h5 w
  · unfold UB
    rw [k0 1 w (by omega), k0 2 w (by omega), k0 3 w (by omega), k0 4 w (by omega), k0 5 w (by omega), k0 9 w (by omega), k0 10 w (by omega), k0 11 w (by omega), k0 12 w (by omega)]
    exact h6 w
  · rw [k0 20 3 (by omega), k0 20 4 (by omega), k0 20 5 (by omega), k0 20 6 (by omega)]
    exact h7
  · rw [k0 30 0 (by omega)] at hj
    rw [k0 31 j (by omega), k0 32 j (by omega), k0 33 j (by omega), k0 20 1 (by omega)]
    exact h8 j hj
  · rw [k0 30 0 (by omega), k0 36 0 (by omega)]
    exact h9
/-- the list of wishes changed -/
theorem IC_ws {c c' : Nat → Nat → Nat} (h : IC c) (hk : ∀ a i, a ≤ 29 → c' a i = c a i) (hw : ∀ i, c' 31 i < 2 ^ 31 ∧ c' 32 i < 2 ^ 31 ∧ c' 33 i < 2 ^ 31 ∧ c' 30 i < 2 ^ 31) (hW : WB c') (hL : c' 30 0 ≤ c' 36 0 ∧ c' 36 0 ≤ 2 * c' 30 0 + 10) : IC c' := by
  obtain ⟨h1, h2, h3, h4, h5, h6, h7, h8, h9⟩ := h
  refine ⟨?_, by rw [hk 20 1 (by decide)]; exact h2, fun w => by rw [hk 6 w (by decide), hk 20 1 (by decide)]; exact h3 w, fun w => by rw [hk 7 w (by decide), hk 20 1 (by decide)]; exact h4 w, fun w => by rw [hk 8 w (by decide), hk 20 1 (by decide)]; exact h5 w, fun w => ?_, by rw [hk 20 3 (by decide), hk 20 4 (by decide), hk 20 5 (by decide), hk 20 6 (by decide)]; exact h7, hW, hL⟩
  · intro a i ha
    rcases Nat.lt_or_ge 29 a with e | e
    · have : a = 30 ∨ a = 31 ∨ a = 32 ∨ a = 33 := by omega
      obtain ⟨w1, w2, w3, w4⟩ := hw i
      rcases this with rfl | rfl | rfl | rfl <;> assumption
    · rw [hk a i e]; exact h1 a i ha
  · unfold UB
    rw [hk 1 w (by decide), hk 2 w (by decide), hk 3 w (by decide), hk 4 w (by decide), hk 5 w (by decide), hk 9 w (by decide), hk 10 w (by decide), hk 11 w (by decide), hk 12 w (by decide)]
    exact h6 w
def rV (r : Nat → Nat → Nat) (a i v : Nat) : Prop := (a = 1 ∧ v ≤ 100) ∨ (a = 2 ∧ v ≤ 100) ∨ (a = 3 ∧ v ≤ 3) ∨ (a = 4 ∧ v ≤ 10) ∨ (a = 5 ∧ v ≤ 20) ∨ (a = 6 ∧ v ≤ 1) ∨ (a = 7 ∧ v ≤ 1) ∨ (a = 8 ∧ v ≤ 100) ∨ (a = 9 ∧ v < 2 ^ 31) ∨ (a = 17 ∧ v ≤ 4 ∧ v ≠ 1) ∨ (a = 30 ∧ i = 0 ∧ v ≤ 20) ∨ (a = 30 ∧ rOk i v)
theorem IR_up {r : Nat → Nat → Nat} {a i v : Nat} (h : IR r) (hv : rV r a i v) : IR (up2 r a i v) := by
  obtain ⟨h1, h2, h3, h4, h5⟩ := h
  unfold rV rOk at hv
  refine ⟨?_, fun u => ?_, fun e => ?_, ?_, fun u => ?_⟩
  · intro b j hb
    unfold up2
    split
    · omega
    · exact h1 b j hb
  · obtain ⟨u1, u2, u3, u4, u5, u6, u7, u8, u9, u10, u11⟩ := h2 u
    unfold RU up2
    refine ⟨?_, ?_, ?_, ?_, ?_, ?_, ?_, ?_, ?_, ?_, ?_⟩
    all_goals (repeat' split)
    all_goals first | assumption | omega
  · obtain ⟨e1, e2, e3⟩ := h3 e
    unfold RE up2
    refine ⟨?_, ?_, ?_⟩
    all_goals (repeat' split)
    all_goals first | assumption | omega
  · obtain ⟨o1, o2, o3, o4, o5, o6, o7, o8⟩ := h4
    unfold RO up2
    refine ⟨?_, ?_, ?_, ?_, ?_, ?_, ?_, ?_⟩
    all_goals split
    all_goals first | assumption | omega
  · unfold up2
    split
    · omega
    · exact h5 u
def Fsh (c : Nat → Nat → Nat) : Prop := ∀ u, c 20 1 ≤ u → c 3 u = 10 ∧ c 4 u = 0 ∧ c 5 u = 0 ∧ c 6 u = 0 ∧ c 7 u = 0 ∧ c 8 u = 0 ∧ c 9 u = 0
def Eqs (c r : Nat → Nat → Nat) : Prop := ∀ u, c 4 u = r 4 u ∧ c 5 u = r 6 u ∧ c 9 u = r 17 u ∧ (c 9 u = 1 → c 10 u = r 18 u) ∧ c 11 u = r 19 u ∧ c 12 u = r 20 u
def Eqn (c r : Nat → Nat → Nat) : Prop := ∀ u, u < c 20 1 → c 1 u = r 1 u ∧ c 2 u = r 3 u ∧ c 3 u = r 2 u ∧ c 6 u = r 5 u
def Edg (c r : Nat → Nat → Nat) : Prop := ∀ u v, u < 20 → v < 20 → ((c 7 u).testBit v = true ↔ 0 < r 7 (20 * u + v)) ∧ ((c 8 u).testBit v = true ↔ 0 < r 8 (20 * u + v) ∧ r 11 (20 * u + v) = 0) ∧ (r 11 (20 * u + v) ≠ 0 → 0 < r 8 (20 * u + v))
def Wsh (c r : Nat → Nat → Nat) : Prop := (∀ j, j < c 30 0 → r 8 (20 * c 31 j + c 32 j) = c 33 j ∧ r 9 (20 * c 31 j + c 32 j) = j) ∧ (∀ u v, u < 20 → v < 20 → 0 < r 8 (20 * u + v) → ∃ j, j < c 30 0 ∧ c 31 j = u ∧ c 32 j = v) ∧ r 30 10 = c 30 0
def Obj (c r : Nat → Nat → Nat) : Prop := r 30 0 = c 20 1 ∧ r 30 13 = c 20 3 ∧ r 30 14 = c 20 4 ∧ r 30 15 = c 20 5 ∧ r 30 16 = c 20 6 ∧ (r 30 12 = 0 → r 30 16 = 0 ∧ r 30 13 = 0)
def Goi (c : Nat → Nat → Nat) : Prop := c 20 6 ≤ 1000 ∧ (c 20 3 ≠ 0 → sm (fun u => if c 5 u = 0 then c 12 u else 0) (c 20 1) = c 20 5 ∧ ∀ u, u < c 20 1 → (c 9 u = 4 ↔ c 5 u = 1))
def Rel (c r : Nat → Nat → Nat) : Prop := Fsh c ∧ Eqs c r ∧ Eqn c r ∧ Edg c r ∧ Wsh c r ∧ Obj c r ∧ Goi c
def Inv (c r : Nat → Nat → Nat) (i : Nat) : Prop := IC c ∧ IR r ∧ Rel c r ∧ c 30 0 ≤ i
theorem ed_inj {a b u v : Nat} (hb : b < 20) (hv : v < 20) : 20 * u + v = 20 * a + b ↔ u = a ∧ v = b := by omega
/-- the thrown code alone -/
theorem Rel_thr {c r : Nat → Nat → Nat} {w : Nat} (h : Rel c r) : Rel c (up2 r 30 22 w) := h
theorem Inv_thr {c r : Nat → Nat → Nat} {i w : Nat} (h : Inv c r i) (hw : w ≤ 3) : Inv c (up2 r 30 22 w) (i + 1) :=
  ⟨h.1, IR_up h.2.1 (Or.inr (Or.inr (Or.inr (Or.inr (Or.inr (Or.inr (Or.inr (Or.inr (Or.inr (Or.inr (Or.inr ⟨rfl, Or.inr (Or.inr (Or.inr (Or.inr (Or.inr (Or.inr ⟨rfl, hw⟩)))))⟩))))))))))), Rel_thr h.2.2.1, Nat.le_succ_of_le h.2.2.2⟩
theorem ok_iff {c r : Nat → Nat → Nat} (h : Rel c r) (x : Int32) : okR r x ↔ okU c x := by
  unfold okR okU
  rw [h.2.2.2.2.2.1.1]
theorem bit_lt {f n v : Nat} (h : f < 2 ^ n) (hb : f.testBit v = true) : v < n := by
  rcases Nat.lt_or_ge v n with e | e
  · exact e
  · have := Nat.testBit_lt_two_pow (Nat.lt_of_lt_of_le h (Nat.pow_le_pow_right (by decide) e))
    rw [this] at hb
    cases hb
theorem e_iff {c r : Nat → Nat → Nat} (hI : IC c) (h : Rel c r) {fl : Nat} (u v : Nat) : eC c fl u v ↔ eR r fl u v := by
  have hn := IC_n hI
  have h7 := IC_7 hI u
  have h8 := IC_8 hI u
  unfold eC eR
  rw [h.2.2.2.2.2.1.1]
  constructor
  · rintro ⟨hu, hv⟩
    have hvn : v < c 20 1 := hv.elim (fun z => bit_lt h7 z) (fun z => bit_lt h8 z.2)
    obtain ⟨e7, e8, -⟩ := h.2.2.2.1 u v (by omega) (by omega)
    exact ⟨hu, hvn, hv.elim (fun z => Or.inl (e7.mp z)) (fun z => Or.inr ⟨Nat.pos_of_ne_zero z.1, e8.mp z.2⟩)⟩
  · rintro ⟨hu, hvn, hv⟩
    obtain ⟨e7, e8, -⟩ := h.2.2.2.1 u v (by omega) (by omega)
    exact ⟨hu, hv.elim (fun z => Or.inl (e7.mpr z)) (fun z => Or.inr ⟨Nat.ne_of_gt z.1, e8.mpr z.2⟩)⟩
theorem reach_iff {c r : Nat → Nat → Nat} (hI : IC c) (h : Rel c r) {fl : Nat} (a b : Nat) : Rch (eC c fl) a b ↔ Rch (eR r fl) a b := Rch_cg (e_iff hI h) a b
