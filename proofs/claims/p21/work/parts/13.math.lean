/-! MASKS, COUNTS, SUMS -/
noncomputable def mk (p : Nat → Prop) : Nat → Nat
  | 0 => 0
  | n + 1 => mk p n ||| (bN (p n) * 2 ^ n)
noncomputable def ct (p : Nat → Prop) : Nat → Nat
  | 0 => 0
  | n + 1 => ct p n + bN (p n)
def sm (f : Nat → Nat) : Nat → Nat
  | 0 => 0
  | n + 1 => sm f n + f n
theorem mk_t {p : Nat → Prop} {n : Nat} (h : p n) : mk p (n + 1) = mk p n ||| 2 ^ n := by rw [mk, bN_t h, Nat.one_mul]
theorem mk_f {p : Nat → Prop} {n : Nat} (h : ¬ p n) : mk p (n + 1) = mk p n := by rw [mk, bN_f h, Nat.zero_mul, Nat.or_zero]
theorem ct_t {p : Nat → Prop} {n : Nat} (h : p n) : ct p (n + 1) = ct p n + 1 := by rw [ct, bN_t h]
theorem ct_f {p : Nat → Prop} {n : Nat} (h : ¬ p n) : ct p (n + 1) = ct p n := by rw [ct, bN_f h, Nat.add_zero]
theorem mk_bit {p : Nat → Prop} {i : Nat} : ∀ {n : Nat}, (mk p n).testBit i = true ↔ i < n ∧ p i
  | 0 => by simp [mk]
  | n + 1 => by
    have ih := mk_bit (p := p) (i := i) (n := n)
    by_cases h : p n
    · rw [mk_t h, Nat.testBit_or, Bool.or_eq_true, ih, Nat.testBit_two_pow]
      constructor
      · rintro (h1 | h1)
        · exact ⟨Nat.lt_succ_of_lt h1.1, h1.2⟩
        · have e : n = i := by simpa using h1
          subst e
          exact ⟨Nat.lt_succ_self _, h⟩
      · rintro ⟨h1, h2⟩
        by_cases e : n = i
        · exact Or.inr (by simp [e])
        · exact Or.inl ⟨by omega, h2⟩
    · rw [mk_f h, ih]
      constructor
      · exact fun h1 => ⟨Nat.lt_succ_of_lt h1.1, h1.2⟩
      · rintro ⟨h1, h2⟩
        by_cases e : n = i
        · subst e; exact absurd h2 h
        · exact ⟨by omega, h2⟩
theorem mk_lt {p : Nat → Prop} : ∀ n : Nat, mk p n < 2 ^ n
  | 0 => by simp [mk]
  | n + 1 => by
    have ih := mk_lt (p := p) n
    have h1 : mk p n < 2 ^ (n + 1) := Nat.lt_of_lt_of_le ih (Nat.pow_le_pow_right (by decide) (Nat.le_succ n))
    by_cases h : p n
    · rw [mk_t h]
      exact Nat.or_lt_two_pow h1 (Nat.pow_lt_pow_right (by decide) (Nat.lt_succ_self n))
    · rw [mk_f h]; exact h1
theorem mk_cg {p q : Nat → Prop} : ∀ {n : Nat}, (∀ i, i < n → (p i ↔ q i)) → mk p n = mk q n
  | 0, _ => rfl
  | n + 1, h => by rw [mk, mk, mk_cg (fun i hi => h i (Nat.lt_succ_of_lt hi)), bN_c (h n (Nat.lt_succ_self n))]
theorem ct_cg {p q : Nat → Prop} : ∀ {n : Nat}, (∀ i, i < n → (p i ↔ q i)) → ct p n = ct q n
  | 0, _ => rfl
  | n + 1, h => by rw [ct, ct, ct_cg (fun i hi => h i (Nat.lt_succ_of_lt hi)), bN_c (h n (Nat.lt_succ_self n))]
theorem sm_cg {f g : Nat → Nat} : ∀ {n : Nat}, (∀ i, i < n → f i = g i) → sm f n = sm g n
  | 0, _ => rfl
  | n + 1, h => by rw [sm, sm, sm_cg (fun i hi => h i (Nat.lt_succ_of_lt hi)), h n (Nat.lt_succ_self n)]
theorem ct_le {p : Nat → Prop} : ∀ n : Nat, ct p n ≤ n
  | 0 => Nat.le_refl 0
  | n + 1 => by have := ct_le (p := p) n; have := bN_le (p n); rw [ct]; omega
theorem sm_le {f : Nat → Nat} {k : Nat} : ∀ {n : Nat}, (∀ i, i < n → f i ≤ k) → sm f n ≤ n * k
  | 0, _ => by simp [sm]
  | n + 1, h => by
    have h1 := sm_le (fun i hi => h i (Nat.lt_succ_of_lt hi))
    have h2 := h n (Nat.lt_succ_self n)
    rw [sm, Nat.succ_mul]
    omega
theorem ct_sub {p q : Nat → Prop} : ∀ {n : Nat}, (∀ i, i < n → p i → q i) → ct p n ≤ ct q n
  | 0, _ => Nat.le_refl 0
  | n + 1, h => by
    have h1 := ct_sub (fun i hi => h i (Nat.lt_succ_of_lt hi))
    by_cases hp : p n
    · rw [ct_t hp, ct_t (h n (Nat.lt_succ_self n) hp)]; omega
    · rw [ct_f hp, ct]; omega
/-- one more -/
theorem ct_one {p q : Nat → Prop} {u : Nat} (hp : ¬ p u) (hq : q u) : ∀ {n : Nat}, u < n → (∀ i, i < n → i ≠ u → (p i ↔ q i)) → ct q n = ct p n + 1
  | 0, h, _ => absurd h (Nat.not_lt_zero _)
  | n + 1, h, hk => by
    by_cases e : u = n
    · subst e
      rw [ct_t hq, ct_f hp, ct_cg (fun i hi => (hk i (Nat.lt_succ_of_lt hi) (Nat.ne_of_lt hi)).symm)]
    · have ih := ct_one hp hq (show u < n by omega) (fun i hi => hk i (Nat.lt_succ_of_lt hi))
      rw [ct, ct, ih, bN_c (hk n (Nat.lt_succ_self n) (fun z => e z.symm))]
      omega
theorem and_bit {f u : Nat} : f &&& 2 ^ u = 0 ↔ ¬ f.testBit u = true := by
  constructor
  · intro h z
    have h2 : (f &&& 2 ^ u).testBit u = false := by rw [h]; exact Nat.zero_testBit u
    rw [Nat.testBit_and, z, Nat.testBit_two_pow_self] at h2
    cases h2
  · intro h
    apply Nat.eq_of_testBit_eq
    intro i
    rw [Nat.zero_testBit, Nat.testBit_and, Nat.testBit_two_pow]
    by_cases e : u = i
    · subst e
      simp only [Bool.not_eq_true] at h
      rw [h]; rfl
    · simp [e]
theorem and_0 {a b : Nat} : a &&& b = 0 ↔ ∀ i, a.testBit i = true → ¬ b.testBit i = true := by
  constructor
  · intro h i h1 h2
    have h3 : (a &&& b).testBit i = false := by rw [h]; exact Nat.zero_testBit i
    rw [Nat.testBit_and, h1, h2] at h3
    cases h3
  · intro h
    apply Nat.eq_of_testBit_eq
    intro i
    rw [Nat.zero_testBit, Nat.testBit_and]
    cases ha : a.testBit i
    · rfl
    · have := h i ha
      simp only [Bool.not_eq_true] at this
      rw [this]; rfl
/-! WHAT IS REACHED -/
def Rch (E : Nat → Nat → Prop) (a b : Nat) : Prop := ∀ S : Nat → Prop, S a → (∀ u v, S u → E u v → S v) → S b
theorem Rch_r {E : Nat → Nat → Prop} (a : Nat) : Rch E a a := fun _ h _ => h
theorem Rch_s {E : Nat → Nat → Prop} {a u v : Nat} (h : Rch E a u) (he : E u v) : Rch E a v := fun S h1 h2 => h2 u v (h S h1 h2) he
theorem Rch_cg {E F : Nat → Nat → Prop} (h : ∀ u v, E u v ↔ F u v) (a b : Nat) : Rch E a b ↔ Rch F a b :=
  ⟨fun k S h1 h2 => k S h1 (fun u v hu he => h2 u v hu ((h u v).mp he)), fun k S h1 h2 => k S h1 (fun u v hu he => h2 u v hu ((h u v).mpr he))⟩
/-- sets that grow below n stand still before step n -/
theorem grow_still {S : Nat → Nat → Prop} {n a : Nat} (ha : a < n) (h0 : S 0 a) (hm : ∀ t v, S t v → S (t + 1) v) (hn : ∀ t v, S t v → v < n) : ∃ t, t < n ∧ ∀ v, S (t + 1) v → S t v := by
  apply Classical.byContradiction
  intro hno
  have step : ∀ t, t < n → ct (S t) n + 1 ≤ ct (S (t + 1)) n := by
    intro t ht
    have h1 : ∃ v, S (t + 1) v ∧ ¬ S t v := by
      apply Classical.byContradiction
      intro h2
      exact hno ⟨t, ht, fun v hv => Classical.byContradiction (fun h3 => h2 ⟨v, hv, h3⟩)⟩
    obtain ⟨v, h3, h4⟩ := h1
    have e := ct_one (p := S t) (q := fun i => S t i ∨ i = v) (u := v) h4 (Or.inr rfl) (hn _ _ h3) (fun i _ hi => ⟨Or.inl, fun z => z.elim id (fun z => absurd z hi)⟩)
    rw [← e]
    exact ct_sub (fun i _ hi => hi.elim (hm t i) (fun z => by rw [z]; exact h3))
  have all : ∀ t, t ≤ n → t + 1 ≤ ct (S t) n := by
    intro t
    induction t with
    | zero =>
      intro _
      have e := ct_one (p := fun _ => False) (q := fun i => i = a) (u := a) (fun z => z) rfl ha (fun i _ hi => ⟨fun z => z.elim, fun z => hi z⟩)
      have h2 : ct (fun i => i = a) n ≤ ct (S 0) n := ct_sub (fun i _ hi => by rw [hi]; exact h0)
      omega
    | succ t ih =>
      intro ht
      have h1 := ih (by omega)
      have h2 := step t (by omega)
      omega
  have h1 := all n (Nat.le_refl n)
  have h2 := ct_le (p := S n) n
  omega
/-! THE CLASS'S STEPS -/
def BC1 (c : Nat → Nat → Nat) : Prop := BC c ∧ c 20 1 ≤ 20
/-- edges: needs, and kept wishes where fl isn't 0 -/
def eC (c : Nat → Nat → Nat) (fl u v : Nat) : Prop := u < c 20 1 ∧ ((c 7 u).testBit v = true ∨ (fl ≠ 0 ∧ (c 8 u).testBit v = true))
def rsE (c : Nat → Nat → Nat) (fl u : Nat) : Nat := c 7 u ||| (if fl = 0 then 0 else c 8 u)
def rsI (c : Nat → Nat → Nat) (fl f : Nat) : Nat → Nat
  | 0 => f
  | k + 1 => if (rsI c fl f k).testBit k = true then rsI c fl f k ||| rsE c fl k else rsI c fl f k
def rdI (c : Nat → Nat → Nat) (fl a : Nat) : Nat → Nat
  | 0 => 2 ^ a
  | i + 1 => rsI c fl (rdI c fl a i) (c 20 1)
def rdB (c : Nat → Nat → Nat) (fl a : Nat) : Nat → Nat
  | 0 => 0
  | i + 1 => rdI c fl a i
theorem rsE_bit {c : Nat → Nat → Nat} {fl u v : Nat} (hu : u < c 20 1) : (rsE c fl u).testBit v = true ↔ eC c fl u v := by
  unfold rsE eC
  rw [Nat.testBit_or, Bool.or_eq_true]
  by_cases h : fl = 0
  · simp [h, hu]
  · simp [h, hu]
theorem rsI_mono {c : Nat → Nat → Nat} {fl f v : Nat} : ∀ {k m : Nat}, k ≤ m → (rsI c fl f k).testBit v = true → (rsI c fl f m).testBit v = true := by
  intro k m h
  induction h with
  | refl => exact id
  | @step m _ ih =>
    intro h1
    have h2 := ih h1
    rw [rsI]
    split
    · rw [Nat.testBit_or, h2]; rfl
    · exact h2
theorem rsI_sound {c : Nat → Nat → Nat} {fl f a : Nat} (h : ∀ v, f.testBit v = true → Rch (eC c fl) a v) : ∀ k, k ≤ c 20 1 → ∀ v, (rsI c fl f k).testBit v = true → Rch (eC c fl) a v
  | 0, _, v, hv => h v hv
  | k + 1, hk, v, hv => by
    have ih := rsI_sound h k (by omega)
    rw [rsI] at hv
    split at hv
    · rename_i hc
      rw [Nat.testBit_or, Bool.or_eq_true] at hv
      rcases hv with hv | hv
      · exact ih v hv
      · exact Rch_s (ih k hc) ((rsE_bit (by omega)).mp hv)
    · exact ih v hv
theorem rsI_lt {c : Nat → Nat → Nat} {fl f N : Nat} (h7 : ∀ u, c 7 u < 2 ^ N) (h8 : ∀ u, c 8 u < 2 ^ N) (hf : f < 2 ^ N) : ∀ k, rsI c fl f k < 2 ^ N
  | 0 => hf
  | k + 1 => by
    have ih := rsI_lt (fl := fl) h7 h8 hf k
    rw [rsI]
    split
    · refine Nat.or_lt_two_pow ih (Nat.or_lt_two_pow (h7 k) ?_)
      split
      · exact Nat.two_pow_pos N
      · exact h8 k
    · exact ih
theorem rdI_lt {c : Nat → Nat → Nat} {fl a N : Nat} (h7 : ∀ u, c 7 u < 2 ^ N) (h8 : ∀ u, c 8 u < 2 ^ N) (ha : a < N) : ∀ i, rdI c fl a i < 2 ^ N
  | 0 => Nat.pow_lt_pow_right (by decide) ha
  | i + 1 => rsI_lt h7 h8 (rdI_lt h7 h8 ha i) _
theorem rdI_sound {c : Nat → Nat → Nat} {fl a : Nat} : ∀ i v, (rdI c fl a i).testBit v = true → Rch (eC c fl) a v
  | 0, v, h => by
    have e : a = v := by simpa [rdI, Nat.testBit_two_pow] using h
    rw [← e]; exact Rch_r a
  | i + 1, v, h => rsI_sound (fun w hw => rdI_sound i w hw) _ (Nat.le_refl _) v h
theorem rdI_closed {c : Nat → Nat → Nat} {fl a i : Nat} (h : rdI c fl a (i + 1) = rdI c fl a i) {u v : Nat} (hu : (rdI c fl a i).testBit u = true) (he : eC c fl u v) : (rdI c fl a i).testBit v = true := by
  rw [← h]
  show (rsI c fl (rdI c fl a i) (c 20 1)).testBit v = true
  have h1 : (rsI c fl (rdI c fl a i) u).testBit u = true := rsI_mono (k := 0) (Nat.zero_le u) hu
  refine rsI_mono (k := u + 1) he.1 ?_
  rw [rsI, if_pos h1, Nat.testBit_or, (rsE_bit he.1).mpr he, Bool.or_true]
theorem rdI_const {c : Nat → Nat → Nat} {fl a i : Nat} (h : rdI c fl a (i + 1) = rdI c fl a i) : ∀ k, rdI c fl a (i + k) = rdI c fl a i
  | 0 => rfl
  | k + 1 => by
    have ih := rdI_const h k
    show rsI c fl (rdI c fl a (i + k)) (c 20 1) = _
    rw [ih]
    exact h
/-- what the class's rounds find -/
theorem reach_fin {c : Nat → Nat → Nat} {fl a b i : Nat} (h7 : ∀ u, c 7 u < 2 ^ c 20 1) (h8 : ∀ u, c 8 u < 2 ^ c 20 1) (ha : a < c 20 1) (hi : c 20 1 < i ∨ rdI c fl a i = rdB c fl a i) : (rdI c fl a i).testBit b = true ↔ Rch (eC c fl) a b := by
  have hcl : ∃ j, rdI c fl a (j + 1) = rdI c fl a j ∧ rdI c fl a i = rdI c fl a j := by
    rcases hi with hi | hi
    · obtain ⟨t, ht, hs⟩ := grow_still (S := fun t v => (rdI c fl a t).testBit v = true) ha (by simp [rdI]) (fun t v hv => rsI_mono (k := 0) (Nat.zero_le _) hv)
        (fun t v hv => by
          apply Classical.byContradiction
          intro hn
          have h1 := rdI_lt (fl := fl) h7 h8 ha t
          have h2 := Nat.testBit_lt_two_pow (Nat.lt_of_lt_of_le h1 (Nat.pow_le_pow_right (by decide) (Nat.not_lt.mp hn)))
          rw [h2] at hv
          cases hv)
      have e : rdI c fl a (t + 1) = rdI c fl a t := by
        apply Nat.eq_of_testBit_eq
        intro v
        cases h1 : (rdI c fl a t).testBit v
        · cases h2 : (rdI c fl a (t + 1)).testBit v
          · rfl
          · rw [hs v h2] at h1; cases h1
        · exact rsI_mono (k := 0) (Nat.zero_le _) h1
      refine ⟨t, e, ?_⟩
      have := rdI_const e (i - t)
      rwa [show t + (i - t) = i by omega] at this
    · cases i with
      | zero =>
        have : (2 : Nat) ^ a = 0 := hi
        exact absurd this (Nat.ne_of_gt (Nat.two_pow_pos a))
      | succ j => exact ⟨j, hi, hi⟩
  obtain ⟨j, h1, h2⟩ := hcl
  constructor
  · exact rdI_sound i b
  · intro h
    rw [h2]
    refine h (fun v => (rdI c fl a j).testBit v = true) ?_ (fun u v hu he => rdI_closed h1 hu he)
    have : ∀ k, (rdI c fl a k).testBit a = true := by
      intro k
      induction k with
      | zero => simp [rdI]
      | succ k ih => exact rsI_mono (k := 0) (Nat.zero_le _) ih
    exact this j
