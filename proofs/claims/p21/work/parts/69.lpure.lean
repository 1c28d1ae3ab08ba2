/-! THE LAW'S READERS: what they answer, over the class's columns -/
theorem k_andm1 (x : Int32) : x &&& (-1) = x := by
  apply Int32.toBitVec_inj.mp
  show x.toBitVec &&& (-1 : Int32).toBitVec = x.toBitVec
  rw [show (-1 : Int32).toBitVec = BitVec.allOnes 32 from by decide]
  exact BitVec.and_allOnes
section LR2
variable {p : Program} {l : Launch} {e : Env} {R : Room} {s : State} {m : MethodId} {args : Array Value} {below : List Frame} {meth : Method} {cd : Code} {H : Heap} {locs : List Loc} {cells slots : Nat} {Q : State → Prop}
variable {cc : ByteArray} {pc : Nat} {ls : Array Slot} {rest : List Value} {a : Nat}
theorem n_andm1 (hexec : p.tables.exec = Jvm.exec) (hb : cd.code = cc) (hdg : decode cc pc = .ok (.iand, 1)) (k : W p l e R s m args below meth cd H locs cells slots Q (F0 m (pc + 1) ls (.int (nI a) :: rest))) : W p l e R s m args below meth cd H locs cells slots Q (F0 m pc ls (.int (-1) :: .int (nI a) :: rest)) :=
  lv_iand hexec hb hdg (by rw [k_andm1]; exact k)
end LR2
noncomputable def metV (c : Nat → Nat → Nat) (u : Nat) : Nat := if bN (metP (c 9) (c 6) u) = 1 then 1 else 2 * bN (lostP (c 9) (c 6) u)
theorem metV_1 {c : Nat → Nat → Nat} {u : Nat} (h : metP (c 9) (c 6) u) : metV c u = 1 := by unfold metV; rw [if_pos (bN_t h)]
theorem met_nl {st sb : Nat → Nat} {u : Nat} (h : metP st sb u) : ¬ lostP st sb u := by
  unfold metP at h
  unfold lostP goneP at *
  omega
theorem metV_2 {c : Nat → Nat → Nat} {u : Nat} (h : lostP (c 9) (c 6) u) : metV c u = 2 := by
  unfold metV
  rw [bN_f (fun z => met_nl z h), if_neg (by decide), bN_t h]
theorem metV_0 {c : Nat → Nat → Nat} {u : Nat} (h1 : ¬ metP (c 9) (c 6) u) (h2 : ¬ lostP (c 9) (c 6) u) : metV c u = 0 := by
  unfold metV
  rw [bN_f h1, if_neg (by decide), bN_f h2]
theorem metV_0i {c : Nat → Nat → Nat} {u : Nat} (h : metV c u = 0) : ¬ metP (c 9) (c 6) u ∧ ¬ lostP (c 9) (c 6) u :=
  ⟨fun z => absurd ((metV_1 z).symm.trans h) (by decide), fun z => absurd ((metV_2 z).symm.trans h) (by decide)⟩
theorem metV_2i {c : Nat → Nat → Nat} {u : Nat} (h : metV c u = 2) : lostP (c 9) (c 6) u := by
  rcases Classical.em (lostP (c 9) (c 6) u) with z | z
  · exact z
  · rcases Classical.em (metP (c 9) (c 6) u) with y | y
    · rw [metV_1 y] at h; cases h
    · rw [metV_0 y z] at h; cases h
theorem metV_lt (c : Nat → Nat → Nat) (u : Nat) : metV c u < 2 ^ 31 := by
  unfold metV
  have := bN_le (lostP (c 9) (c 6) u)
  split <;> omega
theorem notdone {st : Nat → Nat} {v : Nat} (h : st v ≤ 4) (hd : ¬ doneP st v) : st v = 0 ∨ st v = 1 := by
  unfold doneP goneP at hd
  omega
theorem siI_p {n : Nat} (h : 1 ≤ n) : siI n = nI (n - 1) := by
  obtain ⟨k, rfl⟩ : ∃ k, n = k + 1 := ⟨n - 1, by omega⟩
  rw [siI_s, Nat.add_sub_cancel]
theorem mk31 {P : Nat → Prop} {n : Nat} (h : n ≤ 20) : mk P n < 2 ^ 31 := Nat.lt_trans (mk_lt n) (Nat.pow_lt_pow_right (by decide) (by omega))
/-- a wish in w that is not cut -/
def wun (r : Nat → Nat → Nat) (i : Nat) : Prop := 0 < r 2 i ∧ r 2 i / 2 ^ 20 = 0
/-! what can run, as the law finds it -/
def gsA (c : Nat → Nat → Nat) (f u n : Nat) : Prop := (c 5 u = 0 ∧ c 4 u ≤ c 2 u) ∧ ∀ v, v < n → (c 7 u).testBit v = true → f.testBit v = true ∨ (c 6 v ≠ 0 ∧ f.testBit (c 6 v - 1) = true)
theorem gsA_t {c : Nat → Nat → Nat} {f u j : Nat} (h : gsA c f u j) (h2 : (c 7 u).testBit j = true → f.testBit j = true ∨ (c 6 j ≠ 0 ∧ f.testBit (c 6 j - 1) = true)) : gsA c f u (j + 1) :=
  ⟨h.1, fun v hv hb => by
    rcases Nat.lt_or_ge v j with e | e
    · exact h.2 v e hb
    · have e2 : v = j := by omega
      subst e2
      exact h2 hb⟩
theorem gsA_o {c : Nat → Nat → Nat} {f u j : Nat} (h : gsA c f u (j + 1)) : gsA c f u j := ⟨h.1, fun v hv hb => h.2 v (by omega) hb⟩
theorem gsA_e {c : Nat → Nat → Nat} {f u j : Nat} (h : gsA c f u (j + 1)) (hb : (c 7 u).testBit j = true) : f.testBit j = true ∨ (c 6 j ≠ 0 ∧ f.testBit (c 6 j - 1) = true) := h.2 j (by omega) hb
noncomputable def gsI (c : Nat → Nat → Nat) (f : Nat) : Nat → Nat
  | 0 => f
  | i + 1 => if bN (gsA c (gsI c f i) i (c 20 1)) = 1 then gsI c f i else anN (gsI c f i) (2 ^ i)
theorem gsI_t {c : Nat → Nat → Nat} {f i : Nat} (h : gsA c (gsI c f i) i (c 20 1)) : gsI c f (i + 1) = gsI c f i := by rw [gsI, if_pos (bN_t h)]
theorem gsI_f {c : Nat → Nat → Nat} {f i : Nat} (h : ¬ gsA c (gsI c f i) i (c 20 1)) : gsI c f (i + 1) = anN (gsI c f i) (2 ^ i) := by rw [gsI, if_neg (by rw [bN_f h]; decide)]
noncomputable def grI (c : Nat → Nat → Nat) : Nat → Nat
  | 0 => 2 ^ c 20 1 - 1
  | q + 1 => gsI c (grI c q) (c 20 1)
theorem gsI_dn {c : Nat → Nat → Nat} {f i v : Nat} : ∀ k, tb (gsI c f (i + k)) v → tb (gsI c f i) v
  | 0, h => h
  | k + 1, h => by
    refine gsI_dn k ?_
    rcases Classical.em (gsA c (gsI c f (i + k)) (i + k) (c 20 1)) with z | z
    · rwa [show i + (k + 1) = i + k + 1 from rfl, gsI_t z] at h
    · rw [show i + (k + 1) = i + k + 1 from rfl, gsI_f z] at h
      exact (anN_bit.mp h).1
theorem gsI_sub {c : Nat → Nat → Nat} {f i v : Nat} (h : tb (gsI c f i) v) : tb f v := by
  have h2 := gsI_dn (c := c) (f := f) (i := 0) (v := v) i (by rwa [Nat.zero_add])
  exact h2
theorem gsI_le (c : Nat → Nat → Nat) (f i : Nat) : gsI c f i ≤ f := le_bits (fun _ h => gsI_sub h)
theorem grI_lt (c : Nat → Nat → Nat) : ∀ q, grI c q < 2 ^ c 20 1
  | 0 => by
    show 2 ^ c 20 1 - 1 < 2 ^ c 20 1
    have := Nat.two_pow_pos (c 20 1)
    omega
  | q + 1 => Nat.lt_of_le_of_lt (gsI_le _ _ _) (grI_lt c q)
theorem gr_const {c : Nat → Nat → Nat} {t : Nat} (h : grI c (t + 1) = grI c t) : ∀ k, grI c (t + k) = grI c t
  | 0 => rfl
  | k + 1 => by
    show gsI c (grI c (t + k)) (c 20 1) = _
    rw [gr_const h k]
    exact h
theorem gr_still (c : Nat → Nat → Nat) : gsI c (grI c (c 20 1 + 1)) (c 20 1) = grI c (c 20 1 + 1) := by
  obtain ⟨t, ht, hs⟩ := grow_still (S := fun t v => v < c 20 1 + 1 ∧ (v = c 20 1 ∨ ¬ tb (grI c t) v)) (n := c 20 1 + 1) (a := c 20 1) (by omega) ⟨by omega, Or.inl rfl⟩
    (fun t v h => ⟨h.1, h.2.elim Or.inl (fun z => Or.inr (fun z2 => z (gsI_sub z2)))⟩) (fun t v h => h.1)
  have e : grI c (t + 1) = grI c t := by
    refine Nat.le_antisymm (gsI_le _ _ _) (le_bits (fun v hv => ?_))
    apply Classical.byContradiction
    intro hn
    have hvn : v < c 20 1 := bit_lt (grI_lt c t) hv
    have h4 := hs v ⟨by omega, Or.inr hn⟩
    rcases h4.2 with z | z
    · omega
    · exact z hv
  have h5 := gr_const e (c 20 1 + 1 - t)
  rw [show t + (c 20 1 + 1 - t) = c 20 1 + 1 by omega] at h5
  rw [h5]
  exact e
theorem gs_fix {c : Nat → Nat → Nat} {f u : Nat} (h : gsI c f (c 20 1) = f) (hu : u < c 20 1) (hb : tb f u) : gsA c f u (c 20 1) := by
  have he : ∀ i, i ≤ c 20 1 → gsI c f i = f := fun i hi => by
    refine Nat.le_antisymm (gsI_le _ _ _) (le_bits (fun v hv => ?_))
    refine gsI_dn (c 20 1 - i) ?_
    rw [show i + (c 20 1 - i) = c 20 1 by omega, h]
    exact hv
  apply Classical.byContradiction
  intro hn
  have h1 := gsI_f (c := c) (f := f) (i := u) (by rw [he u (by omega)]; exact hn)
  rw [he (u + 1) (by omega), he u (by omega)] at h1
  rw [h1] at hb
  exact (anN_bit.mp hb).2 rfl
theorem gs_keeps {c : Nat → Nat → Nat} {S : Nat → Prop} (hS : ∀ u, S u → u < c 20 1 ∧ (c 5 u = 0 ∧ c 4 u ≤ c 2 u) ∧ stC c S S u) {f : Nat} (hf : ∀ u, S u → tb f u) : ∀ i u, S u → tb (gsI c f i) u
  | 0, u, h => hf u h
  | i + 1, u, h => by
    have ih := gs_keeps hS hf i
    rcases Classical.em (gsA c (gsI c f i) i (c 20 1)) with z | z
    · rw [gsI_t z]; exact ih u h
    · rw [gsI_f z]
      refine anN_bit.mpr ⟨ih u h, fun e => z ?_⟩
      subst e
      obtain ⟨h1, h2, h3⟩ := hS u h
      refine ⟨h2, fun v hv hb => ?_⟩
      rcases h3 v hb with q | q
      · exact Or.inl (ih v q)
      · exact Or.inr ⟨q.2.1, ih _ q.2.2⟩
theorem gr_keeps {c : Nat → Nat → Nat} {S : Nat → Prop} (hS : ∀ u, S u → u < c 20 1 ∧ (c 5 u = 0 ∧ c 4 u ≤ c 2 u) ∧ stC c S S u) : ∀ q u, S u → tb (grI c q) u
  | 0, u, h => bits_lt.mpr (hS u h).1
  | q + 1, u, h => gs_keeps hS (gr_keeps hS q) _ u h
theorem can_gs {c : Nat → Nat → Nat} (hI : IC c) : canC c = grI c (c 20 1 + 1) := by
  have hst : ∀ u, tb (grI c (c 20 1 + 1)) u → u < c 20 1 ∧ gsA c (grI c (c 20 1 + 1)) u (c 20 1) := fun u hu => ⟨bit_lt (grI_lt c _) hu, gs_fix (gr_still c) (bit_lt (grI_lt c _) hu) hu⟩
  refine Nat.le_antisymm (le_bits ?_) (le_bits ?_)
  · refine gr_keeps (S := tb (canC c)) (fun u hu => ?_) _
    have h1 := able_kp _ (show tb (kpI c (c 20 1 + 1)) u from hu)
    have h2 : (keepS c (canC c)).testBit u = true := by rw [canC_still]; exact hu
    exact ⟨h1.1, h1.2, (keep_iff.mp h2).2.2⟩
  · have hsub : ∀ i u, tb (grI c (c 20 1 + 1)) u → tb (kpI c i) u := by
      intro i
      induction i with
      | zero =>
        intro u hu
        exact mk_bit.mpr ⟨(hst u hu).1, (hst u hu).2.1⟩
      | succ i ih =>
        intro u hu
        refine keep_iff.mpr ⟨(hst u hu).1, ih u hu, fun v hv => ?_⟩
        have hvn : v < c 20 1 := bit_lt (IC_7 hI u) hv
        rcases (hst u hu).2.2 v hvn hv with h | h
        · exact Or.inl (ih v h)
        · exact Or.inr ⟨hvn, h.1, ih _ h.2⟩
    exact fun u hu => hsub _ u hu
/-! what is reached, as the law finds it -/
noncomputable def cL (r : Nat → Nat → Nat) (n : Nat) : Nat → Nat → Nat := fun a i => if a = 7 then (if i < n then r 14 i else 0) else if a = 8 then (if i < n then mk (fun v => wun r (8 * i + v)) n else 0) else if a = 20 then n else 0
theorem cL_7 {r : Nat → Nat → Nat} {n : Nat} (h : ∀ u, u < n → r 14 u < 2 ^ n) : ∀ u, cL r n 7 u < 2 ^ cL r n 20 1 := fun u => by
  show (if u < n then r 14 u else 0) < 2 ^ n
  split
  · exact h u (by assumption)
  · exact Nat.two_pow_pos n
theorem cL_8 (r : Nat → Nat → Nat) (n : Nat) : ∀ u, cL r n 8 u < 2 ^ cL r n 20 1 := fun u => by
  show (if u < n then mk (fun v => wun r (8 * u + v)) n else 0) < 2 ^ n
  split
  · exact mk_lt n
  · exact Nat.two_pow_pos n
theorem rdB_lt {c : Nat → Nat → Nat} {fl a N : Nat} (h7 : ∀ u, c 7 u < 2 ^ N) (h8 : ∀ u, c 8 u < 2 ^ N) (ha : a < N) : ∀ t, rdB c fl a t < 2 ^ N
  | 0 => Nat.two_pow_pos N
  | t + 1 => rdI_lt h7 h8 ha t
theorem rd_stop {c : Nat → Nat → Nat} {fl a t : Nat} (h7 : ∀ u, c 7 u < 2 ^ c 20 1) (h8 : ∀ u, c 8 u < 2 ^ c 20 1) (ha : a < c 20 1) (h : c 20 1 < t) : rdI c fl a t = rdB c fl a t := by
  obtain ⟨q, hq, hs⟩ := grow_still (S := fun t v => (rdI c fl a t).testBit v = true) ha (by simp [rdI]) (fun t v hv => rsI_mono (k := 0) (Nat.zero_le _) hv)
    (fun t v hv => bit_lt (rdI_lt (fl := fl) h7 h8 ha t) hv)
  have e : rdI c fl a (q + 1) = rdI c fl a q := by
    apply Nat.eq_of_testBit_eq
    intro v
    cases h1 : (rdI c fl a q).testBit v
    · cases h2 : (rdI c fl a (q + 1)).testBit v
      · rfl
      · rw [hs v h2] at h1; cases h1
    · exact rsI_mono (k := 0) (Nat.zero_le _) h1
  obtain ⟨k, rfl⟩ : ∃ k, t = k + 1 := ⟨t - 1, by omega⟩
  have h1 := rdI_const e (k + 1 - q)
  have h2 := rdI_const e (k - q)
  rw [show q + (k + 1 - q) = k + 1 by omega] at h1
  rw [show q + (k - q) = k by omega] at h2
  show rdI c fl a (k + 1) = rdI c fl a k
  rw [h1, h2]
theorem rsI_no {c : Nat → Nat → Nat} {fl f i : Nat} (h : ¬ (rsI c fl f i).testBit i = true) : rsI c fl f (i + 1) = rsI c fl f i := by rw [rsI, if_neg h]
theorem rsI_yes {r : Nat → Nat → Nat} {n f i j : Nat} (h : (rsI (cL r n) 1 f i).testBit i = true) (hi : i < n) (hj : j = n) : rsI (cL r n) 1 f (i + 1) = rsI (cL r n) 1 f i ||| r 14 i ||| mk (fun v => wun r (8 * i + v)) j := by
  subst hj
  rw [rsI, if_pos h]
  unfold rsE
  rw [if_neg (by decide), show cL r j 7 i = r 14 i from if_pos hi, show cL r j 8 i = mk (fun v => wun r (8 * i + v)) j from if_pos hi, Nat.or_assoc]
