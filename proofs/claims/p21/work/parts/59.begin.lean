/-! BEGIN: one pass by rising weight cuts what the weakest, again and again, cuts -/
def atE (r : Nat → Nat → Nat) (k : Nat) : Nat := 20 * (k / r 30 0) + k % r 30 0
def LPk (r : Nat → Nat → Nat) (k : Nat) : Prop := 0 < r 8 (atE r k) ∧ r 11 (atE r k) = 0 ∧ Rch (eR r 1) (k % r 30 0) (k / r 30 0)
def lxE (r : Nat → Nat → Nat) (a b : Nat) : Prop := r 8 a < r 8 b ∨ (r 8 a = r 8 b ∧ r 9 a < r 9 b)
theorem wkP_iff {r : Nat → Nat → Nat} {k f : Nat} : wkP r k f ↔ LPk r k ∧ (f = 0 ∨ lxE r (atE r k) (f - 1)) := by
  unfold wkP LPk lxE atE
  constructor
  · rintro ⟨a, b, d, e⟩; exact ⟨⟨a, b, e⟩, d⟩
  · rintro ⟨⟨a, b, e⟩, d⟩; exact ⟨a, b, d, e⟩
theorem wk_spec (r : Nat → Nat → Nat) : ∀ k, (wkI r k = 0 → ∀ q, q < k → ¬ LPk r q) ∧ (∀ e, wkI r k = e + 1 → ∃ q, q < k ∧ e = atE r q ∧ LPk r q ∧ ∀ p, p < k → LPk r p → ¬ lxE r (atE r p) e)
  | 0 => ⟨fun _ q hq => absurd hq (Nat.not_lt_zero q), fun e h => by cases h⟩
  | k + 1 => by
    obtain ⟨i1, i2⟩ := wk_spec r k
    by_cases hp : wkP r k (wkI r k)
    · rw [wkI_t hp]
      obtain ⟨hl, hf⟩ := wkP_iff.mp hp
      refine ⟨fun z => absurd z (Nat.succ_ne_zero _), fun e he => ⟨k, Nat.lt_succ_self k, ?_, hl, fun p hpk hlp => ?_⟩⟩
      · unfold atE; omega
      · have he2 : e = atE r k := by unfold atE; omega
        rw [he2]
        rcases Nat.lt_or_ge p k with e1 | e1
        · rcases hf with h0 | hlx
          · exact absurd hlp (i1 h0 p e1)
          · obtain ⟨m, hm⟩ : ∃ m, wkI r k = m + 1 := by
              rcases Nat.eq_zero_or_pos (wkI r k) with z | z
              · exact absurd hlp (i1 z p e1)
              · exact ⟨wkI r k - 1, by omega⟩
            rw [hm, Nat.add_sub_cancel] at hlx
            obtain ⟨q, hq1, hq2, hq3, hq4⟩ := i2 m hm
            have h9 := hq4 p e1 hlp
            unfold lxE at *
            omega
        · have : p = k := by omega
          subst this
          unfold lxE
          omega
    · rw [wkI_f hp]
      refine ⟨fun z q hq => ?_, fun e he => ?_⟩
      · rcases Nat.lt_or_ge q k with e1 | e1
        · exact i1 z q e1
        · have : q = k := by omega
          subst this
          exact fun hl => hp (wkP_iff.mpr ⟨hl, Or.inl z⟩)
      · obtain ⟨q, hq1, hq2, hq3, hq4⟩ := i2 e he
        refine ⟨q, by omega, hq2, hq3, fun p hpk hlp => ?_⟩
        rcases Nat.lt_or_ge p k with e1 | e1
        · exact hq4 p e1 hlp
        · have : p = k := by omega
          subst this
          intro hlx
          exact hp (wkP_iff.mpr ⟨hlp, Or.inr (by rw [he, Nat.add_sub_cancel]; exact hlx)⟩)
theorem e_iff3 {c ρ : Nat → Nat → Nat} (h7 : ∀ u, c 7 u < 2 ^ c 20 1) (h8 : ∀ u, c 8 u < 2 ^ c 20 1) (hE : Edg c ρ) (e0 : ρ 30 0 = c 20 1) (hn : c 20 1 ≤ 20) {fl : Nat} (u v : Nat) : eC c fl u v ↔ eR ρ fl u v := by
  unfold eC eR
  rw [e0]
  constructor
  · rintro ⟨hu, hv⟩
    have hvn : v < c 20 1 := hv.elim (fun z => bit_lt (h7 u) z) (fun z => bit_lt (h8 u) z.2)
    obtain ⟨e7, e8, -⟩ := hE u v (by omega) (by omega)
    exact ⟨hu, hvn, hv.elim (fun z => Or.inl (e7.mp z)) (fun z => Or.inr ⟨Nat.pos_of_ne_zero z.1, e8.mp z.2⟩)⟩
  · rintro ⟨hu, hvn, hv⟩
    obtain ⟨e7, e8, -⟩ := hE u v (by omega) (by omega)
    exact ⟨hu, hv.elim (fun z => Or.inl (e7.mpr z)) (fun z => Or.inr ⟨Nat.ne_of_gt z.1, e8.mpr z.2⟩)⟩
theorem Rch_mono {E F : Nat → Nat → Prop} (h : ∀ u v, E u v → F u v) {a b : Nat} (hr : Rch E a b) : Rch F a b := fun S h1 h2 => hr S h1 (fun u v hs he => h2 u v hs (h u v he))
/-- what stands after the wishes lighter than wt, and those of wt told ahead of j -/
def Cinv (c ρ0 : Nat → Nat → Nat) (x : (Nat → Nat → Nat) × Nat) (wt j : Nat) : Prop :=
  (∀ a i, a ≠ 8 → x.1 a i = c a i) ∧ (∀ u, x.1 8 u < 2 ^ c 20 1) ∧ Edg x.1 (cutI ρ0 x.2) ∧ (∀ q, q < x.2 → wkR (cutI ρ0 q) ≠ 0) ∧
  (∀ q, q < c 30 0 → (c 33 q < wt ∨ (c 33 q = wt ∧ q < j)) → (x.1 8 (c 31 q)).testBit (c 32 q) = true → ¬ Rch (eC x.1 1) (c 32 q) (c 31 q)) ∧
  (∀ q, q < c 30 0 → (wt < c 33 q ∨ (c 33 q = wt ∧ j ≤ q)) → (x.1 8 (c 31 q)).testBit (c 32 q) = true)
/-- the tables ahead of the cutting -/
def Ctx (c ρ0 : Nat → Nat → Nat) : Prop := IC c ∧ Wsh c ρ0 ∧ ρ0 30 0 = c 20 1
theorem qd {n a b : Nat} (hb : b < n) : (a * n + b) / n = a ∧ (a * n + b) % n = b := by
  have hn : 0 < n := by omega
  constructor
  · rw [Nat.mul_comm, Nat.mul_add_div hn, Nat.div_eq_of_lt hb, Nat.add_zero]
  · rw [Nat.mul_comm, Nat.mul_add_mod, Nat.mod_eq_of_lt hb]
/-- the next one in a loop is the weakest -/
theorem wk_is {c ρ0 : Nat → Nat → Nat} {x : (Nat → Nat → Nat) × Nat} {wt j : Nat} (hX : Ctx c ρ0) (h : Cinv c ρ0 x wt j) (hj : j < c 30 0) (hwt : c 33 j = wt) (hl : Rch (eC x.1 1) (c 32 j) (c 31 j)) : wkR (cutI ρ0 x.2) = 20 * c 31 j + c 32 j + 1 := by
  obtain ⟨hI, ⟨w1, w2, w3⟩, e0⟩ := hX
  obtain ⟨h1, h2, h3, h4, h5, h6⟩ := h
  have hn := IC_n hI
  have hWB := IC_W hI
  obtain ⟨ρ, hρ⟩ : ∃ z, z = cutI ρ0 x.2 := ⟨_, rfl⟩
  rw [← hρ] at h3 ⊢
  have r0 : ρ 30 0 = c 20 1 := by rw [hρ, cutI_n ρ0 30 0 (by decide)]; exact e0
  have r8 : ∀ e, ρ 8 e = ρ0 8 e := fun e => by rw [hρ]; exact cutI_n ρ0 8 e (by decide) _
  have r9 : ∀ e, ρ 9 e = ρ0 9 e := fun e => by rw [hρ]; exact cutI_n ρ0 9 e (by decide) _
  have x1 : x.1 20 1 = c 20 1 := h1 20 1 (by decide)
  have hiff : ∀ u v, eC x.1 1 u v ↔ eR ρ 1 u v := fun u v => e_iff3 (fun u => by rw [h1 7 u (by decide), x1]; exact IC_7 hI u) (fun u => by rw [x1]; exact h2 u) h3 (by rw [x1]; exact r0) (by rw [x1]; exact hn) u v
  obtain ⟨ja, jb, jw⟩ := hWB j hj
  have hk0 : LPk ρ (c 31 j * c 20 1 + c 32 j) ∧ atE ρ (c 31 j * c 20 1 + c 32 j) = 20 * c 31 j + c 32 j := by
    obtain ⟨d1, d2⟩ := qd (n := c 20 1) (a := c 31 j) jb
    have hat : atE ρ (c 31 j * c 20 1 + c 32 j) = 20 * c 31 j + c 32 j := by unfold atE; rw [r0, d1, d2]
    have hb := ((h3 (c 31 j) (c 32 j) (by omega) (by omega)).2.1).mp (h6 j hj (Or.inr ⟨hwt, Nat.le_refl j⟩))
    refine ⟨⟨by rw [hat]; exact hb.1, by rw [hat]; exact hb.2, ?_⟩, hat⟩
    rw [r0, d1, d2]
    exact (Rch_cg hiff _ _).mp hl
  have hlt : c 31 j * c 20 1 + c 32 j < ρ 30 0 * ρ 30 0 := by
    rw [r0]
    have : (c 31 j + 1) * c 20 1 ≤ c 20 1 * c 20 1 := Nat.mul_le_mul_right _ ja
    rw [Nat.add_mul, Nat.one_mul] at this
    omega
  obtain ⟨s1, s2⟩ := wk_spec ρ (ρ 30 0 * ρ 30 0)
  rcases Nat.eq_zero_or_pos (wkI ρ (ρ 30 0 * ρ 30 0)) with z | z
  · exact absurd hk0.1 (s1 z _ hlt)
  · obtain ⟨e, he⟩ : ∃ e, wkI ρ (ρ 30 0 * ρ 30 0) = e + 1 := ⟨_, (Nat.sub_add_cancel z).symm⟩
    obtain ⟨k, k1, k2, k3, k4⟩ := s2 e he
    have hmin := k4 _ hlt hk0.1
    rw [hk0.2] at hmin
    have hd := dm_lt (n := ρ 30 0) (k := k) k1 (by rw [r0]; exact hn)
    have ek : e = 20 * (k / ρ 30 0) + k % ρ 30 0 := k2
    obtain ⟨l1, l2, l3⟩ := k3
    rw [← k2] at l1 l2
    obtain ⟨q, q1, q2, q3⟩ := w2 (k / ρ 30 0) (k % ρ 30 0) (by omega) (by omega) (by rw [← r8, ← ek]; exact l1)
    have hq := w1 q q1
    have hjj := w1 j hj
    rw [q2, q3, ← ek] at hq
    have hbq : (x.1 8 (c 31 q)).testBit (c 32 q) = true := by
      rw [q2, q3]
      exact (h3 _ _ (by omega) (by omega)).2.1.mpr (by rw [← ek]; exact ⟨l1, l2⟩)
    have hlq : Rch (eC x.1 1) (c 32 q) (c 31 q) := by
      rw [q2, q3]
      exact (Rch_cg hiff _ _).mpr l3
    have hnot : ¬ (c 33 q < wt ∨ (c 33 q = wt ∧ q < j)) := fun z => h5 q q1 z hbq hlq
    unfold lxE at hmin
    rw [r8, r8, r9, r9, hjj.1, hjj.2, hq.1, hq.2] at hmin
    have hqj : q = j := by omega
    subst hqj
    show wkI ρ (ρ 30 0 * ρ 30 0) = _
    rw [he, ek, q2, q3]
theorem Cinv_step {c ρ0 : Nat → Nat → Nat} {x : (Nat → Nat → Nat) × Nat} {wt j : Nat} (hX : Ctx c ρ0) (h : Cinv c ρ0 x wt j) (hj : j < c 30 0) : Cinv c ρ0 (ct1 wt x j) wt (j + 1) := by
  have hsame : x.1 33 j = c 33 j ∧ x.1 32 j = c 32 j ∧ x.1 31 j = c 31 j := ⟨h.1 33 j (by decide), h.1 32 j (by decide), h.1 31 j (by decide)⟩
  by_cases hs : ctS x.1 wt j
  · rw [ct1_t hs]
    obtain ⟨s1, s2⟩ := hs
    rw [hsame.1] at s1
    rw [hsame.2.1, hsame.2.2] at s2
    have hwk := wk_is hX h hj s1 s2
    obtain ⟨hI, ⟨w1, w2, w3⟩, e0⟩ := hX
    obtain ⟨h1, h2, h3, h4, h5, h6⟩ := h
    have hn := IC_n hI
    have hWB := IC_W hI
    obtain ⟨ja, jb, jw⟩ := hWB j hj
    have hcut : c_cut x.1 j = up2 x.1 8 (c 31 j) (anN (x.1 8 (c 31 j)) (2 ^ c 32 j)) := by unfold c_cut; rw [hsame.2.1, hsame.2.2]
    have hci : cutI ρ0 (x.2 + 1) = up2 (cutI ρ0 x.2) 11 (20 * c 31 j + c 32 j) 1 := by
      show up2 (cutI ρ0 x.2) 11 (wkR (cutI ρ0 x.2) - 1) 1 = _
      rw [hwk, Nat.add_sub_cancel]
    have hbit : ∀ u v, ((c_cut x.1 j) 8 u).testBit v = true ↔ (x.1 8 u).testBit v = true ∧ ¬ (u = c 31 j ∧ v = c 32 j) := by
      intro u v
      rw [hcut]
      by_cases e : u = c 31 j
      · subst e
        rw [up2_s]
        exact anN_bit.trans (and_congr_right fun _ => ⟨fun z q => z q.2, fun z q => z ⟨rfl, q⟩⟩)
      · rw [up2_i e]
        exact ⟨fun z => ⟨z, fun q => e q.1⟩, fun z => z.1⟩
    have hmono : ∀ u v, eC (c_cut x.1 j) 1 u v → eC x.1 1 u v := by
      intro u v hz
      unfold eC at hz ⊢
      have e20 : c_cut x.1 j 20 1 = x.1 20 1 := by rw [hcut]; exact up2_c (by decide)
      have e7 : c_cut x.1 j 7 u = x.1 7 u := by rw [hcut]; exact up2_c (by decide)
      rw [e20, e7] at hz
      exact ⟨hz.1, hz.2.elim Or.inl (fun z => Or.inr ⟨z.1, ((hbit u v).mp z.2).1⟩)⟩
    have hne : ∀ q, q < c 30 0 → q ≠ j → ¬ (c 31 q = c 31 j ∧ c 32 q = c 32 j) := fun q hq hqj z => by
      have a1 := (w1 q hq).2
      have a2 := (w1 j hj).2
      rw [z.1, z.2] at a1
      omega
    refine ⟨fun a i ha => (show c_cut x.1 j a i = c a i from by rw [hcut, up2_c ha]; exact h1 a i ha), fun u => ?_, fun u v hu hv => ?_, fun q hq => ?_, fun q hq hlex hb hr => ?_, fun q hq hlex => ?_⟩
    · show c_cut x.1 j 8 u < _
      rw [hcut]
      by_cases e : u = c 31 j
      · subst e; rw [up2_s]; exact anN_lt2 (h2 _)
      · rw [up2_i e]; exact h2 u
    · have h9 := h3 u v hu hv
      show ((c_cut x.1 j 7 u).testBit v = true ↔ 0 < cutI ρ0 (x.2 + 1) 7 (20 * u + v)) ∧ ((c_cut x.1 j 8 u).testBit v = true ↔ 0 < cutI ρ0 (x.2 + 1) 8 (20 * u + v) ∧ cutI ρ0 (x.2 + 1) 11 (20 * u + v) = 0) ∧ (cutI ρ0 (x.2 + 1) 11 (20 * u + v) ≠ 0 → 0 < cutI ρ0 (x.2 + 1) 8 (20 * u + v))
      rw [hci, hbit, up2_c (show (7 : Nat) ≠ 11 by decide), up2_c (show (8 : Nat) ≠ 11 by decide)]
      refine ⟨by rw [hcut, up2_c (show (7 : Nat) ≠ 8 by decide)]; exact h9.1, ?_, ?_⟩
      · by_cases e : 20 * u + v = 20 * c 31 j + c 32 j
        · rw [e, up2_s]
          exact ⟨fun z => absurd ⟨by omega, by omega⟩ z.2, fun z => absurd z.2 (by decide)⟩
        · rw [up2_i e, ← h9.2.1]
          exact ⟨fun z => z.1, fun z => ⟨z, fun q => e (by rw [q.1, q.2])⟩⟩
      · by_cases e : 20 * u + v = 20 * c 31 j + c 32 j
        · intro _
          have a1 := (w1 j hj).1
          rw [e, cutI_n ρ0 8 _ (by decide), a1]
          omega
        · rw [up2_i e]; exact h9.2.2
    · have hq2 : q < x.2 + 1 := hq
      rcases Nat.lt_or_ge q x.2 with e | e
      · exact h4 q e
      · rw [show q = x.2 by omega, hwk]; exact Nat.succ_ne_zero _
    · have hb2 := (hbit _ _).mp hb
      have hqj : q ≠ j := fun z => hb2.2 (by rw [z]; exact ⟨rfl, rfl⟩)
      exact h5 q hq (by omega) hb2.1 (Rch_mono hmono hr)
    · have hqj : q ≠ j := fun z => by rw [z] at hlex; omega
      exact (hbit _ _).mpr ⟨h6 q hq (by omega), hne q hq hqj⟩
  · rw [ct1_f hs]
    obtain ⟨h1, h2, h3, h4, h5, h6⟩ := h
    refine ⟨h1, h2, h3, h4, fun q hq hlex hb hr => ?_, fun q hq hlex => h6 q hq (by omega)⟩
    by_cases hqj : q = j
    · subst hqj
      rcases hlex with z | ⟨z, -⟩
      · exact h5 q hq (Or.inl z) hb hr
      · exact hs ⟨by rw [hsame.1]; exact z, by rw [hsame.2.1, hsame.2.2]; exact hr⟩
    · exact h5 q hq (by omega) hb hr
theorem Cinv_J {c ρ0 : Nat → Nat → Nat} {x : (Nat → Nat → Nat) × Nat} {wt : Nat} (hX : Ctx c ρ0) (h : Cinv c ρ0 x wt 0) : ∀ j, j ≤ c 30 0 → Cinv c ρ0 (ctJ wt x j) wt j
  | 0, _ => h
  | j + 1, hj => Cinv_step hX (Cinv_J hX h j (by omega)) (by omega)
theorem Cinv_W {c ρ0 : Nat → Nat → Nat} {x : (Nat → Nat → Nat) × Nat} (hX : Ctx c ρ0) (h : Cinv c ρ0 x 1 0) : ∀ k, Cinv c ρ0 (ctW (c 30 0) x k) (k + 1) 0
  | 0 => h
  | k + 1 => by
    obtain ⟨h1, h2, h3, h4, h5, h6⟩ := Cinv_J hX (Cinv_W hX h k) (c 30 0) (Nat.le_refl _)
    exact ⟨h1, h2, h3, h4, fun q hq hlex hb hr => h5 q hq (by omega) hb hr, fun q hq hlex => h6 q hq (by omega)⟩
/-- at the end no wish is in a loop -/
theorem wk_0 {c ρ0 : Nat → Nat → Nat} {x : (Nat → Nat → Nat) × Nat} (hX : Ctx c ρ0) (h : Cinv c ρ0 x 101 0) : wkR (cutI ρ0 x.2) = 0 := by
  obtain ⟨hI, ⟨w1, w2, w3⟩, e0⟩ := hX
  obtain ⟨h1, h2, h3, h4, h5, h6⟩ := h
  have hn := IC_n hI
  have hWB := IC_W hI
  obtain ⟨ρ, hρ⟩ : ∃ z, z = cutI ρ0 x.2 := ⟨_, rfl⟩
  rw [← hρ] at h3 ⊢
  have r0 : ρ 30 0 = c 20 1 := by rw [hρ, cutI_n ρ0 30 0 (by decide)]; exact e0
  have r8 : ∀ e, ρ 8 e = ρ0 8 e := fun e => by rw [hρ]; exact cutI_n ρ0 8 e (by decide) _
  have x1 : x.1 20 1 = c 20 1 := h1 20 1 (by decide)
  have hiff : ∀ u v, eC x.1 1 u v ↔ eR ρ 1 u v := fun u v => e_iff3 (fun u => by rw [h1 7 u (by decide), x1]; exact IC_7 hI u) (fun u => by rw [x1]; exact h2 u) h3 (by rw [x1]; exact r0) (by rw [x1]; exact hn) u v
  obtain ⟨s1, s2⟩ := wk_spec ρ (ρ 30 0 * ρ 30 0)
  rcases Nat.eq_zero_or_pos (wkI ρ (ρ 30 0 * ρ 30 0)) with z | z
  · exact z
  · exfalso
    obtain ⟨e, he⟩ : ∃ e, wkI ρ (ρ 30 0 * ρ 30 0) = e + 1 := ⟨_, (Nat.sub_add_cancel z).symm⟩
    obtain ⟨k, k1, k2, ⟨l1, l2, l3⟩, -⟩ := s2 e he
    have hd := dm_lt (n := ρ 30 0) (k := k) k1 (by rw [r0]; exact hn)
    have hat : atE ρ k = 20 * (k / ρ 30 0) + k % ρ 30 0 := rfl
    rw [hat] at l1 l2
    obtain ⟨q, q1, q2, q3⟩ := w2 (k / ρ 30 0) (k % ρ 30 0) (by omega) (by omega) (by rw [← r8]; exact l1)
    have := hWB q q1
    refine h5 q q1 (by omega) ?_ ?_
    · rw [q2, q3]; exact (h3 _ _ (by omega) (by omega)).2.1.mpr ⟨l1, l2⟩
    · rw [q2, q3]; exact (Rch_cg hiff _ _).mpr l3
/-- all wishes kept again -/
theorem ka_bit {c : Nat → Nat → Nat} (u v : Nat) : ∀ k, (c_kaI c k 8 u).testBit v = true ↔ (c 8 u).testBit v = true ∨ ∃ j, j < k ∧ c 31 j = u ∧ c 32 j = v
  | 0 => ⟨Or.inl, fun z => z.elim id (fun ⟨_, h, _⟩ => absurd h (Nat.not_lt_zero _))⟩
  | k + 1 => by
    have ih := ka_bit u v k (c := c)
    show ((c_ka1 (c_kaI c k) k) 8 u).testBit v = true ↔ _
    unfold c_ka1
    rw [kaI_n c 31 k (by decide), kaI_n c 32 k (by decide)]
    by_cases e : u = c 31 k
    · subst e
      rw [up2_s, Nat.testBit_or, Bool.or_eq_true, ih, Nat.testBit_two_pow]
      constructor
      · rintro ((z | ⟨j, z1, z2, z3⟩) | z)
        · exact Or.inl z
        · exact Or.inr ⟨j, by omega, z2, z3⟩
        · exact Or.inr ⟨k, Nat.lt_succ_self k, rfl, by simpa using z⟩
      · rintro (z | ⟨j, z1, z2, z3⟩)
        · exact Or.inl (Or.inl z)
        · rcases Nat.lt_or_ge j k with e2 | e2
          · exact Or.inl (Or.inr ⟨j, e2, z2, z3⟩)
          · right
            rw [show j = k by omega] at z3
            simpa using z3
    · rw [up2_i e, ih]
      constructor
      · rintro (z | ⟨j, z1, z2, z3⟩)
        · exact Or.inl z
        · exact Or.inr ⟨j, by omega, z2, z3⟩
      · rintro (z | ⟨j, z1, z2, z3⟩)
        · exact Or.inl z
        · rcases Nat.lt_or_ge j k with e2 | e2
          · exact Or.inr ⟨j, e2, z2, z3⟩
          · exact absurd (by rw [← z2, show j = k by omega]) e
theorem cut_eq {c r : Nat → Nat → Nat} {J : Nat} (hI : IC c) (hE : Edg c r) (hW : Wsh c r) (e0 : r 30 0 = c 20 1) (hnz : ∀ j, j < J → wkR (cutI (r_clr (up2 r 30 22 0) 400) j) ≠ 0) (h0 : wkR (cutI (r_clr (up2 r 30 22 0) 400) J) = 0) :
    (cutC c).2 = J ∧ Edg (cutC c).1 (cutI (r_clr (up2 r 30 22 0) 400) J) := by
  obtain ⟨ρ0, hρ⟩ : ∃ z, z = r_clr (up2 r 30 22 0) 400 := ⟨_, rfl⟩
  rw [← hρ] at hnz h0 ⊢
  have r8 : ∀ e, ρ0 8 e = r 8 e := fun e => by rw [hρ]; rfl
  have r9 : ∀ e, ρ0 9 e = r 9 e := fun e => by rw [hρ]; rfl
  have r7 : ∀ e, ρ0 7 e = r 7 e := fun e => by rw [hρ]; rfl
  have r11 : ∀ e, e < 400 → ρ0 11 e = 0 := fun e he => by rw [hρ]; unfold r_clr; rw [if_pos ⟨rfl, he⟩]
  have rn : ρ0 30 0 = c 20 1 := by rw [hρ, ← e0]; rfl
  have rt : ρ0 30 10 = r 30 10 := by rw [hρ]; rfl
  have hn := IC_n hI
  have hWB := IC_W hI
  have hX : Ctx c ρ0 := by
    refine ⟨hI, ⟨fun j hj => by rw [r8, r9]; exact hW.1 j hj, fun u v hu hv h => by rw [r8] at h; exact hW.2.1 u v hu hv h, by rw [rt]; exact hW.2.2⟩, rn⟩
  have hIk := IC_kaI hI (c 30 0) (Nat.le_refl _)
  have h1 : Cinv c ρ0 (c_kaI c (c 30 0), 0) 1 0 := by
    refine ⟨fun a i ha => kaI_n c a i ha _, fun u => ?_, fun u v hu hv => ⟨?_, ?_, ?_⟩, fun q hq => absurd hq (Nat.not_lt_zero q), fun q hq hlex => ?_, fun q hq _ => (ka_bit _ _ _).mpr (Or.inr ⟨q, hq, rfl, rfl⟩)⟩
    · have h9 := IC_8 hIk u
      rw [kaI_n c 20 1 (by decide)] at h9
      exact h9
    · show (c_kaI c (c 30 0) 7 u).testBit v = true ↔ 0 < ρ0 7 (20 * u + v)
      rw [kaI_n c 7 u (by decide), r7]
      exact (hE u v hu hv).1
    · show (c_kaI c (c 30 0) 8 u).testBit v = true ↔ 0 < ρ0 8 (20 * u + v) ∧ ρ0 11 (20 * u + v) = 0
      rw [ka_bit, r8]
      constructor
      · intro z
        refine ⟨?_, r11 _ (by omega)⟩
        rcases z with z | ⟨j, z1, z2, z3⟩
        · exact ((hE u v hu hv).2.1.mp z).1
        · have := (hW.1 j z1).1
          have h9 := hWB j z1
          rw [z2, z3] at this
          omega
      · intro z
        obtain ⟨j, z1, z2, z3⟩ := hW.2.1 u v hu hv z.1
        exact Or.inr ⟨j, z1, z2, z3⟩
    · intro z
      exact absurd (r11 _ (by omega)) z
    · have := hWB q hq
      omega
  have h2 := Cinv_W hX h1 100
  have h3 := wk_0 hX h2
  have hcc : cutC c = ctW (c 30 0) (c_kaI c (c 30 0), 0) 100 := rfl
  rw [← hcc] at h2 h3
  have hJ : (cutC c).2 = J := by
    rcases Nat.lt_trichotomy (cutC c).2 J with e | e | e
    · exact absurd h3 (hnz _ e)
    · exact e
    · exact absurd h0 (h2.2.2.2.1 _ e)
  refine ⟨hJ, ?_⟩
  rw [← hJ]
  exact h2.2.2.1
