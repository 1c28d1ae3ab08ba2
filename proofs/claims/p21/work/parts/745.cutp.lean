/-! WHAT IS CUT, as the law finds it, beside the ghost ρ -/
def pk (a b f : Nat) : Nat := if a = 0 then 0 else a + 128 * b + 1048576 * f
def LWr (r ρ : Nat → Nat → Nat) : Prop := ∀ u v, u < 8 → v < 8 → r 2 (8 * u + v) = pk (ρ 8 (20 * u + v)) (ρ 9 (20 * u + v)) (ρ 11 (20 * u + v))
def WSp (ρ : Nat → Nat → Nat) : Prop := (∀ e, ρ 8 e < 128) ∧ (∀ u v, u < 8 → v < 8 → 0 < ρ 8 (20 * u + v) → ρ 9 (20 * u + v) < 8192) ∧ ∀ u v u' v', u < 8 → v < 8 → u' < 8 → v' < 8 → 0 < ρ 8 (20 * u + v) → 0 < ρ 8 (20 * u' + v') → ρ 9 (20 * u + v) = ρ 9 (20 * u' + v') → 20 * u + v = 20 * u' + v'
theorem and20 (x : Nat) : x &&& 1048575 = x % 1048576 := Nat.and_two_pow_sub_one_eq_mod x 20
theorem and7 (x : Nat) : x &&& 127 = x % 128 := Nat.and_two_pow_sub_one_eq_mod x 7
theorem or20 {x : Nat} (h : x < 1048576) : x ||| 1048576 = x + 1048576 := by
  have h2 := Nat.two_pow_add_eq_or_of_lt (i := 20) (b := x) h 1
  rw [Nat.or_comm]
  have h3 : (2 : Nat) ^ 20 * 1 = 1048576 := by decide
  rw [h3] at h2
  omega
theorem pk_wun {r : Nat → Nat → Nat} {i a b f : Nat} (h : r 2 i = pk a b f) (ha : a < 128) (hb : 0 < a → b < 8192) (hf : f ≤ 1) : wun r i ↔ 0 < a ∧ f = 0 := by
  unfold wun
  rw [h]
  unfold pk
  have e : (2 : Nat) ^ 20 = 1048576 := by decide
  rw [e]
  split
  · omega
  · have := hb (by omega)
    omega
theorem pk_clr {a b f : Nat} (ha : a < 128) (hb : 0 < a → b < 8192) : pk a b f &&& 1048575 = pk a b 0 := by
  rw [and20]
  unfold pk
  split
  · rfl
  · have := hb (by omega)
    omega
def ordr (r : Nat → Nat → Nat) (k : Nat) : Nat := ((r 2 k &&& 127) * 8192) + (r 2 k / 2 ^ 7)
theorem pk_ord {r : Nat → Nat → Nat} {i a b : Nat} (h : r 2 i = pk a b 0) (h0 : 0 < a) (ha : a < 128) : ordr r i = a * 8192 + b := by
  unfold ordr
  rw [h, and7]
  unfold pk
  have e : (2 : Nat) ^ 7 = 128 := by decide
  rw [e, if_neg (by omega)]
  omega
theorem ord31 {r : Nat → Nat → Nat} (h : BR r) (k : Nat) : ordr r k < 2 ^ 31 := by
  unfold ordr
  have h1 := h 2 k (by decide)
  have h2 : r 2 k &&& 127 ≤ 127 := Nat.and_le_right
  have e : (2 : Nat) ^ 7 = 128 := by decide
  rw [e]
  omega
def LQ (r : Nat → Nat → Nat) (n k : Nat) : Prop := k % 8 < n ∧ wun r k ∧ Rch (eC (cL r n) 1) (k % 8) (k / 8)
noncomputable def lwI (r : Nat → Nat → Nat) (n : Nat) : Nat → Nat
  | 0 => 0
  | k + 1 => if bN (LQ r n k ∧ (lwI r n k = 0 ∨ ordr r k < ordr r (lwI r n k - 1))) = 1 then k + 1 else lwI r n k
theorem lwI_t {r : Nat → Nat → Nat} {n k : Nat} (h : LQ r n k) (h2 : lwI r n k = 0 ∨ ordr r k < ordr r (lwI r n k - 1)) : lwI r n (k + 1) = k + 1 := by rw [lwI, if_pos (bN_t ⟨h, h2⟩)]
theorem lwI_f {r : Nat → Nat → Nat} {n k : Nat} (h : ¬ (LQ r n k ∧ (lwI r n k = 0 ∨ ordr r k < ordr r (lwI r n k - 1)))) : lwI r n (k + 1) = lwI r n k := by rw [lwI, if_neg (by rw [bN_f h]; decide)]
theorem lw_spec (r : Nat → Nat → Nat) (n : Nat) : ∀ k, (lwI r n k = 0 → ∀ q, q < k → ¬ LQ r n q) ∧ (∀ e, lwI r n k = e + 1 → e < k ∧ LQ r n e ∧ ∀ q, q < k → LQ r n q → ordr r e ≤ ordr r q)
  | 0 => ⟨fun _ q hq => absurd hq (Nat.not_lt_zero q), fun e h => (by cases h)⟩
  | k + 1 => by
    obtain ⟨ih1, ih2⟩ := lw_spec r n k
    rcases Classical.em (LQ r n k ∧ (lwI r n k = 0 ∨ ordr r k < ordr r (lwI r n k - 1))) with z | z
    · rw [lwI_t z.1 z.2]
      refine ⟨fun h => (by cases h), fun e he => ?_⟩
      have he : k = e := by omega
      subst he
      refine ⟨Nat.lt_succ_self _, z.1, fun q hq hl => ?_⟩
      rcases Nat.lt_or_ge q k with y | y
      · rcases z.2 with w | w
        · exact absurd hl (ih1 w q y)
        · obtain ⟨f, hf⟩ : ∃ f, lwI r n k = f + 1 := by
            cases h9 : lwI r n k with
            | zero => exact absurd hl (ih1 h9 q y)
            | succ f => exact ⟨f, rfl⟩
          rw [hf, Nat.add_sub_cancel] at w
          exact Nat.le_trans (Nat.le_of_lt w) ((ih2 f hf).2.2 q y hl)
      · have e2 : q = k := by omega
        rw [e2]
        exact Nat.le_refl _
    · rw [lwI_f z]
      refine ⟨fun h q hq hl => ?_, fun e he => ?_⟩
      · rcases Nat.lt_or_ge q k with y | y
        · exact ih1 h q y hl
        · have e2 : q = k := by omega
          subst e2
          exact z ⟨hl, Or.inl h⟩
      · obtain ⟨a1, a2, a3⟩ := ih2 e he
        refine ⟨by omega, a2, fun q hq hl => ?_⟩
        rcases Nat.lt_or_ge q k with y | y
        · exact a3 q y hl
        · have e2 : q = k := by omega
          subst e2
          apply Nat.not_lt.mp
          intro w
          exact z ⟨hl, Or.inr (by rw [he, Nat.add_sub_cancel]; exact w)⟩
theorem lwI_le {r : Nat → Nat → Nat} {n k w : Nat} (h : lwI r n k = w + 1) : w < k := ((lw_spec r n k).2 w h).1
/-- the law's graph is the ghost's -/
theorem cL_e {r σ : Nat → Nat → Nat} {n : Nat} (hn : n ≤ 8) (e0 : σ 30 0 = n) (h14 : ∀ u, u < n → r 14 u < 2 ^ n) (hE : ∀ u v, u < n → v < n → ((r 14 u).testBit v = true ↔ 0 < σ 7 (20 * u + v))) (hW : ∀ u v, u < n → v < n → (wun r (8 * u + v) ↔ 0 < σ 8 (20 * u + v) ∧ σ 11 (20 * u + v) = 0)) (u v : Nat) : eC (cL r n) 1 u v ↔ eR σ 1 u v := by
  unfold eC eR
  rw [e0, show cL r n 20 1 = n from rfl]
  constructor
  · rintro ⟨hu, h⟩
    rw [show cL r n 7 u = r 14 u from if_pos hu, show cL r n 8 u = mk (fun v => wun r (8 * u + v)) n from if_pos hu] at h
    rcases h with h | ⟨-, h⟩
    · have hv := bit_lt (h14 u hu) h
      exact ⟨hu, hv, Or.inl ((hE u v hu hv).mp h)⟩
    · have hv := (mk_bit.mp h).1
      exact ⟨hu, hv, Or.inr ⟨by decide, (hW u v hu hv).mp (mk_bit.mp h).2⟩⟩
  · rintro ⟨hu, hv, h⟩
    refine ⟨hu, ?_⟩
    rw [show cL r n 7 u = r 14 u from if_pos hu, show cL r n 8 u = mk (fun v => wun r (8 * u + v)) n from if_pos hu]
    rcases h with h | ⟨-, h⟩
    · exact Or.inl ((hE u v hu hv).mpr h)
    · exact Or.inr ⟨by decide, mk_bit.mpr ⟨hv, (hW u v hu hv).mpr h⟩⟩
theorem wk_lw {r σ : Nat → Nat → Nat} {n : Nat} (hn : n ≤ 8) (e0 : σ 30 0 = n) (h14 : ∀ u, u < n → r 14 u < 2 ^ n) (hE : ∀ u v, u < n → v < n → ((r 14 u).testBit v = true ↔ 0 < σ 7 (20 * u + v))) (hL : LWr r σ) (hS : WSp σ) (h1 : ∀ e, σ 11 e ≤ 1) : (lwI r n (8 * n) = 0 → wkR σ = 0) ∧ (∀ w, lwI r n (8 * n) = w + 1 → wkR σ = 20 * (w / 8) + w % 8 + 1 ∧ w % 8 < n ∧ w / 8 < n) := by
  have hW : ∀ u v, u < n → v < n → (wun r (8 * u + v) ↔ 0 < σ 8 (20 * u + v) ∧ σ 11 (20 * u + v) = 0) := fun u v hu hv => pk_wun (hL u v (by omega) (by omega)) (hS.1 _) (hS.2.1 u v (by omega) (by omega)) (h1 _)
  have hR : ∀ a b, Rch (eC (cL r n) 1) a b ↔ Rch (eR σ 1) a b := Rch_cg (cL_e hn e0 h14 hE hW)
  have hq : ∀ u v, u < n → v < n → (LQ r n (8 * u + v) ↔ LPk σ (u * n + v)) := fun u v hu hv => by
    unfold LQ LPk atE
    rw [e0, (qd hv).1, (qd hv).2, show (8 * u + v) % 8 = v by omega, show (8 * u + v) / 8 = u by omega, hR, hW u v hu hv]
    exact ⟨fun z => ⟨z.2.1.1, z.2.1.2, z.2.2⟩, fun z => ⟨hv, ⟨z.1, z.2.1⟩, z.2.2⟩⟩
  have ho : ∀ u v, u < n → v < n → 0 < σ 8 (20 * u + v) → σ 11 (20 * u + v) = 0 → ordr r (8 * u + v) = σ 8 (20 * u + v) * 8192 + σ 9 (20 * u + v) := fun u v hu hv hp hc => by
    have h9 := hL u v (by omega) (by omega)
    rw [hc] at h9
    exact pk_ord h9 hp (hS.1 _)
  obtain ⟨w1, w2⟩ := wk_spec σ (σ 30 0 * σ 30 0)
  obtain ⟨l1, l2⟩ := lw_spec r n (8 * n)
  have back : ∀ q, q < n * n → ∃ u v, u < n ∧ v < n ∧ q = u * n + v := fun q hq => by
    rcases Nat.eq_zero_or_pos n with z | z
    · subst z; omega
    · refine ⟨q / n, q % n, Nat.div_lt_of_lt_mul hq, Nat.mod_lt _ z, ?_⟩
      rw [Nat.mul_comm]
      exact (Nat.div_add_mod q n).symm
  constructor
  · intro h
    cases hk : wkR σ with
    | zero => rfl
    | succ e =>
      exfalso
      obtain ⟨q, hqq, -, hp, -⟩ := w2 e hk
      rw [e0] at hqq
      obtain ⟨u, v, hu, hv, rfl⟩ := back q hqq
      exact l1 h (8 * u + v) (by omega) ((hq u v hu hv).mpr hp)
  · intro w hw
    obtain ⟨a1, a2, a3⟩ := l2 w hw
    have hv : w % 8 < n := a2.1
    have hu : w / 8 < n := by omega
    have ew : 8 * (w / 8) + w % 8 = w := by omega
    refine ⟨?_, hv, hu⟩
    have hp := (hq _ _ hu hv).mp (by rw [ew]; exact a2)
    have hlt : w / 8 * n + w % 8 < n * n := by
      have : w / 8 * n + n ≤ n * n := by
        have h9 : (w / 8 + 1) * n ≤ n * n := Nat.mul_le_mul_right n (by omega)
        rwa [Nat.add_mul, Nat.one_mul] at h9
      omega
    cases hk : wkR σ with
    | zero => exact absurd hp (w1 hk _ (by rw [e0]; exact hlt))
    | succ e =>
      obtain ⟨q, hqq, he, hp2, hmin⟩ := w2 e hk
      rw [e0] at hqq
      have h5 := hmin _ (by rw [e0]; exact hlt) hp
      obtain ⟨u', v', hu', hv', rfl⟩ := back q hqq
      have h6 := a3 (8 * u' + v') (by omega) ((hq u' v' hu' hv').mpr hp2)
      have x1 : atE σ (w / 8 * n + w % 8) = 20 * (w / 8) + w % 8 := by unfold atE; rw [e0, (qd hv).1, (qd hv).2]
      have x2 : atE σ (u' * n + v') = 20 * u' + v' := by unfold atE; rw [e0, (qd hv').1, (qd hv').2]
      obtain ⟨p1, p2, -⟩ := hp
      obtain ⟨q1, q2, -⟩ := hp2
      rw [x1] at p1 p2 h5
      rw [x2] at q1 q2 he
      subst he
      have o1 := ho _ _ hu hv p1 p2
      have o2 := ho _ _ hu' hv' q1 q2
      rw [ew] at o1
      rw [o1, o2] at h6
      unfold lxE at h5
      have b1 := hS.2.1 _ _ (by omega) (by omega) p1
      have b2 := hS.2.1 _ _ (by omega) (by omega) q1
      have : 20 * u' + v' = 20 * (w / 8) + w % 8 := hS.2.2 _ _ _ _ (by omega) (by omega) (by omega) (by omega) q1 p1 (by omega)
      omega
theorem LWr_clr {r r1 ρ : Nat → Nat → Nat} (hL : LWr r ρ) (hS : WSp ρ) (h : ∀ k, k < 64 → r1 2 k = r 2 k &&& 1048575) : LWr r1 (r_clr (up2 ρ 30 22 0) 400) := fun u v hu hv => by
  rw [h _ (by omega), hL u v hu hv, pk_clr (hS.1 _) (hS.2.1 u v hu hv)]
  have e8 : r_clr (up2 ρ 30 22 0) 400 8 (20 * u + v) = ρ 8 (20 * u + v) := by unfold r_clr; rw [if_neg (by omega), up2_c (by decide)]
  have e9 : r_clr (up2 ρ 30 22 0) 400 9 (20 * u + v) = ρ 9 (20 * u + v) := by unfold r_clr; rw [if_neg (by omega), up2_c (by decide)]
  have e11 : r_clr (up2 ρ 30 22 0) 400 11 (20 * u + v) = 0 := by unfold r_clr; rw [if_pos (by omega)]
  rw [e8, e9, e11]
theorem clr_n (ρ : Nat → Nat → Nat) {a i : Nat} (h : a ≠ 11) (h2 : a ≠ 30 ∨ i ≠ 22) : r_clr (up2 ρ 30 22 0) 400 a i = ρ a i := by
  unfold r_clr
  rw [if_neg (fun z => h z.1)]
  exact up_off (fun z => by omega)
theorem WSp_cut {ρ : Nat → Nat → Nat} (hS : WSp ρ) (t : Nat) : WSp (cutI (r_clr (up2 ρ 30 22 0) 400) t) := by
  have e8 : ∀ e, cutI (r_clr (up2 ρ 30 22 0) 400) t 8 e = ρ 8 e := fun e => (cutI_n _ 8 e (by decide) t).trans (clr_n ρ (by decide) (by omega))
  have e9 : ∀ e, cutI (r_clr (up2 ρ 30 22 0) 400) t 9 e = ρ 9 e := fun e => (cutI_n _ 9 e (by decide) t).trans (clr_n ρ (by decide) (by omega))
  unfold WSp
  simp only [e8, e9]
  exact hS
theorem IR_c0 {ρ : Nat → Nat → Nat} (h : IR ρ) : IR (r_clr (up2 ρ 30 22 0) 400) := IR_clr (IR_obj h (Or.inr (Or.inr (Or.inr (Or.inr (Or.inr (Or.inr ⟨rfl, by decide⟩))))))) 400
theorem LWr_cut {r σ : Nat → Nat → Nat} {w : Nat} (hL : LWr r σ) (hS : WSp σ) (h1 : ∀ e, σ 11 e ≤ 1) (hu : w / 8 < 8) (hk : wkR σ = 20 * (w / 8) + w % 8 + 1) (hp : 0 < σ 8 (20 * (w / 8) + w % 8)) (hz : σ 11 (20 * (w / 8) + w % 8) = 0) : LWr (up2 r 2 w (r 2 w ||| 1048576)) (up2 σ 11 (wkR σ - 1) 1) := fun u v hu' hv' => by
  rw [hk, Nat.add_sub_cancel, up2_c (show (8 : Nat) ≠ 11 by decide), up2_c (show (9 : Nat) ≠ 11 by decide)]
  by_cases e : 8 * u + v = w
  · subst e
    rw [show (8 * u + v) / 8 = u by omega, show (8 * u + v) % 8 = v by omega] at *
    rw [up2_s, up2_s, hL u v hu' hv', hz]
    have b := hS.1 (20 * u + v)
    have b2 := hS.2.1 u v hu' hv' hp
    unfold pk
    rw [if_neg (by omega), if_neg (by omega), Nat.mul_zero, Nat.add_zero, or20 (by omega)]
  · rw [up2_i e, up2_i (by omega)]
    exact hL u v hu' hv'
