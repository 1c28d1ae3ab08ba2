/-! pure rows of the ghost: a second picture of the state, by which the invariants are carried -/
def okR (r : Nat → Nat → Nat) (x : Int32) : Prop := ∃ j, j < r 30 0 ∧ x = nI j
theorem okR_iff {r : Nat → Nat → Nat} {x : Int32} (hn : r 30 0 ≤ 20) : (¬ x < nI 0 ∧ x ≤ siI (r 30 0)) ↔ okR r x := by
  unfold okR
  constructor
  · intro h
    rcases Nat.eq_zero_or_pos (r 30 0) with e | e
    · rw [e, siI_0] at h
      exfalso
      have h1 := h.1
      have h2 := h.2
      rw [Int32.lt_iff_toInt_lt] at h1
      rw [Int32.le_iff_toInt_le] at h2
      have e1 : (nI 0).toInt = 0 := by decide
      have e2 : (-1 : Int32).toInt = -1 := by decide
      omega
    · obtain ⟨k, hk⟩ : ∃ k, r 30 0 = k + 1 := ⟨r 30 0 - 1, by omega⟩
      rw [hk, siI_s] at h
      obtain ⟨t, ht, e2⟩ := inR_nI (lo := 0) (hi := k) h (by decide) (by omega)
      exact ⟨t, by omega, e2⟩
  · intro ⟨j, hj, e⟩
    obtain ⟨k, hk⟩ : ∃ k, r 30 0 = k + 1 := ⟨r 30 0 - 1, by omega⟩
    rw [hk, siI_s, e]
    exact inR_of (Nat.zero_le _) (by omega) (by omega)
theorem b01 {x : Nat} {P : Prop} (h : x ≤ 1) (hp : 0 < x ↔ P) : x = bN P := by
  rcases Nat.eq_zero_or_pos x with e | e
  · rw [bN_f (fun z => absurd (hp.mpr z) (by omega)), e]
  · rw [bN_t (hp.mp e)]; omega
theorem rr_one {r r1 : Nat → Nat → Nat} {fl a k : Nat} (hv : k % r 30 0 < r 30 0) (hS : ∀ j, j < r 30 0 → (0 < r1 21 j ↔ rrS r fl a k j)) (h : rrS r fl a (k + 1) (k % r 30 0)) : ∀ j, j < r 30 0 → (0 < up2 r1 21 (k % r 30 0) 1 21 j ↔ rrS r fl a (k + 1) j) := by
  intro j hj
  by_cases e : j = k % r 30 0
  · rw [e, up2_s]; exact ⟨fun _ => h, fun _ => by decide⟩
  · rw [up2_i e, hS j hj]; exact ⟨Or.inl, fun z => z.elim id (fun z => absurd z.1 e)⟩
theorem rr_zero {r r1 : Nat → Nat → Nat} {fl a k : Nat} (hv : k % r 30 0 < r 30 0) (hS : ∀ j, j < r 30 0 → (0 < r1 21 j ↔ rrS r fl a k j)) (h1 : ¬ rrS r fl a k (k % r 30 0)) (h2 : ¬ (rrS r fl a k (k / r 30 0 % r 30 0) ∧ eR r fl (k / r 30 0 % r 30 0) (k % r 30 0))) : ∀ j, j < r 30 0 → (0 < up2 r1 21 (k % r 30 0) 0 21 j ↔ rrS r fl a (k + 1) j) := by
  intro j hj
  by_cases e : j = k % r 30 0
  · subst e
    rw [up2_s]
    exact ⟨fun z => absurd z (by decide), fun z => z.elim (fun z => absurd z h1) (fun z => absurd z.2 h2)⟩
  · rw [up2_i e, hS j hj]; exact ⟨Or.inl, fun z => z.elim id (fun z => absurd z.1 e)⟩
theorem BRr_up {r : Nat → Nat → Nat} {a i v : Nat} (h : BRr r) (hv : v < 2 ^ 31) : BRr (up2 r a i v) := fun b j hb => by
  unfold up2
  split
  · exact hv
  · exact h b j hb
theorem rcnt_le {r : Nat → Nat → Nat} (h : IR r) : r_cnt r ≤ 20 := Nat.le_trans (ct_le _) (IR_n h)
noncomputable def gP (P : Nat → Prop) (n : Nat) : Nat → Nat
  | 0 => 0
  | i + 1 => if bN (P (n - 1 - i)) = 1 then n - 1 - i + 1 else gP P n i
theorem gP_t {P : Nat → Prop} {n i : Nat} (h : P (n - 1 - i)) : gP P n (i + 1) = n - 1 - i + 1 := by rw [gP, if_pos (bN_t h)]
theorem gP_f {P : Nat → Prop} {n i : Nat} (h : ¬ P (n - 1 - i)) : gP P n (i + 1) = gP P n i := by rw [gP, if_neg (by rw [bN_f h]; decide)]
theorem gP_fP {P : Nat → Prop} {n : Nat} : ∀ i, i ≤ n → fP P (n - i) = 0 → fP P n = gP P n i
  | 0, _, h => h
  | i + 1, hi, h => by
    rcases Classical.em (P (n - 1 - i)) with hp | hp
    · rw [gP_t hp]
      exact fP_hit (by rw [show n - 1 - i = n - (i + 1) by omega]; exact h) hp (by omega)
    · rw [gP_f hp]
      refine gP_fP i (by omega) ?_
      have := fP_miss h (by rw [show n - (i + 1) = n - 1 - i by omega]; exact hp)
      rwa [show n - (i + 1) + 1 = n - i by omega] at this
theorem gP_all {P : Nat → Prop} {n : Nat} : gP P n n = fP P n := (gP_fP n (Nat.le_refl _) (by rw [Nat.sub_self]; rfl)).symm
def tb (f : Nat) (v : Nat) : Prop := f.testBit v = true
theorem cnP_t {r : Nat → Nat → Nat} {u i : Nat} {S : Nat → Prop} (h : cnP r u S i) (h2 : r 7 (20 * u + i) = 0 ∨ hasP r S i) : cnP r u S (i + 1) := ⟨h.1, alQ_t h.2 h2⟩
theorem cnP_f1 {r : Nat → Nat → Nat} {u i : Nat} {S : Nat → Prop} (h : ¬ cnP r u S i) : ¬ cnP r u S (i + 1) := fun z => h ⟨z.1, fun v hv => z.2 v (by omega)⟩
theorem cnP_f2 {r : Nat → Nat → Nat} {u i : Nat} {S : Nat → Prop} (h : r 7 (20 * u + i) ≠ 0) (h2 : ¬ hasP r S i) : ¬ cnP r u S (i + 1) := fun z => (z.2 i (by omega)).elim h h2
theorem cnP_mono {r : Nat → Nat → Nat} {u i : Nat} {S T : Nat → Prop} (h : ∀ v, S v → T v) (hc : cnP r u S i) : cnP r u T i :=
  ⟨hc.1, fun v hv => (hc.2 v hv).elim Or.inl (fun z => Or.inr (z.elim (fun z => Or.inl (h _ z)) (fun z => Or.inr ⟨z.1, h _ z.2⟩)))⟩
theorem cnP_thr {r : Nat → Nat → Nat} {u i w : Nat} {S : Nat → Prop} : cnP (up2 r 30 22 w) u S i ↔ cnP r u S i := Iff.rfl
theorem anN_bit {f u v : Nat} : tb (anN f (2 ^ u)) v ↔ tb f v ∧ v ≠ u := by
  unfold tb anN
  rw [Nat.testBit_xor, Nat.testBit_and, Nat.testBit_two_pow]
  by_cases e : u = v
  · subst e; cases f.testBit u <;> simp
  · have e2 : v ≠ u := fun z => e z.symm
    cases f.testBit v <;> simp [e, e2]
theorem le_bits : ∀ {g f : Nat}, (∀ v, tb g v → tb f v) → g ≤ f := by
  intro g
  induction g using Nat.strongRecOn with
  | ind g ih =>
    intro f h
    rcases Nat.eq_zero_or_pos g with e | e
    · omega
    · have h2 : g / 2 ≤ f / 2 := ih (g / 2) (by omega) (fun v hv => by
        have := h (v + 1) (by unfold tb at hv ⊢; rw [Nat.testBit_succ]; exact hv)
        unfold tb at this ⊢; rw [Nat.testBit_succ] at this; exact this)
      have h0 := h 0
      unfold tb at h0
      rw [Nat.testBit_zero, Nat.testBit_zero] at h0
      simp only [decide_eq_true_eq] at h0
      omega
theorem anN_le {f u : Nat} : anN f (2 ^ u) ≤ f := le_bits (fun v h => (anN_bit.mp h).1)
theorem bit0 {f v : Nat} : (f / 2 ^ v) &&& 1 = 0 ↔ ¬ tb f v := by
  unfold tb
  rw [← bit1]
  have : (f / 2 ^ v) &&& 1 < 2 ^ 1 := Nat.and_lt_two_pow _ (by decide)
  omega
theorem bits_lt {n u : Nat} : tb (2 ^ n - 1) u ↔ u < n := by
  unfold tb
  rw [Nat.testBit_two_pow_sub_one]
  exact decide_eq_true_iff
theorem siI_dn {n m : Nat} (h : n = m + 1) : siI n + (-1) = siI m := by
  rw [h, siI_s]
  unfold siI
  rw [Int32.sub_eq_add_neg]
theorem IR_ask {r : Nat → Nat → Nat} {x : Int32} (h : IR r) : IR (up2 r 30 22 (1 - bN (okR r x))) := IR_obj h (Or.inr (Or.inr (Or.inr (Or.inr (Or.inr (Or.inr ⟨rfl, by have h9 := bN_le (okR r x); omega⟩))))))
def r_clr (r : Nat → Nat → Nat) (k : Nat) : Nat → Nat → Nat := fun a i => if a = 11 ∧ i < k then 0 else r a i
theorem clr_s (r : Nat → Nat → Nat) (k : Nat) : up2 (r_clr r k) 11 k 0 = r_clr r (k + 1) := by
  funext a i
  unfold up2 r_clr
  by_cases h1 : a = 11 ∧ i = k
  · rw [if_pos h1, if_pos ⟨h1.1, by omega⟩]
  · rw [if_neg h1]
    by_cases h2 : a = 11 ∧ i < k
    · rw [if_pos h2, if_pos ⟨h2.1, by omega⟩]
    · rw [if_neg h2, if_neg (fun z => by rcases Nat.lt_or_ge i k with e | e; exact h2 ⟨z.1, e⟩; exact h1 ⟨z.1, by omega⟩)]
theorem clr_0 (r : Nat → Nat → Nat) : r_clr r 0 = r := by
  funext a i
  unfold r_clr
  rw [if_neg (fun z => absurd z.2 (Nat.not_lt_zero _))]
theorem IR_clr {r : Nat → Nat → Nat} (h : IR r) : ∀ k, IR (r_clr r k)
  | 0 => by rw [clr_0]; exact h
  | k + 1 => by rw [← clr_s]; exact IR_E11 (IR_clr h k) (Nat.zero_le _)
noncomputable def cutI (r : Nat → Nat → Nat) : Nat → Nat → Nat → Nat
  | 0 => r
  | j + 1 => up2 (cutI r j) 11 (wkR (cutI r j) - 1) 1
theorem IR_cutI {r : Nat → Nat → Nat} (h : IR r) : ∀ j, IR (cutI r j)
  | 0 => h
  | j + 1 => IR_E11 (IR_cutI h j) (Nat.le_refl _)
noncomputable def unc (r : Nat → Nat → Nat) : Nat := ct (fun e => 0 < r 8 e ∧ r 11 e = 0) 400
theorem wkI_P {r : Nat → Nat → Nat} (hn : r 30 0 ≤ 20) : ∀ k w, k ≤ r 30 0 * r 30 0 → wkI r k = w + 1 → w < 400 ∧ 0 < r 8 w ∧ r 11 w = 0
  | 0, _, _, h => by cases h
  | k + 1, w, hk, h => by
    rcases Classical.em (wkP r k (wkI r k)) with hp | hp
    · rw [wkI_t hp] at h
      have hd := dm_lt (n := r 30 0) (k := k) (by omega) hn
      have : w = 20 * (k / r 30 0) + k % r 30 0 := by omega
      rw [this]
      exact ⟨hd.2.2, hp.1, hp.2.1⟩
    · rw [wkI_f hp] at h
      exact wkI_P hn k w (by omega) h
theorem wkR_P {r : Nat → Nat → Nat} (hn : r 30 0 ≤ 20) {w : Nat} (h : wkR r = w + 1) : w < 400 ∧ 0 < r 8 w ∧ r 11 w = 0 := wkI_P hn _ w (Nat.le_refl _) h
theorem cutI_n (r : Nat → Nat → Nat) (a i : Nat) (ha : a ≠ 11) : ∀ j, cutI r j a i = r a i
  | 0 => rfl
  | j + 1 => (up2_c ha).trans (cutI_n r a i ha j)
theorem unc_dn {r : Nat → Nat → Nat} (hn : r 30 0 ≤ 20) {w : Nat} (h : wkR r = w + 1) : unc r = unc (up2 r 11 w 1) + 1 := by
  obtain ⟨h1, h2, h3⟩ := wkR_P hn h
  refine ct_one (u := w) ?_ ⟨h2, h3⟩ h1 (fun i _ hi => ?_)
  · intro z
    have := z.2
    rw [up2_s] at this
    cases this
  · rw [up2_c (show (8 : Nat) ≠ 11 by decide), up2_i hi]
theorem up_cg {r r1 : Nat → Nat → Nat} {w : Nat} (h : ∀ a i, a ≠ 21 → r1 a i = r a i) {q i : Nat} (hq : q ≠ 21) : up2 r1 11 w 1 q i = up2 r 11 w 1 q i := by
  unfold up2
  split
  · rfl
  · exact h q i hq
def r_bg1 (r : Nat → Nat → Nat) (u : Nat) : Nat → Nat → Nat := up2 (up2 (up2 (up2 (up2 r 17 u (if r 6 u = 0 then 0 else 4)) 18 u 0) 19 u 0) 20 u (r 2 u)) 30 15 (r 30 15 + (if r 6 u = 0 then r 2 u else 0))
def r_bgI (r : Nat → Nat → Nat) : Nat → Nat → Nat → Nat
  | 0 => r
  | k + 1 => r_bg1 (r_bgI r k) k
def r_bgS (r : Nat → Nat → Nat) (b : Nat) : Nat → Nat → Nat := up2 (up2 (up2 (up2 r 30 12 1) 30 13 1) 30 14 b) 30 15 0
def r_begin (r : Nat → Nat → Nat) (b : Nat) : Nat → Nat → Nat := up2 (up2 (r_bgI (r_bgS r b) (r 30 0)) 30 16 0) 30 16 (r_rs (up2 (r_bgI (r_bgS r b) (r 30 0)) 30 16 0))
theorem IR_bgS {r : Nat → Nat → Nat} {b : Nat} (h : IR r) (hb : b ≤ 20) : IR (r_bgS r b) :=
  IR_obj (IR_obj (IR_obj (IR_obj h (Or.inr (Or.inl ⟨rfl, by decide⟩))) (Or.inr (Or.inr (Or.inl ⟨rfl, by decide⟩)))) (Or.inr (Or.inr (Or.inr (Or.inl ⟨rfl, hb⟩))))) (Or.inr (Or.inr (Or.inr (Or.inr (Or.inl ⟨rfl, by decide⟩)))))
theorem rbgI_n (r : Nat → Nat → Nat) : ∀ k, r_bgI r k 30 0 = r 30 0
  | 0 => rfl
  | k + 1 => (show r_bg1 (r_bgI r k) k 30 0 = _ from by unfold r_bg1; simp [up2]).trans (rbgI_n r k)
theorem IR_bgI {r : Nat → Nat → Nat} (h : IR r) (h0 : r 30 15 = 0) : ∀ k, k ≤ 20 → IR (r_bgI r k) ∧ r_bgI r k 30 15 ≤ 100 * k
  | 0, _ => ⟨h, by show r 30 15 ≤ _; omega⟩
  | k + 1, hk => by
    obtain ⟨h1, h2⟩ := IR_bgI h h0 k (by omega)
    have hu := IR_U h1 k
    have ht : (if r_bgI r k 6 k = 0 then r_bgI r k 2 k else 0) ≤ 100 := by
      unfold RU at hu
      split <;> omega
    have hI2 : IR (up2 (up2 (up2 (up2 (r_bgI r k) 17 k (if r_bgI r k 6 k = 0 then 0 else 4)) 18 k 0) 19 k 0) 20 k (r_bgI r k 2 k)) := by
      refine IR_unit (u := k) h1 (Ofr_up (Ofr_up (Ofr_up (Ofr_up Ofr_r (uR_d rfl)) (uR_d rfl)) (uR_d rfl)) (uR_d rfl)) ?_
      obtain ⟨u1, u2, u3, u4, u5, u6, u7, u8, u9, u10, u11⟩ := hu
      unfold RU
      simp only [up2_s, up2_c (show (1 : Nat) ≠ 17 by decide), up2_c (show (1 : Nat) ≠ 18 by decide), up2_c (show (1 : Nat) ≠ 19 by decide), up2_c (show (1 : Nat) ≠ 20 by decide), up2_c (show (2 : Nat) ≠ 17 by decide), up2_c (show (2 : Nat) ≠ 18 by decide), up2_c (show (2 : Nat) ≠ 19 by decide), up2_c (show (2 : Nat) ≠ 20 by decide), up2_c (show (3 : Nat) ≠ 17 by decide), up2_c (show (3 : Nat) ≠ 18 by decide), up2_c (show (3 : Nat) ≠ 19 by decide), up2_c (show (3 : Nat) ≠ 20 by decide), up2_c (show (4 : Nat) ≠ 17 by decide), up2_c (show (4 : Nat) ≠ 18 by decide), up2_c (show (4 : Nat) ≠ 19 by decide), up2_c (show (4 : Nat) ≠ 20 by decide), up2_c (show (6 : Nat) ≠ 17 by decide), up2_c (show (6 : Nat) ≠ 18 by decide), up2_c (show (6 : Nat) ≠ 19 by decide), up2_c (show (6 : Nat) ≠ 20 by decide), up2_c (show (17 : Nat) ≠ 18 by decide), up2_c (show (17 : Nat) ≠ 19 by decide), up2_c (show (17 : Nat) ≠ 20 by decide), up2_c (show (18 : Nat) ≠ 19 by decide), up2_c (show (18 : Nat) ≠ 20 by decide), up2_c (show (19 : Nat) ≠ 20 by decide), up2_c (show (21 : Nat) ≠ 17 by decide), up2_c (show (21 : Nat) ≠ 18 by decide), up2_c (show (21 : Nat) ≠ 19 by decide), up2_c (show (21 : Nat) ≠ 20 by decide)]
      split <;> omega
    refine ⟨IR_obj hI2 (Or.inr (Or.inr (Or.inr (Or.inr (Or.inl ⟨rfl, by omega⟩))))), ?_⟩
    show r_bg1 (r_bgI r k) k 30 15 ≤ _
    unfold r_bg1
    rw [up2_s]
    omega
/-! LAW'S WRAPPERS: rows -/
theorem lE_n {m : Nat} (h : m < 2 ^ 31) : (nI m).toInt64 = lE (m + 1) := by
  apply Int64.toInt_inj.mp
  have h1 : ((nI m).toInt64).toInt = (m : Int) := by rw [Int32.toInt_toInt64, nI_toInt h]
  rw [h1]
  unfold lE
  have e : lN (m + 1) - 1 = lN m := by
    have := lN_add m 1
    rw [← this]
    have e1 : (lN 1 : Int64) = 1 := by decide
    rw [e1, Int64.add_sub_cancel]
  rw [e, lN_toInt (by omega)]
theorem lE_s {k : Nat} (h : k < 2 ^ 31) : (siI k).toInt64 = lE k := by
  cases k with
  | zero => decide
  | succ j => rw [siI_s]; exact lE_n (by omega)
theorem fP_le20 (P : Nat → Prop) : ∀ n, fP P n ≤ n
  | 0 => Nat.le_refl _
  | n + 1 => by
    have := fP_le20 P n
    have h2 := bN_le (P n)
    rw [fP]
    split
    · have : bN (P n) * (n + 1) ≤ 1 * (n + 1) := Nat.mul_le_mul_right _ h2
      omega
    · omega

