/-! what act answers, by name -/
def PA_add (c : Nat → Nat → Nat) (x : Int32) (y : Int32) (v9 : Int32) (u9 : Nat → Nat → Nat) : Prop := (∃ E, (fun E => (E = exA ∧ ¬ (inR x 1 100 ∧ inR y 0 3)) ∨ (E = exS ∧ (inR x 1 100 ∧ inR y 0 3) ∧ ¬ (c 20 1 < 20 ∧ c 20 3 = 0))) E ∧ v9 = xcode E ∧ u9 = c) ∨ (∃ t k, (1 ≤ t ∧ t ≤ 100) ∧ (0 ≤ k ∧ k ≤ 3) ∧ x = nI t ∧ y = nI k ∧ c 20 1 < 20 ∧ c 20 3 = 0 ∧ v9 = nI (c 20 1) ∧ u9 = up2 (up2 (up2 c 1 (c 20 1) t) 2 (c 20 1) k) 20 1 (c 20 1 + 1))
def PA_need (c : Nat → Nat → Nat) (x : Int32) (y : Int32) (v9 : Int32) (u9 : Nat → Nat → Nat) : Prop := (∃ E, (fun E => (E = exO ∧ ¬ (okU c x ∧ okU c y)) ∨ (E = exS ∧ ∃ a b, a < c 20 1 ∧ b < c 20 1 ∧ x = nI a ∧ y = nI b ∧ ¬ (¬ Rch (eC c 0) b a ∧ c 20 3 = 0))) E ∧ v9 = xcode E ∧ u9 = c) ∨ (∃ a b, a < c 20 1 ∧ b < c 20 1 ∧ x = nI a ∧ y = nI b ∧ ¬ Rch (eC c 0) b a ∧ c 20 3 = 0 ∧ v9 = nI (bN ((c 7 a).testBit b = true)) ∧ u9 = up2 c 7 a (c 7 a ||| 2 ^ b))
def PA_wish (c : Nat → Nat → Nat) (x : Int32) (y : Int32) (z : Int32) (v9 : Int32) (u9 : Nat → Nat → Nat) : Prop := (∃ E, (fun E => (E = exO ∧ ¬ (okU c x ∧ okU c y)) ∨ (E = exA ∧ okU c x ∧ okU c y ∧ ¬ (inR z 1 100 ∧ x ≠ y)) ∨ (E = exS ∧ okU c x ∧ okU c y ∧ (inR z 1 100 ∧ x ≠ y) ∧ c 20 3 ≠ 0)) E ∧ v9 = xcode E ∧ u9 = c) ∨ (∃ a b t, a < c 20 1 ∧ b < c 20 1 ∧ x = nI a ∧ y = nI b ∧ a ≠ b ∧ (1 ≤ t ∧ t ≤ 100) ∧ z = nI t ∧ c 20 3 = 0 ∧ ((wfK c a b = 0 ∧ v9 = nI 0 ∧ ∃ q p N ca, ca = c_app (up2 (up2 (up2 (up2 (up2 (up2 (c_raw c q) 38 2 (a + 1)) 38 3 (b + 1)) 38 4 t) 37 0 (c 37 0 + 1)) 35 0 p) 36 0 N) a b t ∧ c 30 0 < N ∧ N ≤ 2 * (c 30 0 + 1) + 10 ∧ u9 = up2 ca 8 a (ca 8 a ||| 2 ^ b)) ∨ (∃ j, wfK c a b = j + 1 ∧ v9 = nI (c 33 j) ∧ u9 = up2 c 33 j t)))
def PA_standIn (c : Nat → Nat → Nat) (x : Int32) (y : Int32) (v9 : Int32) (u9 : Nat → Nat → Nat) : Prop := (∃ E, (fun E => (E = exO ∧ ¬ (okU c x ∧ (y = -1 ∨ okU c y))) ∨ (E = exA ∧ okU c x ∧ okU c y ∧ x = y) ∨ (E = exS ∧ okU c x ∧ (y = -1 ∨ okU c y) ∧ x ≠ y ∧ c 20 3 ≠ 0)) E ∧ v9 = xcode E ∧ u9 = c) ∨ (∃ a k, a < c 20 1 ∧ x = nI a ∧ (k = 0 ∧ y = -1 ∨ ∃ b, b < c 20 1 ∧ y = nI b ∧ b ≠ a ∧ k = b + 1) ∧ c 20 3 = 0 ∧ v9 = siI (c 6 a) ∧ u9 = up2 c 6 a k)
def PA_hold (c : Nat → Nat → Nat) (x : Int32) (b : Nat) (v9 : Int32) (u9 : Nat → Nat → Nat) : Prop := (∃ E, (fun E => (E = exO ∧ ¬ okU c x) ∨ (E = exS ∧ okU c x ∧ c 20 3 ≠ 0)) E ∧ v9 = xcode E ∧ u9 = c) ∨ (∃ a, a < c 20 1 ∧ x = nI a ∧ c 20 3 = 0 ∧ v9 = nI (c 5 a) ∧ u9 = up2 c 5 a b)
def PA_setFaults (c : Nat → Nat → Nat) (x : Int32) (y : Int32) (v9 : Int32) (u9 : Nat → Nat → Nat) : Prop := (∃ E, (fun E => (E = exO ∧ ¬ okU c x) ∨ (E = exA ∧ okU c x ∧ ¬ inR y 0 10)) E ∧ v9 = xcode E ∧ u9 = c) ∨ (∃ a t, a < c 20 1 ∧ x = nI a ∧ (0 ≤ t ∧ t ≤ 10) ∧ y = nI t ∧ v9 = nI (c 4 a) ∧ u9 = up2 c 4 a t)
def PA_setTime (c : Nat → Nat → Nat) (x : Int32) (y : Int32) (v9 : Int32) (u9 : Nat → Nat → Nat) : Prop := (∃ E, (fun E => (E = exO ∧ ¬ okU c x) ∨ (E = exA ∧ okU c x ∧ ¬ inR y 1 100)) E ∧ v9 = xcode E ∧ u9 = c) ∨ (∃ a t, a < c 20 1 ∧ x = nI a ∧ (1 ≤ t ∧ t ≤ 100) ∧ y = nI t ∧ v9 = nI (c 1 a) ∧ u9 = up2 c 1 a t)
def PA_begin (c : Nat → Nat → Nat) (x : Int32) (v9 : Int32) (u9 : Nat → Nat → Nat) : Prop := (∃ E, (fun E => (E = exA ∧ ¬ inR x 1 20) ∨ (E = exS ∧ inR x 1 20 ∧ c 20 3 ≠ 0)) E ∧ v9 = xcode E ∧ u9 = c) ∨ (∃ b, (1 ≤ b ∧ b ≤ 20) ∧ x = nI b ∧ c 20 3 = 0 ∧ v9 = nI (cutC (up2 c 20 4 b)).2 ∧ u9 = c_begin c b)
def PA_tick (c : Nat → Nat → Nat) (x : Int32) (v9 : Int32) (u9 : Nat → Nat → Nat) : Prop := (∃ E, (fun E => (E = exA ∧ ¬ inR x 1 200) ∨ (E = exS ∧ inR x 1 200 ∧ c 20 3 = 0)) E ∧ v9 = xcode E ∧ u9 = c) ∨ (∃ t i, (1 ≤ t ∧ t ≤ 200) ∧ x = nI t ∧ c 20 3 ≠ 0 ∧ i ≤ t ∧ (∀ j, j < i → c_tkI c j 20 3 ≠ 0) ∧ (i = t ∨ c_tkI c i 20 3 = 0) ∧ v9 = nI i ∧ u9 = c_tkI c i)
theorem reach_n {c : Nat → Nat → Nat} {fl a b i : Nat} (h7 : ∀ u, c 7 u < 2 ^ c 20 1) (h8 : ∀ u, c 8 u < 2 ^ c 20 1) (ha : a < c 20 1) (hi : c 20 1 ≤ i) : (rdI c fl a i).testBit b = true ↔ Rch (eC c fl) a b := by
  have e : rdI c fl a (i + 1) = rdI c fl a i := rd_stop h7 h8 ha (by omega)
  rw [← e]
  exact reach_fin h7 h8 ha (Or.inr e)
theorem rsI_if (c : Nat → Nat → Nat) (f i : Nat) : rsI c 0 f (i + 1) = rsI c 0 f i ||| (if (rsI c 0 f i).testBit i = true then c 7 i else 0) := by
  by_cases h : (rsI c 0 f i).testBit i = true
  · rw [rsI, if_pos h, if_pos h]
    unfold rsE
    rw [if_pos rfl, Nat.or_zero]
  · rw [rsI, if_neg h, if_neg h, Nat.or_zero]
section LR3
variable {p : Program} {l : Launch} {e : Env} {R : Room} {s : State} {m : MethodId} {args : Array Value} {below : List Frame} {meth : Method} {cd : Code} {H : Heap} {locs : List Loc} {cells slots : Nat} {Q : State → Prop}
variable {cc : ByteArray} {pc : Nat} {ls : Array Slot} {rest : List Value} {a b : Nat}
theorem n_shl (hexec : p.tables.exec = Jvm.exec) (hb : cd.code = cc) (hdg : decode cc pc = .ok (.ishl, 1)) (h : b < 32) (h2 : a * 2 ^ b < 2 ^ 32) (k : W p l e R s m args below meth cd H locs cells slots Q (F0 m (pc + 1) ls (.int (nI (a * 2 ^ b)) :: rest))) : W p l e R s m args below meth cd H locs cells slots Q (F0 m pc ls (.int (nI b) :: .int (nI a) :: rest)) :=
  lv_ishl hexec hb hdg (by rw [pk_shlN (nI b &&& 31) b (k_shc b h) h2]; exact k)
end LR3
theorem oku {c : Nat → Nat → Nat} {a : Nat} (h : a < c 20 1) : okU c (nI a) := ⟨a, h, rfl⟩
theorem A_need {c u9 : Nat → Nat → Nat} {a b : Nat} {v9 : Int32} (h : PA_need c (nI a) (nI b) v9 u9) (ha : a < c 20 1) (hb : b < c 20 1) (hn : c 20 1 ≤ 20) (hg : c 20 3 = 0) : (Rch (eC c 0) b a ∧ v9 = -1033 ∧ u9 = c) ∨ (¬ Rch (eC c 0) b a ∧ v9 = nI (bN ((c 7 a).testBit b = true)) ∧ u9 = up2 c 7 a (c 7 a ||| 2 ^ b)) := by
  rcases h with ⟨E, hE, h1, h2⟩ | ⟨a', b', ha', hb', ex, ey, hr, -, h1, h2⟩
  · rcases hE with ⟨-, z⟩ | ⟨rfl, a', b', ha', hb', ex, ey, z⟩
    · exact absurd ⟨oku ha, oku hb⟩ z
    · have e1 : a = a' := nI_ij (by omega) (by omega) ex
      have e2 : b = b' := nI_ij (by omega) (by omega) ey
      subst e1 e2
      refine Or.inl ⟨Classical.byContradiction (fun y => z ⟨y, hg⟩), by rw [h1, xc_S], h2⟩
  · have e1 : a = a' := nI_ij (by omega) (by omega) ex
    have e2 : b = b' := nI_ij (by omega) (by omega) ey
    subst e1 e2
    exact Or.inr ⟨hr, h1, h2⟩
theorem A_wish {c u9 : Nat → Nat → Nat} {a b t : Nat} {v9 : Int32} (h : PA_wish c (nI a) (nI b) (nI t) v9 u9) (ha : a < c 20 1) (hb : b < c 20 1) (hab : a ≠ b) (ht : 1 ≤ t ∧ t ≤ 100) (hn : c 20 1 ≤ 20) (hg : c 20 3 = 0) : (wfK c a b = 0 ∧ v9 = nI 0 ∧ ∃ q p N ca, ca = c_app (up2 (up2 (up2 (up2 (up2 (up2 (c_raw c q) 38 2 (a + 1)) 38 3 (b + 1)) 38 4 t) 37 0 (c 37 0 + 1)) 35 0 p) 36 0 N) a b t ∧ c 30 0 < N ∧ N ≤ 2 * (c 30 0 + 1) + 10 ∧ u9 = up2 ca 8 a (ca 8 a ||| 2 ^ b)) ∨ (∃ j, wfK c a b = j + 1 ∧ v9 = nI (c 33 j) ∧ u9 = up2 c 33 j t) := by
  rcases h with ⟨E, hE, h1, h2⟩ | ⟨a', b', t', ha', hb', ex, ey, -, ht', ez, -, h9⟩
  · exfalso
    rcases hE with ⟨-, z⟩ | ⟨-, -, -, z⟩ | ⟨-, -, -, -, z⟩
    · exact z ⟨oku ha, oku hb⟩
    · exact z ⟨inR_of ht.1 ht.2 (by decide), fun e => hab (nI_ij (by omega) (by omega) e)⟩
    · exact z hg
  · have e1 : a = a' := nI_ij (by omega) (by omega) ex
    have e2 : b = b' := nI_ij (by omega) (by omega) ey
    have e3 : t = t' := nI_ij (by omega) (by omega) ez
    subst e1 e2 e3
    exact h9
theorem A_standIn {c u9 : Nat → Nat → Nat} {a k : Nat} {v9 : Int32} (h : PA_standIn c (nI a) (siI k) v9 u9) (ha : a < c 20 1) (hk : k ≤ c 20 1) (hak : k ≠ a + 1) (hn : c 20 1 ≤ 20) (hg : c 20 3 = 0) : v9 = siI (c 6 a) ∧ u9 = up2 c 6 a k := by
  have hy : siI k = -1 ∨ okU c (siI k) := by
    cases k with
    | zero => exact Or.inl siI_0
    | succ j => exact Or.inr (by rw [siI_s]; exact oku (by omega))
  have hne : nI a ≠ siI k := by
    cases k with
    | zero => rw [siI_0]; exact fun z => nI_pos (show a < 2 ^ 31 by omega) (by rw [z]; decide)
    | succ j => rw [siI_s]; exact fun z => hak (by rw [nI_ij (show a < 2 ^ 31 by omega) (by omega) z])
  rcases h with ⟨E, hE, h1, h2⟩ | ⟨a', k', ha', ex, hk', -, h1, h2⟩
  · exfalso
    rcases hE with ⟨-, z⟩ | ⟨-, -, -, z⟩ | ⟨-, -, -, -, z⟩
    · exact z ⟨oku ha, hy⟩
    · exact hne z
    · exact z hg
  · have e1 : a = a' := nI_ij (by omega) (by omega) ex
    subst e1
    have e2 : k = k' := by
      rcases hk' with ⟨rfl, e⟩ | ⟨b, hb, e, -, rfl⟩
      · cases k with
        | zero => rfl
        | succ j => rw [siI_s] at e; exact absurd e (fun z => nI_pos (show j < 2 ^ 31 by omega) (by rw [z]; decide))
      · cases k with
        | zero => rw [siI_0] at e; exact absurd e.symm (fun z => nI_pos (show b < 2 ^ 31 by omega) (by rw [z]; decide))
        | succ j => rw [siI_s] at e; rw [nI_ij (show j < 2 ^ 31 by omega) (by omega) e]
    subst e2
    exact ⟨h1, h2⟩
theorem A_hold {c u9 : Nat → Nat → Nat} {a b : Nat} {v9 : Int32} (h : PA_hold c (nI a) b v9 u9) (ha : a < c 20 1) (hn : c 20 1 ≤ 20) (hg : c 20 3 = 0) : v9 = nI (c 5 a) ∧ u9 = up2 c 5 a b := by
  rcases h with ⟨E, hE, h1, h2⟩ | ⟨a', ha', ex, -, h1, h2⟩
  · exfalso
    rcases hE with ⟨-, z⟩ | ⟨-, -, z⟩
    · exact z (oku ha)
    · exact z hg
  · have e1 : a = a' := nI_ij (by omega) (by omega) ex
    subst e1
    exact ⟨h1, h2⟩
theorem A_setFaults {c u9 : Nat → Nat → Nat} {a t : Nat} {v9 : Int32} (h : PA_setFaults c (nI a) (nI t) v9 u9) (ha : a < c 20 1) (ht : t ≤ 10) (hn : c 20 1 ≤ 20) : v9 = nI (c 4 a) ∧ u9 = up2 c 4 a t := by
  rcases h with ⟨E, hE, h1, h2⟩ | ⟨a', t', ha', ex, ht', ey, h1, h2⟩
  · exfalso
    rcases hE with ⟨-, z⟩ | ⟨-, -, z⟩
    · exact z (oku ha)
    · exact z (inR_of (Nat.zero_le _) ht (by decide))
  · have e1 : a = a' := nI_ij (by omega) (by omega) ex
    have e2 : t = t' := nI_ij (by omega) (by omega) ey
    subst e1 e2
    exact ⟨h1, h2⟩
theorem A_setTime {c u9 : Nat → Nat → Nat} {a t : Nat} {v9 : Int32} (h : PA_setTime c (nI a) (nI t) v9 u9) (ha : a < c 20 1) (ht : 1 ≤ t ∧ t ≤ 100) (hn : c 20 1 ≤ 20) : v9 = nI (c 1 a) ∧ u9 = up2 c 1 a t := by
  rcases h with ⟨E, hE, h1, h2⟩ | ⟨a', t', ha', ex, ht', ey, h1, h2⟩
  · exfalso
    rcases hE with ⟨-, z⟩ | ⟨-, -, z⟩
    · exact z (oku ha)
    · exact z (inR_of ht.1 ht.2 (by decide))
  · have e1 : a = a' := nI_ij (by omega) (by omega) ex
    have e2 : t = t' := nI_ij (by omega) (by omega) ey
    subst e1 e2
    exact ⟨h1, h2⟩
theorem A_add {c u9 : Nat → Nat → Nat} {t k : Nat} {v9 : Int32} (h : PA_add c (nI t) (nI k) v9 u9) (ht : 1 ≤ t ∧ t ≤ 100) (hk : k ≤ 3) (hn : c 20 1 < 20) (hg : c 20 3 = 0) : v9 = nI (c 20 1) ∧ u9 = up2 (up2 (up2 c 1 (c 20 1) t) 2 (c 20 1) k) 20 1 (c 20 1 + 1) := by
  rcases h with ⟨E, hE, h1, h2⟩ | ⟨t', k', ht', hk', ex, ey, -, -, h1, h2⟩
  · exfalso
    rcases hE with ⟨-, z⟩ | ⟨-, -, z⟩
    · exact z ⟨inR_of ht.1 ht.2 (by decide), inR_of (Nat.zero_le _) hk (by decide)⟩
    · exact z ⟨hn, hg⟩
  · have e1 : t = t' := nI_ij (by omega) (by omega) ex
    have e2 : k = k' := nI_ij (by omega) (by omega) ey
    subst e1 e2
    exact ⟨h1, h2⟩
/-! refused -/
theorem R_addA {c u9 : Nat → Nat → Nat} {x y v9 : Int32} (h : PA_add c x y v9 u9) (hb : ¬ (inR x 1 100 ∧ inR y 0 3)) : v9 = -1032 ∧ u9 = c := by
  rcases h with ⟨E, hE, h1, h2⟩ | ⟨t', k', ht', hk', rfl, rfl, -⟩
  · rcases hE with ⟨rfl, -⟩ | ⟨-, z, -⟩
    · exact ⟨by rw [h1, xc_A], h2⟩
    · exact absurd z hb
  · exact absurd ⟨inR_of ht'.1 ht'.2 (by decide), inR_of hk'.1 hk'.2 (by decide)⟩ hb
theorem R_addS {c u9 : Nat → Nat → Nat} {x y v9 : Int32} (h : PA_add c x y v9 u9) (hb : inR x 1 100 ∧ inR y 0 3) (hg : c 20 3 ≠ 0) : v9 = -1033 ∧ u9 = c := by
  rcases h with ⟨E, hE, h1, h2⟩ | ⟨t', k', ht', hk', rfl, rfl, -, z, -⟩
  · rcases hE with ⟨-, z⟩ | ⟨rfl, -⟩
    · exact absurd hb z
    · exact ⟨by rw [h1, xc_S], h2⟩
  · exact absurd z hg
theorem R_needO {c u9 : Nat → Nat → Nat} {x y v9 : Int32} (h : PA_need c x y v9 u9) (hb : ¬ (okU c x ∧ okU c y)) : v9 = -1031 ∧ u9 = c := by
  rcases h with ⟨E, hE, h1, h2⟩ | ⟨a', b', ha', hb', rfl, rfl, -⟩
  · rcases hE with ⟨rfl, -⟩ | ⟨-, a', b', ha', hb', rfl, rfl, -⟩
    · exact ⟨by rw [h1, xc_O], h2⟩
    · exact absurd ⟨oku ha', oku hb'⟩ hb
  · exact absurd ⟨oku ha', oku hb'⟩ hb
theorem R_needS {c u9 : Nat → Nat → Nat} {a b : Nat} {v9 : Int32} (h : PA_need c (nI a) (nI b) v9 u9) (ha : a < c 20 1) (hb : b < c 20 1) (hn : c 20 1 ≤ 20) (hz : a = b ∨ c 20 3 ≠ 0) : v9 = -1033 ∧ u9 = c := by
  rcases h with ⟨E, hE, h1, h2⟩ | ⟨a', b', ha', hb', ex, ey, hr, hg, -⟩
  · rcases hE with ⟨-, z⟩ | ⟨rfl, -⟩
    · exact absurd ⟨oku ha, oku hb⟩ z
    · exact ⟨by rw [h1, xc_S], h2⟩
  · exfalso
    have e1 : a = a' := nI_ij (by omega) (by omega) ex
    have e2 : b = b' := nI_ij (by omega) (by omega) ey
    subst e1 e2
    rcases hz with rfl | z
    · exact hr (Rch_r _)
    · exact z hg
theorem R_wishO {c u9 : Nat → Nat → Nat} {x y z v9 : Int32} (h : PA_wish c x y z v9 u9) (hb : ¬ (okU c x ∧ okU c y)) : v9 = -1031 ∧ u9 = c := by
  rcases h with ⟨E, hE, h1, h2⟩ | ⟨a', b', t', ha', hb', rfl, rfl, -⟩
  · rcases hE with ⟨rfl, -⟩ | ⟨-, h3, h4, -⟩ | ⟨-, h3, h4, -⟩
    · exact ⟨by rw [h1, xc_O], h2⟩
    · exact absurd ⟨h3, h4⟩ hb
    · exact absurd ⟨h3, h4⟩ hb
  · exact absurd ⟨oku ha', oku hb'⟩ hb
theorem R_wishA {c u9 : Nat → Nat → Nat} {x y z v9 : Int32} (h : PA_wish c x y z v9 u9) (hx : okU c x) (hy : okU c y) (hb : ¬ (inR z 1 100 ∧ x ≠ y)) (hn : c 20 1 ≤ 20) : v9 = -1032 ∧ u9 = c := by
  rcases h with ⟨E, hE, h1, h2⟩ | ⟨a', b', t', ha', hb', rfl, rfl, hab, ht', rfl, -⟩
  · rcases hE with ⟨-, q⟩ | ⟨rfl, -⟩ | ⟨-, -, -, q, -⟩
    · exact absurd ⟨hx, hy⟩ q
    · exact ⟨by rw [h1, xc_A], h2⟩
    · exact absurd q hb
  · exact absurd ⟨inR_of ht'.1 ht'.2 (by decide), fun e => hab (nI_ij (by omega) (by omega) e)⟩ hb
theorem R_wishS {c u9 : Nat → Nat → Nat} {x y z v9 : Int32} (h : PA_wish c x y z v9 u9) (hx : okU c x) (hy : okU c y) (hb : inR z 1 100 ∧ x ≠ y) (hg : c 20 3 ≠ 0) : v9 = -1033 ∧ u9 = c := by
  rcases h with ⟨E, hE, h1, h2⟩ | ⟨a', b', t', ha', hb', rfl, rfl, hab, ht', rfl, q, -⟩
  · rcases hE with ⟨-, q⟩ | ⟨-, -, -, q⟩ | ⟨rfl, -⟩
    · exact absurd ⟨hx, hy⟩ q
    · exact absurd hb q
    · exact ⟨by rw [h1, xc_S], h2⟩
  · exact absurd q hg
theorem R_siO {c u9 : Nat → Nat → Nat} {x y v9 : Int32} (h : PA_standIn c x y v9 u9) (hb : ¬ (okU c x ∧ (y = -1 ∨ okU c y))) : v9 = -1031 ∧ u9 = c := by
  rcases h with ⟨E, hE, h1, h2⟩ | ⟨a', k', ha', rfl, hk', -⟩
  · rcases hE with ⟨rfl, -⟩ | ⟨-, h3, h4, -⟩ | ⟨-, h3, h4, -⟩
    · exact ⟨by rw [h1, xc_O], h2⟩
    · exact absurd ⟨h3, Or.inr h4⟩ hb
    · exact absurd ⟨h3, h4⟩ hb
  · exact absurd ⟨oku ha', hk'.elim (fun z => Or.inl z.2) (fun z => by obtain ⟨b, hb', rfl, -⟩ := z; exact Or.inr (oku hb'))⟩ hb
theorem R_siA {c u9 : Nat → Nat → Nat} {a : Nat} {v9 : Int32} (h : PA_standIn c (nI a) (nI a) v9 u9) (ha : a < c 20 1) (hn : c 20 1 ≤ 20) : v9 = -1032 ∧ u9 = c := by
  rcases h with ⟨E, hE, h1, h2⟩ | ⟨a', k', ha', ex, hk', -⟩
  · rcases hE with ⟨-, q⟩ | ⟨rfl, -⟩ | ⟨-, -, -, q, -⟩
    · exact absurd ⟨oku ha, Or.inr (oku ha)⟩ q
    · exact ⟨by rw [h1, xc_A], h2⟩
    · exact absurd rfl q
  · exfalso
    rcases hk' with ⟨-, e⟩ | ⟨b, hb', e, hne, -⟩
    · exact nI_pos (show a < 2 ^ 31 by omega) (by rw [e]; decide)
    · exact hne ((nI_ij (by omega) (by omega) e).symm.trans (nI_ij (by omega) (by omega) ex))
theorem R_siS {c u9 : Nat → Nat → Nat} {a : Nat} {v9 : Int32} (h : PA_standIn c (nI a) (-1) v9 u9) (ha : a < c 20 1) (hn : c 20 1 ≤ 20) (hg : c 20 3 ≠ 0) : v9 = -1033 ∧ u9 = c := by
  have hne : ¬ nI a = -1 := fun e => nI_pos (show a < 2 ^ 31 by omega) (by rw [e]; decide)
  rcases h with ⟨E, hE, h1, h2⟩ | ⟨a', k', ha', ex, hk', q, -⟩
  · rcases hE with ⟨-, q⟩ | ⟨-, -, -, q⟩ | ⟨rfl, -⟩
    · exact absurd ⟨oku ha, Or.inl rfl⟩ q
    · exact absurd q hne
    · exact ⟨by rw [h1, xc_S], h2⟩
  · exact absurd q hg
theorem R_holdO {c u9 : Nat → Nat → Nat} {x v9 : Int32} {b : Nat} (h : PA_hold c x b v9 u9) (hb : ¬ okU c x) : v9 = -1031 ∧ u9 = c := by
  rcases h with ⟨E, hE, h1, h2⟩ | ⟨a', ha', rfl, -⟩
  · rcases hE with ⟨rfl, -⟩ | ⟨-, q, -⟩
    · exact ⟨by rw [h1, xc_O], h2⟩
    · exact absurd q hb
  · exact absurd (oku ha') hb
theorem R_holdS {c u9 : Nat → Nat → Nat} {x v9 : Int32} {b : Nat} (h : PA_hold c x b v9 u9) (hb : okU c x) (hg : c 20 3 ≠ 0) : v9 = -1033 ∧ u9 = c := by
  rcases h with ⟨E, hE, h1, h2⟩ | ⟨a', ha', rfl, q, -⟩
  · rcases hE with ⟨-, q⟩ | ⟨rfl, -⟩
    · exact absurd hb q
    · exact ⟨by rw [h1, xc_S], h2⟩
  · exact absurd q hg
theorem R_sfO {c u9 : Nat → Nat → Nat} {x y v9 : Int32} (h : PA_setFaults c x y v9 u9) (hb : ¬ okU c x) : v9 = -1031 ∧ u9 = c := by
  rcases h with ⟨E, hE, h1, h2⟩ | ⟨a', t', ha', rfl, -⟩
  · rcases hE with ⟨rfl, -⟩ | ⟨-, q, -⟩
    · exact ⟨by rw [h1, xc_O], h2⟩
    · exact absurd q hb
  · exact absurd (oku ha') hb
theorem R_sfA {c u9 : Nat → Nat → Nat} {x y v9 : Int32} (h : PA_setFaults c x y v9 u9) (hx : okU c x) (hb : ¬ inR y 0 10) : v9 = -1032 ∧ u9 = c := by
  rcases h with ⟨E, hE, h1, h2⟩ | ⟨a', t', ha', rfl, ht', rfl, -⟩
  · rcases hE with ⟨-, q⟩ | ⟨rfl, -⟩
    · exact absurd hx q
    · exact ⟨by rw [h1, xc_A], h2⟩
  · exact absurd (inR_of ht'.1 ht'.2 (by decide)) hb
theorem R_stO {c u9 : Nat → Nat → Nat} {x y v9 : Int32} (h : PA_setTime c x y v9 u9) (hb : ¬ okU c x) : v9 = -1031 ∧ u9 = c := by
  rcases h with ⟨E, hE, h1, h2⟩ | ⟨a', t', ha', rfl, -⟩
  · rcases hE with ⟨rfl, -⟩ | ⟨-, q, -⟩
    · exact ⟨by rw [h1, xc_O], h2⟩
    · exact absurd q hb
  · exact absurd (oku ha') hb
theorem R_stA {c u9 : Nat → Nat → Nat} {x y v9 : Int32} (h : PA_setTime c x y v9 u9) (hx : okU c x) (hb : ¬ inR y 1 100) : v9 = -1032 ∧ u9 = c := by
  rcases h with ⟨E, hE, h1, h2⟩ | ⟨a', t', ha', rfl, ht', rfl, -⟩
  · rcases hE with ⟨-, q⟩ | ⟨rfl, -⟩
    · exact absurd hx q
    · exact ⟨by rw [h1, xc_A], h2⟩
  · exact absurd (inR_of ht'.1 ht'.2 (by decide)) hb
theorem R_begA {c u9 : Nat → Nat → Nat} {x v9 : Int32} (h : PA_begin c x v9 u9) (hb : ¬ inR x 1 20) : v9 = -1032 ∧ u9 = c := by
  rcases h with ⟨E, hE, h1, h2⟩ | ⟨b, hb', rfl, -⟩
  · rcases hE with ⟨rfl, -⟩ | ⟨-, q, -⟩
    · exact ⟨by rw [h1, xc_A], h2⟩
    · exact absurd q hb
  · exact absurd (inR_of hb'.1 hb'.2 (by decide)) hb
theorem R_begS {c u9 : Nat → Nat → Nat} {x v9 : Int32} (h : PA_begin c x v9 u9) (hb : inR x 1 20) (hg : c 20 3 ≠ 0) : v9 = -1033 ∧ u9 = c := by
  rcases h with ⟨E, hE, h1, h2⟩ | ⟨b, hb', rfl, q, -⟩
  · rcases hE with ⟨-, q⟩ | ⟨rfl, -⟩
    · exact absurd hb q
    · exact ⟨by rw [h1, xc_S], h2⟩
  · exact absurd q hg
theorem R_tickA {c u9 : Nat → Nat → Nat} {x v9 : Int32} (h : PA_tick c x v9 u9) (hb : ¬ inR x 1 200) : v9 = -1032 ∧ u9 = c := by
  rcases h with ⟨E, hE, h1, h2⟩ | ⟨t, i, ht, rfl, -⟩
  · rcases hE with ⟨rfl, -⟩ | ⟨-, q, -⟩
    · exact ⟨by rw [h1, xc_A], h2⟩
    · exact absurd q hb
  · exact absurd (inR_of ht.1 ht.2 (by decide)) hb
theorem R_tickS {c u9 : Nat → Nat → Nat} {x v9 : Int32} (h : PA_tick c x v9 u9) (hb : inR x 1 200) (hg : c 20 3 = 0) : v9 = -1033 ∧ u9 = c := by
  rcases h with ⟨E, hE, h1, h2⟩ | ⟨t, i, ht, rfl, q, -⟩
  · rcases hE with ⟨-, q⟩ | ⟨rfl, -⟩
    · exact absurd hb q
    · exact ⟨by rw [h1, xc_S], h2⟩
  · exact absurd hg q
