/-! the calls that set -/
theorem exAS : exA ≠ exS := by decide
theorem exAO : exA ≠ exO := by decide
theorem exOS : exO ≠ exS := by decide
theorem o22 {P1 P2 P3 P4 P5 P6 : Prop} {w : Nat} (h : w ≤ 3) : P1 ∨ P2 ∨ P3 ∨ P4 ∨ P5 ∨ P6 ∨ ((22 : Nat) = 22 ∧ w ≤ 3) := Or.inr (Or.inr (Or.inr (Or.inr (Or.inr (Or.inr ⟨rfl, h⟩)))))
theorem IR_t0 {r : Nat → Nat → Nat} (h : IR r) : IR (up2 r 30 22 0) := IR_obj h (o22 (by decide))
theorem rV0 {r : Nat → Nat → Nat} {a i v : Nat} (h : (a = 1 ∧ v ≤ 100) ∨ (a = 2 ∧ v ≤ 100) ∨ (a = 3 ∧ v ≤ 3) ∨ (a = 4 ∧ v ≤ 10) ∨ (a = 5 ∧ v ≤ 20) ∨ (a = 6 ∧ v ≤ 1) ∨ (a = 7 ∧ v ≤ 1) ∨ (a = 8 ∧ v ≤ 100) ∨ (a = 9 ∧ v < 2 ^ 31) ∨ (a = 17 ∧ v ≤ 4 ∧ v ≠ 1) ∨ (a = 30 ∧ i = 0 ∧ v ≤ 20) ∨ (a = 30 ∧ i = 10 ∧ v ≤ 100000)) : rV r a i v := by
  unfold rV rOk
  rcases h with h | h | h | h | h | h | h | h | h | h | h | h
  · exact Or.inl h
  · exact Or.inr (Or.inl h)
  · exact Or.inr (Or.inr (Or.inl h))
  · exact Or.inr (Or.inr (Or.inr (Or.inl h)))
  · exact Or.inr (Or.inr (Or.inr (Or.inr (Or.inl h))))
  · exact Or.inr (Or.inr (Or.inr (Or.inr (Or.inr (Or.inl h)))))
  · exact Or.inr (Or.inr (Or.inr (Or.inr (Or.inr (Or.inr (Or.inl h))))))
  · exact Or.inr (Or.inr (Or.inr (Or.inr (Or.inr (Or.inr (Or.inr (Or.inl h)))))))
  · exact Or.inr (Or.inr (Or.inr (Or.inr (Or.inr (Or.inr (Or.inr (Or.inr (Or.inl h))))))))
  · exact Or.inr (Or.inr (Or.inr (Or.inr (Or.inr (Or.inr (Or.inr (Or.inr (Or.inr (Or.inl h)))))))))
  · exact Or.inr (Or.inr (Or.inr (Or.inr (Or.inr (Or.inr (Or.inr (Or.inr (Or.inr (Or.inr (Or.inl h))))))))))
  · exact Or.inr (Or.inr (Or.inr (Or.inr (Or.inr (Or.inr (Or.inr (Or.inr (Or.inr (Or.inr (Or.inr ⟨h.1, Or.inl h.2⟩))))))))))
theorem Inv_add {c r : Nat → Nat → Nat} {i t k : Nat} (hV : Inv c r i) (ht : t ≤ 100) (hk : k ≤ 3) (hn : c 20 1 < 20) (hg : c 20 3 = 0) :
    Inv (up2 (up2 (up2 c 1 (c 20 1) t) 2 (c 20 1) k) 20 1 (c 20 1 + 1)) (up2 (up2 (up2 (up2 (up2 (up2 (up2 r 30 22 0) 1 (c 20 1) t) 3 (c 20 1) k) 2 (c 20 1) 10) 5 (c 20 1) 0) 17 (c 20 1) 0) 30 0 (c 20 1 + 1)) (i + 1) := by
  obtain ⟨hI, hJ, ⟨hF, hS, hN, hE, hW, hO, hG⟩, hw⟩ := hV
  refine ⟨?_, ?_, ⟨?_, ?_, ?_, ?_, ?_, ?_, ?_⟩, ?_⟩
  · have h1 := IC_1 (u := c 20 1) (IC_1 (u := c 20 1) hI (Or.inl ⟨rfl, ht⟩)) (Or.inr (Or.inl ⟨rfl, hk⟩))
    exact IC_n1 h1 hn
  · refine IR_up (IR_up (IR_up (IR_up (IR_up (IR_up (IR_t0 hJ) (rV0 ?_)) (rV0 ?_)) (rV0 ?_)) (rV0 ?_)) (rV0 ?_)) (rV0 ?_)
    all_goals omega
  · intro u hu
    have hu2 : c 20 1 + 1 ≤ u := hu
    have h9 := hF u (by omega)
    simpa [up2] using h9
  · intro u
    have h9 := hS u
    have h8 := hF u
    simp only [up2]
    simp
    refine ⟨h9.1, h9.2.1, ?_, h9.2.2.2⟩
    split
    · exact (h8 (by omega)).2.2.2.2.2.2
    · exact h9.2.2.1
  · intro u hu
    have hu2 : u < c 20 1 + 1 := hu
    by_cases e : u = c 20 1
    · have h8 := hF u (by omega)
      subst e
      simp [up2]
      exact ⟨h8.1, h8.2.2.2.1⟩
    · have h9 := hN u (by omega)
      simpa [up2, e] using h9
  · intro u v hu hv
    simpa [up2] using hE u v hu hv
  · simpa [up2, Wsh] using hW
  · obtain ⟨o1, o2, o3, o4, o5, o6⟩ := hO
    refine ⟨?_, ?_, ?_, ?_, ?_, ?_⟩ <;> simp [up2] <;> assumption
  · refine ⟨hG.1, fun z => absurd ?_ z⟩
    exact hg
  · exact Nat.le_succ_of_le hw
theorem T_add {c r : Nat → Nat → Nat} {i o : Nat} {x y k9 v : Int32} {z9 : (Nat → Nat → Nat) × Nat} {u9 : Nat → Nat → Nat} (hV : Inv c r i) (h1 : PC_add c o x y k9 z9) (h2 : PM_add r x y v u9) : Out k9 z9 v u9 i := by
  have e0 : r 30 0 = c 20 1 := hV.2.2.1.2.2.2.2.2.1.1
  have e3 : r 30 13 = c 20 3 := hV.2.2.1.2.2.2.2.2.1.2.1
  unfold PM_add at h2
  rw [e0, e3] at h2
  rcases h1 with ⟨rfl, w, ⟨t, k, ht, hk, rfl, rfl, hn, hg, rfl, hz⟩, ho⟩ | ⟨rfl, rfl, hp⟩ | ⟨rfl, rfl, hp⟩
  · have hx1 : inR (nI t) 1 100 := inR_of ht.1 ht.2 (by decide)
    have hy1 : inR (nI k) 0 3 := inR_of hk.1 hk.2 (by decide)
    rcases h2 with ⟨hb, -⟩ | ⟨-, hb, -⟩ | ⟨t', k', ht', hk', ex, ey, -, -, rfl, rfl⟩
    · exact absurd ⟨hx1, hy1⟩ hb
    · exact absurd ⟨hn, hg⟩ hb
    · have e1 : t = t' := nI_ij (by omega) (by omega) ex
      have e2 : k = k' := nI_ij (by omega) (by omega) ey
      subst e1 e2
      refine ⟨by simp [up2], fun _ => ho, ?_⟩
      rw [hz]
      exact Inv_add hV ht.2 hk.2 hn hg
  · have hb := hp.elim (fun z => z.2) (fun z => absurd z.1 exAS)
    rcases h2 with ⟨-, rfl⟩ | ⟨hc, -⟩ | ⟨t, k, ht, hk, rfl, rfl, -⟩
    · exact Out_f hV (by decide) (by decide)
    · exact absurd hc hb
    · exact absurd ⟨inR_of ht.1 ht.2 (by decide), inR_of hk.1 hk.2 (by decide)⟩ hb
  · obtain ⟨-, ha, hb⟩ := hp.elim (fun z => absurd z.1.symm exAS) id
    rcases h2 with ⟨hc, -⟩ | ⟨-, -, rfl⟩ | ⟨t, k, ht, hk, rfl, rfl, h8, h9, -⟩
    · exact absurd ha hc
    · exact Out_f hV (by decide) (by decide)
    · exact absurd ⟨h8, h9⟩ hb
