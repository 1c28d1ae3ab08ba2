/-! the set that can run; the readers of the whole -/
def stC (c : Nat → Nat → Nat) (S T : Nat → Prop) (u : Nat) : Prop := ∀ v, (c 7 u).testBit v = true → T v ∨ (v < c 20 1 ∧ c 6 v ≠ 0 ∧ S (c 6 v - 1))
theorem keep_iff {c : Nat → Nat → Nat} {f u : Nat} : (keepS c f).testBit u = true ↔ u < c 20 1 ∧ tb f u ∧ stC c (tb f) (tb f) u := by
  unfold keepS
  rw [mk_bit, anN_0]
  unfold stC tb
  refine and_congr_right fun _ => and_congr_right fun _ => forall_congr' fun v => imp_congr_right fun _ => ?_
  rw [Nat.testBit_or, Bool.or_eq_true, mk_bit]
theorem able_kp {c : Nat → Nat → Nat} {u : Nat} : ∀ i, tb (kpI c i) u → u < c 20 1 ∧ c 5 u = 0 ∧ c 4 u ≤ c 2 u
  | 0, h => mk_bit.mp h
  | i + 1, h => able_kp i (keepS_sub h)
theorem T_canRun {c r : Nat → Nat → Nat} {i : Nat} {v : Int32} {u9 : Nat → Nat → Nat} (hV : Inv c r i) (h2 : PM_canRun r v u9) : nI (canC c) = v ∧ Inv c u9 (i + 1) := by
  obtain ⟨⟨f, rfl, -, hst, hlt, hgr⟩, rfl⟩ := h2
  refine ⟨congrArg nI ?_, Inv_thr hV (Nat.zero_le _)⟩
  have hR := hV.2.2.1
  have hI := hV.1
  have hn := IC_n hI
  have e0 : r 30 0 = c 20 1 := hR.2.2.2.2.2.1.1
  rw [e0] at hst hlt hgr
  have hcn : ∀ (S : Nat → Prop) (u : Nat), u < c 20 1 → (cnP r u S (c 20 1) ↔ (c 5 u = 0 ∧ c 4 u ≤ c 2 u) ∧ stC c S S u) := by
    intro S u hu
    obtain ⟨s4, s5, -⟩ := hR.2.1 u
    obtain ⟨-, n2, -⟩ := hR.2.2.1 u hu
    unfold cnP alQ stC hasP
    rw [s4, s5, n2]
    refine and_congr_right fun _ => ⟨fun h v hv => ?_, fun h v hv => ?_⟩
    · have hvn : v < c 20 1 := bit_lt (IC_7 hI u) hv
      have e7 := (hR.2.2.2.1 u v (by omega) (by omega)).1.mp hv
      rcases h v hvn with h | h | h
      · omega
      · exact Or.inl h
      · rw [← (hR.2.2.1 v hvn).2.2.2] at h
        exact Or.inr ⟨hvn, h⟩
    · rcases Nat.eq_zero_or_pos (r 7 (20 * u + v)) with e | e
      · exact Or.inl e
      · have hb := (hR.2.2.2.1 u v (by omega) (by omega)).1.mpr e
        rcases h v hb with h | h
        · exact Or.inr (Or.inl h)
        · rw [(hR.2.2.1 v hv).2.2.2] at h
          exact Or.inr (Or.inr h.2)
  have hsub : ∀ i u, tb f u → tb (kpI c i) u := by
    intro i
    induction i with
    | zero =>
      intro u hu
      have hun := hlt u hu
      exact mk_bit.mpr ⟨hun, ((hcn _ u hun).mp (hst u hun hu)).1⟩
    | succ i ih =>
      intro u hu
      have hun := hlt u hu
      refine keep_iff.mpr ⟨hun, ih u hu, fun v hv => ?_⟩
      rcases ((hcn _ u hun).mp (hst u hun hu)).2 v hv with h | h
      · exact Or.inl (ih v h)
      · exact Or.inr ⟨h.1, h.2.1, ih _ h.2.2⟩
  have hsup : ∀ u, tb (canC c) u → tb f u := by
    refine hgr (tb (canC c)) (fun u hu => ?_)
    have h1 := able_kp _ (show tb (kpI c (c 20 1 + 1)) u from hu)
    refine ⟨h1.1, (hcn _ u h1.1).mpr ⟨h1.2, ?_⟩⟩
    have h2 : (keepS c (canC c)).testBit u = true := by rw [canC_still]; exact hu
    exact (keep_iff.mp h2).2.2
  refine Nat.le_antisymm (le_bits hsup) (le_bits (fun u hu => hsub _ u hu))
theorem T_ready {c r : Nat → Nat → Nat} {i : Nat} (hV : Inv c r i) : mk (fun w => c 9 w = 2) (c 20 1) = mk (fun w => r 17 w = 2) (r 30 0) := by
  rw [hV.2.2.1.2.2.2.2.2.1.1]
  exact mk_cg (fun w _ => by rw [(hV.2.2.1.2.1 w).2.2.1])
theorem T_bar {c r : Nat → Nat → Nat} {i : Nat} (hV : Inv c r i) : c 20 6 = if r 30 12 = 0 then 0 else r 30 16 := by
  obtain ⟨o1, o2, o3, o4, o5, o6⟩ := hV.2.2.1.2.2.2.2.2.1
  split
  · rename_i h
    rw [← o5]; exact (o6 h).1
  · exact o5.symm
theorem T_goesOn {c r : Nat → Nat → Nat} {i : Nat} (hV : Inv c r i) : c 20 3 = r 30 13 := hV.2.2.1.2.2.2.2.2.1.2.1.symm
theorem T_units {c r : Nat → Nat → Nat} {i : Nat} (hV : Inv c r i) : c 20 1 = r 30 0 := hV.2.2.1.2.2.2.2.2.1.1.symm
