/-! EACH CALL: the same answer, the same relation -/
def Out (k9 : Int32) (z9 : (Nat → Nat → Nat) × Nat) (v : Int32) (u9 : Nat → Nat → Nat) (i : Nat) : Prop := k9 = nI (u9 30 22) ∧ (k9 = nI 0 → v.toInt64 = lE z9.2) ∧ Inv z9.1 u9 (i + 1)
def OutZ (k9 : Int32) (z9 : (Nat → Nat → Nat) × Nat) (v : Int32) (u9 : Nat → Nat → Nat) (i : Nat) : Prop := k9 = nI (u9 30 22) ∧ (k9 = nI 0 → z9.2 = if v = 0 then 1 else 2) ∧ Inv z9.1 u9 (i + 1)
theorem Out_f {c r : Nat → Nat → Nat} {i o w : Nat} {v : Int32} (h : Inv c r i) (h1 : 1 ≤ w) (h2 : w ≤ 3) : Out (nI w) (c, o) v (up2 r 30 22 w) i :=
  ⟨by rw [up2_s], fun z => absurd ((nI_eq (by omega) (by decide)).mp z) (by omega), Inv_thr h h2⟩
theorem OutZ_f {c r : Nat → Nat → Nat} {i o w : Nat} {v : Int32} (h : Inv c r i) (h1 : 1 ≤ w) (h2 : w ≤ 3) : OutZ (nI w) (c, o) v (up2 r 30 22 w) i :=
  ⟨by rw [up2_s], fun z => absurd ((nI_eq (by omega) (by decide)).mp z) (by omega), Inv_thr h h2⟩
theorem nI_ij {a b : Nat} (ha : a < 2 ^ 31) (hb : b < 2 ^ 31) (e : nI a = nI b) : a = b := (nI_eq ha hb).mp e
/-- a reader -/
theorem T_get {c r : Nat → Nat → Nat} {i o k : Nat} {x k9 v : Int32} {z9 : (Nat → Nat → Nat) × Nat} {u9 : Nat → Nat → Nat} {f g : Nat → Int32} (hV : Inv c r i) (hk : ∀ a, a < c 20 1 → f a = g a)
    (h1 : (k9 = nI 0 ∧ ∃ v9 : Int32, (fun (u9 : Nat → Nat → Nat) => ∃ a, a < c 20 1 ∧ x = nI a ∧ v9 = f a ∧ u9 = c) z9.1 ∧ v9.toInt64 = lE z9.2) ∨ (k9 = nI 1 ∧ z9 = (c, o) ∧ (fun E => E = exO ∧ ¬ okU c x) exO))
    (h2 : (¬ okR r x ∧ u9 = up2 r 30 22 1) ∨ (∃ a, a < r 30 0 ∧ x = nI a ∧ v = g a ∧ u9 = up2 r 30 22 0)) : Out k9 z9 v u9 i := by
  have hn := IC_n hV.1
  have e0 : r 30 0 = c 20 1 := hV.2.2.1.2.2.2.2.2.1.1
  rcases h1 with ⟨rfl, w, ⟨a, ha, rfl, rfl, hz⟩, ho⟩ | ⟨rfl, rfl, -, hno⟩
  · rcases h2 with ⟨hb, -⟩ | ⟨b, hb, hx, rfl, rfl⟩
    · exact absurd ((ok_iff hV.2.2.1 _).mpr ⟨a, ha, rfl⟩) hb
    · have hab : a = b := nI_ij (by omega) (by omega) hx
      subst hab
      refine ⟨by rw [up2_s], fun _ => by rw [← hk a ha]; exact ho, ?_⟩
      rw [hz]
      exact Inv_thr hV (Nat.zero_le _)
  · rcases h2 with ⟨-, rfl⟩ | ⟨b, hb, hx, -, -⟩
    · exact Out_f hV (by decide) (by decide)
    · exact absurd ⟨b, by omega, hx⟩ hno
theorem T_learned {c r : Nat → Nat → Nat} {i o : Nat} {x k9 v : Int32} {z9 : (Nat → Nat → Nat) × Nat} {u9 : Nat → Nat → Nat} (hV : Inv c r i) (h1 : PC_learned c o x k9 z9) (h2 : PM_learned r x v u9) : Out k9 z9 v u9 i :=
  T_get (k := 0) (f := fun a => nI (c 3 a)) (g := fun a => nI (r 2 a)) hV (fun a ha => by rw [(hV.2.2.1.2.2.1 a ha).2.2.1]) h1 h2
theorem T_faults {c r : Nat → Nat → Nat} {i o : Nat} {x k9 v : Int32} {z9 : (Nat → Nat → Nat) × Nat} {u9 : Nat → Nat → Nat} (hV : Inv c r i) (h1 : PC_faults c o x k9 z9) (h2 : PM_faults r x v u9) : Out k9 z9 v u9 i :=
  T_get (k := 0) (f := fun a => nI (c 4 a)) (g := fun a => nI (r 4 a)) hV (fun a ha => by rw [(hV.2.2.1.2.1 a).1]) h1 h2
theorem T_state {c r : Nat → Nat → Nat} {i o : Nat} {x k9 v : Int32} {z9 : (Nat → Nat → Nat) × Nat} {u9 : Nat → Nat → Nat} (hV : Inv c r i) (h1 : PC_state c o x k9 z9) (h2 : PM_state r x v u9) : Out k9 z9 v u9 i :=
  T_get (k := 0) (f := fun a => nI (c 9 a)) (g := fun a => nI (r 17 a)) hV (fun a ha => by rw [(hV.2.2.1.2.1 a).2.2.1]) h1 h2
/-- whom a unit waits for -/
theorem gone_iff {c r : Nat → Nat → Nat} (h : Rel c r) (u : Nat) : goneP (c 9) u ↔ goneP (r 17) u := by
  unfold goneP
  rw [(h.2.1 u).2.2.1]
theorem met_iff {c r : Nat → Nat → Nat} (h : Rel c r) {u : Nat} (hu : u < c 20 1) : metP (c 9) (c 6) u ↔ metP (r 17) (r 5) u := by
  unfold metP
  rw [(h.2.1 u).2.2.1, gone_iff h, (h.2.2.1 u hu).2.2.2, (h.2.1 _).2.2.1]
theorem lost_iff {c r : Nat → Nat → Nat} (h : Rel c r) {u : Nat} (hu : u < c 20 1) : lostP (c 9) (c 6) u ↔ lostP (r 17) (r 5) u := by
  unfold lostP
  rw [gone_iff h, (h.2.2.1 u hu).2.2.2, gone_iff h]
theorem done_iff {c r : Nat → Nat → Nat} (h : Rel c r) (u : Nat) : doneP (c 9) u ↔ doneP (r 17) u := by
  unfold doneP
  rw [(h.2.1 u).2.2.1, gone_iff h]
theorem aw_iff {c r : Nat → Nat → Nat} (hn : c 20 1 ≤ 20) (h : Rel c r) {u v : Nat} (hu : u < c 20 1) (hv : v < c 20 1) : awC c u v ↔ awR r u v := by
  obtain ⟨e7, e8, -⟩ := h.2.2.2.1 u v (by omega) (by omega)
  unfold awC awR
  rw [e7, e8, met_iff h hv, lost_iff h hv, done_iff h]
theorem fP_cg {P Q : Nat → Prop} : ∀ {n : Nat}, (∀ v, v < n → (P v ↔ Q v)) → fP P n = fP Q n
  | 0, _ => rfl
  | n + 1, h => by
    rw [fP, fP, fP_cg (n := n) (fun v hv => h v (by omega)), bN_c (h n (Nat.lt_succ_self _))]
theorem fP_none {P : Nat → Prop} : ∀ {n : Nat}, (∀ v, v < n → ¬ P v) → fP P n = 0
  | 0, _ => rfl
  | n + 1, h => by
    rw [fP, fP_none (n := n) (fun v hv => h v (by omega)), if_pos rfl, bN_f (h n (Nat.lt_succ_self _)), Nat.zero_mul]
theorem T_waitsFor {c r : Nat → Nat → Nat} {i o : Nat} {x k9 v : Int32} {z9 : (Nat → Nat → Nat) × Nat} {u9 : Nat → Nat → Nat} (hV : Inv c r i) (h1 : PC_waitsFor c o x k9 z9) (h2 : PM_waitsFor r x v u9) : Out k9 z9 v u9 i :=
  T_get (k := 0) (f := fun a => siI (if c 9 a = 0 then fP (awC c a) (c 20 1) else 0)) (g := fun a => siI (fP (fun v => r 17 a = 0 ∧ awR r a v) (r 30 0))) hV (fun a ha => by
    have hR := hV.2.2.1
    have hn := IC_n hV.1
    show siI _ = siI _
    congr 1
    rw [hR.2.2.2.2.2.1.1, (hR.2.1 a).2.2.1]
    split
    · rename_i h0
      exact fP_cg (fun v hv => by rw [aw_iff hn hR ha hv]; exact ⟨fun z => ⟨h0, z⟩, fun z => z.2⟩)
    · rename_i h0
      exact (fP_none (fun v _ z => h0 z.1)).symm) h1 h2
