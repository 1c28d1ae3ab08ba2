theorem sm_mono {f g : Nat → Nat} : ∀ {n : Nat}, (∀ i, i < n → f i ≤ g i) → sm f n ≤ sm g n
  | 0, _ => Nat.le_refl _
  | n + 1, h => by
    have h1 := sm_mono (n := n) (fun i hi => h i (by omega))
    have h2 := h n (Nat.lt_succ_self n)
    show sm f n + f n ≤ sm g n + g n
    omega
theorem rmax {a b : Nat} : max a b = if b ≤ a then a else b := by
  split <;> omega
theorem Inv_tick {c r : Nat → Nat → Nat} {i : Nat} (hV : Inv c r i) (hg : c 20 3 ≠ 0) : Inv (c_tick1 c) (r_tick1 r) i := by
  obtain ⟨hI, hJ, ⟨hF, hS, hN, hE, hW, hO, hG⟩, hw⟩ := hV
  obtain ⟨o1, o2, o3, o4, o5, o6⟩ := hO
  have hE0 : Ed7 c r := ⟨IC_7 hI, IC_8 hI, hE, o1, o3, IC_n hI⟩
  have hIC := IC_tick1 hI
  have hIR := IR_tick1 hJ
  -- the three passes
  obtain ⟨a1, a2⟩ := end_all hS hN (c 20 1) (Nat.le_refl _)
  have n1 : c_endI c (c 20 1) 20 1 = c 20 1 := endI_n c 20 1 (by omega) _
  have hE1 : Ed7 (c_endI c (c 20 1)) (r_endI r (c 20 1)) := Ed7_mv hE0 (fun a i ha => endI_n c a i (by omega) _) (fun a i ha => rendI_n r a i (by omega) _)
  obtain ⟨b1, b2⟩ := fail_all hE1 a1 a2 (c 20 1) (by rw [n1]; exact Nat.le_refl _)
  have hE2 : Ed7 (c_failI (c_endI c (c 20 1)) (c 20 1)) (r_failI (r_endI r (c 20 1)) (c 20 1)) := Ed7_mv hE1 (fun a i ha => failI_n _ a i (by omega) _) (fun a i ha => rfailI_n _ a i (by omega) _)
  have n2 : c_failI (c_endI c (c 20 1)) (c 20 1) 20 1 = c 20 1 := (failI_n _ 20 1 (by omega) _).trans n1
  obtain ⟨d1, d2⟩ := st_all hE2 b1 b2 (c 20 1) (by rw [n2]; exact Nat.le_refl _)
  obtain ⟨c2, hc2⟩ : ∃ z, z = c_failI (c_endI c (c 20 1)) (c 20 1) := ⟨_, rfl⟩
  rw [← hc2] at d1 d2 n2
  have hst : c_start c2 = c_stI (mk (metP (c2 9) (c2 6)) (c2 20 1)) (mk (doneP (c2 9)) (c2 20 1)) c2 (c 20 1) := by unfold c_start; rw [n2]
  rw [← hst] at d1 d2
  have hr3 : r_stI (r_failI (r_endI r (c 20 1)) (c 20 1)) (c 20 1) = r_t3 r := by unfold r_t3; rw [o1]
  rw [hr3] at d1 d2
  have hK : Kp c (c_start c2) := by
    rw [hc2]
    exact Kp_t (Kp_t (Kp_endI c _) (Kp_failI _ _)) (Kp_stI _ _ _ _)
  have hhi : ∀ a u, c 20 1 ≤ u → c_start c2 a u = c a u := fun a u hu => by
    rw [hst, stI_hi _ _ _ a _ u hu, hc2, failI_hi _ a _ u hu, endI_hi c a _ u hu]
  have htk : c_tick1 c = c_bar (up2 (c_start c2) 20 3 (bN (0 < c_cnt (c_start c2)))) := by
    unfold c_tick1 c_go
    rw [n1, hc2]
  generalize c_start c2 = c3 at d1 d2 hK hhi htk
  have k20 : ∀ j, c3 20 j = c 20 j := fun j => hK.1 20 j (by omega)
  have t0 : r_t3 r 30 0 = c 20 1 := (t3_n r 30 0 (by omega)).trans o1
  have hcnt : c_cnt c3 = r_cnt (r_t3 r) := cntE d1 (by rw [t0, k20])
  obtain ⟨b, hb⟩ : ∃ z, z = bN (0 < c_cnt c3) := ⟨_, rfl⟩
  have hb1 : b ≤ 1 := by rw [hb]; exact bN_le _
  have hrt : r_tick1 r = up2 (up2 (r_t3 r) 30 13 b) 30 16 (if b = 1 then r_rs (up2 (r_t3 r) 30 13 b) else 1000) := by
    unfold r_tick1
    rw [← hcnt, ← hb]
  rw [← hb] at htk
  have hpart : sm (c_part c3) (c 20 1) = sm (r_part (r_t3 r)) (c 20 1) := sm_cg (fun w hwn => by
    obtain ⟨s4, s5, s9, s10, s11, s12⟩ := d1 w
    unfold c_part r_part
    rw [s12, ← s9]
    split
    · rfl
    · split
      · rename_i h1
        have := s10 h1
        split <;> omega
      · rfl)
  have hcp : sm (c_part (up2 c3 20 3 b)) (up2 c3 20 3 b 20 1) = sm (c_part c3) (c 20 1) := by
    rw [up2_i (show (1 : Nat) ≠ 3 by decide), k20]
    exact sm_cg (fun w _ => rfl)
  have hrp : sm (r_part (up2 (r_t3 r) 30 13 b)) (up2 (r_t3 r) 30 13 b 30 0) = sm (c_part c3) (c 20 1) := by
    rw [up2_i (show (0 : Nat) ≠ 13 by decide), t0, hpart]
    exact sm_cg (fun w _ => rfl)
  obtain ⟨P, hP⟩ : ∃ z, z = sm (c_part c3) (c 20 1) := ⟨_, rfl⟩
  have hbarC : c_bar (up2 c3 20 3 b) = up2 (up2 c3 20 3 b) 20 6 (max (c 20 6) (if b ≠ 0 ∧ 0 < c 20 5 then 1000 * P / c 20 5 else 1000)) := by
    unfold c_bar
    rw [hcp, up2_i (show (6 : Nat) ≠ 3 by decide), up2_s, up2_i (show (5 : Nat) ≠ 3 by decide), k20, k20, ← hP]
  have hts : r_t3 r 30 15 = c 20 5 := (t3_n r 30 15 (by omega)).trans o4
  have htb : r_t3 r 30 16 = c 20 6 := (t3_n r 30 16 (by omega)).trans o5
  have hrs : r_rs (up2 (r_t3 r) 30 13 b) = max (c 20 6) (if 0 < c 20 5 then 1000 * P / c 20 5 else 1000) := by
    have hi : r_its (up2 (r_t3 r) 30 13 b) = (if 0 < c 20 5 then 1000 * P / c 20 5 else 1000) := by
      unfold r_its
      rw [hrp, up2_i (show (15 : Nat) ≠ 13 by decide), hts, ← hP]
      by_cases e : c 20 5 = 0
      · rw [if_pos e, if_neg (show ¬ 0 < c 20 5 by omega)]
      · rw [if_neg e, if_pos (show 0 < c 20 5 by omega)]
    unfold r_rs
    rw [hi, up2_i (show (16 : Nat) ≠ 13 by decide), htb, rmax]
  have hle : c 20 6 ≤ 1000 := hG.1
  obtain ⟨g1, g2⟩ := hG.2 hg
  have hPle : P ≤ c 20 5 := by
    rw [hP, ← g1]
    refine sm_mono (fun w hwn => ?_)
    have h4 := hK.2 w
    have h12 := hK.1 12 w (by omega)
    have h5 := (IC_U hI w).2.2.2.2.2.1
    have hg2 := g2 w hwn
    unfold c_part
    rw [h12]
    split
    · split <;> omega
    · split
      · split <;> omega
      · omega
  have hdiv : 0 < c 20 5 → 1000 * P / c 20 5 ≤ 1000 := fun h => by
    refine Nat.div_le_of_le_mul ?_
    rw [Nat.mul_comm (c 20 5)]
    exact Nat.mul_le_mul_left _ hPle
  obtain ⟨B, hB⟩ : ∃ z, z = max (c 20 6) (if b ≠ 0 ∧ 0 < c 20 5 then 1000 * P / c 20 5 else 1000) := ⟨_, rfl⟩
  have hBle : B ≤ 1000 := by
    rw [hB]
    split
    · rename_i h; have := hdiv h.2; omega
    · omega
  have hBr : (if b = 1 then r_rs (up2 (r_t3 r) 30 13 b) else 1000) = B := by
    rw [hB]
    by_cases e : b = 1
    · rw [if_pos e, hrs]
      by_cases e2 : 0 < c 20 5
      · rw [if_pos e2, if_pos ⟨by omega, e2⟩]
      · rw [if_neg e2, if_neg (fun z => e2 z.2)]
    · rw [if_neg e, if_neg (fun z => by omega)]
      omega
  rw [hBr] at hrt
  rw [hbarC, ← hB] at htk
  rw [htk] at hIC ⊢
  rw [hrt] at hIR ⊢
  obtain ⟨w1, w2, w3⟩ := hW
  have kc : ∀ a j, a ≠ 20 → up2 (up2 c3 20 3 b) 20 6 B a j = c3 a j := fun a j h => (up2_c h).trans (up2_c h)
  have kr : ∀ a j, a ≠ 30 → up2 (up2 (r_t3 r) 30 13 b) 30 16 B a j = r_t3 r a j := fun a j h => (up2_c h).trans (up2_c h)
  refine ⟨hIC, hIR, ⟨?_, ?_, ?_, ?_, ⟨?_, ?_, ?_⟩, ?_, ?_⟩, ?_⟩
  · intro u hu
    have hu2 : c 20 1 ≤ u := by
      rw [← k20 1]; exact hu
    rw [kc 3 u (by decide), kc 4 u (by decide), kc 5 u (by decide), kc 6 u (by decide), kc 7 u (by decide), kc 8 u (by decide), kc 9 u (by decide), hhi 3 u hu2, hhi 4 u hu2, hhi 5 u hu2, hhi 6 u hu2, hhi 7 u hu2, hhi 8 u hu2, hhi 9 u hu2]
    exact hF u hu2
  · intro u
    rw [kc 4 u (by decide), kc 5 u (by decide), kc 9 u (by decide), kc 10 u (by decide), kc 11 u (by decide), kc 12 u (by decide), kr 4 u (by decide), kr 6 u (by decide), kr 17 u (by decide), kr 18 u (by decide), kr 19 u (by decide), kr 20 u (by decide)]
    exact d1 u
  · intro u hu
    rw [kc 1 u (by decide), kc 2 u (by decide), kc 3 u (by decide), kc 6 u (by decide), kr 1 u (by decide), kr 2 u (by decide), kr 3 u (by decide), kr 5 u (by decide)]
    exact d2 u hu
  · intro u v hu hv
    rw [kc 7 u (by decide), kc 8 u (by decide), kr 7 _ (by decide), kr 8 _ (by decide), kr 11 _ (by decide), hK.1 7 u (by omega), hK.1 8 u (by omega), t3_n r 7 _ (by omega), t3_n r 8 _ (by omega), t3_n r 11 _ (by omega)]
    exact hE u v hu hv
  · intro j hj
    rw [kc 30 0 (by decide), hK.1 30 0 (by omega)] at hj
    rw [kc 31 j (by decide), kc 32 j (by decide), kc 33 j (by decide), hK.1 31 j (by omega), hK.1 32 j (by omega), hK.1 33 j (by omega), kr 8 _ (by decide), kr 9 _ (by decide), t3_n r 8 _ (by omega), t3_n r 9 _ (by omega)]
    exact w1 j hj
  · intro u v hu hv h
    rw [kr 8 _ (by decide), t3_n r 8 _ (by omega)] at h
    obtain ⟨j, z1, z2, z3⟩ := w2 u v hu hv h
    exact ⟨j, by rw [kc 30 0 (by decide), hK.1 30 0 (by omega)]; exact z1, by rw [kc 31 j (by decide), hK.1 31 j (by omega)]; exact z2, by rw [kc 32 j (by decide), hK.1 32 j (by omega)]; exact z3⟩
  · rw [kc 30 0 (by decide), hK.1 30 0 (by omega), up2_i (show (10 : Nat) ≠ 16 by decide), up2_i (show (10 : Nat) ≠ 13 by decide), t3_n r 30 10 (by omega)]
    exact w3
  · refine ⟨?_, ?_, ?_, ?_, ?_, ?_⟩
    · rw [up2_i (show (0 : Nat) ≠ 16 by decide), up2_i (show (0 : Nat) ≠ 13 by decide), up2_i (show (1 : Nat) ≠ 6 by decide), up2_i (show (1 : Nat) ≠ 3 by decide), t0, k20]
    · rw [up2_i (show (13 : Nat) ≠ 16 by decide), up2_s, up2_i (show (3 : Nat) ≠ 6 by decide), up2_s]
    · rw [up2_i (show (14 : Nat) ≠ 16 by decide), up2_i (show (14 : Nat) ≠ 13 by decide), up2_i (show (4 : Nat) ≠ 6 by decide), up2_i (show (4 : Nat) ≠ 3 by decide), t3_n r 30 14 (by omega), k20]
      exact o3
    · rw [up2_i (show (15 : Nat) ≠ 16 by decide), up2_i (show (15 : Nat) ≠ 13 by decide), up2_i (show (5 : Nat) ≠ 6 by decide), up2_i (show (5 : Nat) ≠ 3 by decide), hts, k20]
    · rw [up2_s, up2_s]
    · intro h
      rw [up2_i (show (12 : Nat) ≠ 16 by decide), up2_i (show (12 : Nat) ≠ 13 by decide), t3_n r 30 12 (by omega)] at h
      exact absurd (o2.symm.trans (o6 h).2) hg
  · refine ⟨by rw [up2_s]; exact hBle, fun _ => ?_⟩
    rw [up2_i (show (1 : Nat) ≠ 6 by decide), up2_i (show (1 : Nat) ≠ 3 by decide), up2_i (show (5 : Nat) ≠ 6 by decide), up2_i (show (5 : Nat) ≠ 3 by decide), k20, k20]
    refine ⟨?_, fun u hu => ?_⟩
    · rw [← g1]
      exact sm_cg (fun w _ => by rw [kc 5 w (by decide), kc 12 w (by decide), hK.1 5 w (by omega), hK.1 12 w (by omega)])
    · rw [kc 9 u (by decide), kc 5 u (by decide), hK.1 5 u (by omega), hK.2 u]
      exact g2 u hu
  · rw [kc 30 0 (by decide), hK.1 30 0 (by omega)]
    exact hw
theorem tk_22 (r : Nat → Nat → Nat) : ∀ k, r_tkI r k 30 22 = r 30 22
  | 0 => rfl
  | k + 1 => by
    show r_tick1 (r_tkI r k) 30 22 = _
    unfold r_tick1
    rw [up2_i (show (22 : Nat) ≠ 16 by decide), up2_i (show (22 : Nat) ≠ 13 by decide), t3_n _ 30 22 (by omega)]
    exact tk_22 r k
theorem Inv_tkI {c r : Nat → Nat → Nat} {i : Nat} (hV : Inv c r i) : ∀ k, (∀ j, j < k → c_tkI c j 20 3 ≠ 0) → Inv (c_tkI c k) (r_tkI r k) i
  | 0, _ => hV
  | k + 1, h => Inv_tick (Inv_tkI hV k (fun j hj => h j (by omega))) (h k (Nat.lt_succ_self k))
theorem Inv_tkR {c r : Nat → Nat → Nat} {i : Nat} (hV : Inv c r i) : ∀ k, (∀ j, j < k → r_tkI r j 30 13 ≠ 0) → Inv (c_tkI c k) (r_tkI r k) i
  | 0, _ => hV
  | k + 1, h => by
    have h1 := Inv_tkR hV k (fun j hj => h j (by omega))
    exact Inv_tick h1 (fun z => h k (Nat.lt_succ_self k) (by rw [← T_goesOn h1]; exact z))
theorem T_tick {c r : Nat → Nat → Nat} {i o : Nat} {x k9 v : Int32} {z9 : (Nat → Nat → Nat) × Nat} {u9 : Nat → Nat → Nat} (hV : Inv c r i) (h1 : PC_tick c o x k9 z9) (h2 : PM_tick r x v u9) : Out k9 z9 v u9 i := by
  have e3 : r 30 13 = c 20 3 := hV.2.2.1.2.2.2.2.2.1.2.1
  unfold PM_tick at h2
  rw [e3] at h2
  have hV0 : Inv c (up2 r 30 22 0) (i + 1) := Inv_thr hV (Nat.zero_le _)
  rcases h1 with ⟨rfl, w, ⟨t, k, ht, rfl, hg, hkt, hgo, hend, rfl, hz⟩, ho⟩ | ⟨rfl, rfl, hp⟩ | ⟨rfl, rfl, hp⟩
  · rcases h2 with ⟨hc, -⟩ | ⟨-, hc, -⟩ | ⟨t', k', ht', ex, -, hkt', hgo', hend', rfl, rfl⟩
    · exact absurd (inR_of ht.1 ht.2 (by decide)) hc
    · exact absurd hc hg
    · have e1 : t = t' := nI_ij (by omega) (by omega) ex
      subst e1
      have hk := Inv_tkI hV0 k hgo
      have hk' := Inv_tkR hV0 k' hgo'
      have ekk : k = k' := by
        rcases Nat.lt_trichotomy k k' with e | e | e
        · rcases hend with z | z
          · omega
          · exact absurd ((T_goesOn hk).symm.trans z) (hgo' k e)
        · exact e
        · rcases hend' with z | z
          · omega
          · exact absurd ((T_goesOn hk').trans z) (hgo k' e)
      subst ekk
      refine ⟨by rw [tk_22, up2_s], fun _ => ho, ?_⟩
      rw [hz]
      exact hk
  · have hb := hp.elim (fun z => z.2) (fun z => absurd z.1 exAS)
    rcases h2 with ⟨-, rfl⟩ | ⟨hc, -⟩ | ⟨t', k', ht', rfl, -⟩
    · exact Out_f hV (by decide) (by decide)
    · exact absurd hc hb
    · exact absurd (inR_of ht'.1 ht'.2 (by decide)) hb
  · obtain ⟨-, ha, hb⟩ := hp.elim (fun z => absurd z.1.symm exAS) id
    rcases h2 with ⟨hc, -⟩ | ⟨-, -, rfl⟩ | ⟨t', k', ht', rfl, hc, -⟩
    · exact absurd ha hc
    · exact Out_f hV (by decide) (by decide)
    · exact absurd hb hc
