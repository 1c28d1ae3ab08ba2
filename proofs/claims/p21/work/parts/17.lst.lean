/-! THE LIST'S CELLS: what its writes do -/
theorem P_l0 {G : Nat → Nat} {c : Nat → Nat → Nat} {wl : va_W} (v : Nat) (h : Rc G c wl) : Rc G (up2 c 37 0 v) (wl.set 2 (G 2, .inr (0, (lF c).set 0 (.int (nI v))))) := by
  obtain ⟨a0, a1, a2, a3, a4, a5, a6, a7, a8⟩ := h
  refine ⟨by rw [ws_ne (by decide)]; exact a0, by rw [ws_ne (by decide)]; exact a1, by rw [ws_eq a2]; simp [lF, up2], fun u hu => by rw [ws_ne (by omega)]; exact a3 u hu, fun j hj => ?_, a5, a6, fun hc => ?_, fun hc => ?_⟩
  · obtain ⟨k, hk, hq⟩ := a4 j hj
    exact ⟨k, hk, by rw [ws_ne (by omega)]; exact hq⟩
  · obtain ⟨k, hk, hq⟩ := a7 hc
    exact ⟨k, hk, by rw [ws_ne (by omega)]; exact hq⟩
  · obtain ⟨k, hk, hq, hz⟩ := a8 hc
    exact ⟨k, hk, by rw [ws_ne (by omega)]; exact hq, hz⟩
/-- the object that is being made -/
theorem Q_x {G : Nat → Nat} {c : Nat → Nat → Nat} {wl : va_W} (h : Rc G c wl) (hf : c 38 0 = 1) : ∃ i, 27 ≤ i ∧ wl[i]? = some (c 38 1, .inr (2, xF G c)) := by
  obtain ⟨k, hk, hq, -⟩ := h.2.2.2.2.2.2.2.2 hf
  exact ⟨k, hk, hq⟩
theorem P_x {G : Nat → Nat} {c : Nat → Nat → Nat} {wl : va_W} {i k v : Nat} {val : Value} (hk : k = 0 ∨ k = 1 ∨ k = 2) (hv : k < 2 → val = sbV G v) (hv2 : k = 2 → val = .int (nI v)) (hf : c 38 0 = 1) (hi : 27 ≤ i) (hq : wl[i]? = some (c 38 1, .inr (2, xF G c))) (h : Rc G c wl) : Rc G (up2 c 38 (k + 2) v) (wl.set i (c 38 1, .inr (2, (xF G c).set k val))) := by
  obtain ⟨a0, a1, a2, a3, a4, a5, a6, a7, a8⟩ := h
  obtain ⟨i2, hi2, hq2, hz⟩ := a8 hf
  refine ⟨by rw [ws_ne (by omega)]; exact a0, by rw [ws_ne (by omega)]; exact a1, by rw [ws_ne (by omega)]; exact a2, fun w hw => by rw [ws_ne (by omega)]; exact a3 w hw, fun j hj => ?_, a5, a6, fun hc => ?_, fun _ => ?_⟩
  · obtain ⟨m, hm, e⟩ := a4 j hj
    have hne : i ≠ m := fun z => by
      subst z
      have e2 := hq.symm.trans e
      exact hz j hj (congrArg Prod.fst (Option.some.inj e2)).symm
    exact ⟨m, hm, by rw [ws_ne hne]; exact e⟩
  · obtain ⟨m, hm, e⟩ := a7 hc
    have hne : i ≠ m := fun z => by
      subst z
      have e2 := hq.symm.trans e
      have e3 := congrArg Prod.snd (Option.some.inj e2)
      cases e3
    exact ⟨m, hm, by rw [ws_ne hne]; exact e⟩
  · have e1 : up2 c 38 (k + 2) v 38 1 = c 38 1 := up2_i (by omega)
    refine ⟨i, hi, ?_, fun j hj => by rw [e1]; exact hz j hj⟩
    rw [ws_eq hq, e1]
    rcases hk with e | e | e <;> subst e
    · rw [hv (by decide)]; simp [xF, up2]
    · rw [hv (by decide)]; simp [xF, up2]
    · rw [hv2 rfl]; simp [xF, up2]
/-- a wish is made: no fields yet -/
def c_raw (c : Nat → Nat → Nat) (q : Nat) : Nat → Nat → Nat := up2 (up2 (up2 (up2 (up2 c 38 0 1) 38 1 q) 38 2 0) 38 3 0) 38 4 0
theorem P_new {G : Nat → Nat} {c : Nat → Nat → Nat} {wl : va_W} {A : Nat → Prop} {q : Nat} (hD : va_D A (wl ++ [(q, .inr (2, [.null, .null, .int 0]))])) (h : Rc G c wl) : Rc G (c_raw c q) (wl ++ [(q, .inr (2, [.null, .null, .int 0]))]) := by
  have h' : Rc G c (wl ++ [(q, .inr (2, [.null, .null, .int 0]))]) := Rc_ap h
  obtain ⟨a0, a1, a2, a3, a4, a5, a6, a7, -⟩ := h'
  have hlast : (wl ++ [(q, (.inr (2, [.null, .null, .int 0]) : va_E))])[wl.length]? = some (q, .inr (2, [.null, .null, .int 0])) := by simp
  have hlen : 27 ≤ wl.length := by
    have := (List.getElem?_eq_some_iff.mp (Q_u h (show 19 < 20 by decide))).1
    omega
  refine ⟨a0, a1, a2, a3, a4, a5, a6, a7, fun _ => ⟨wl.length, hlen, ?_, fun j hj => ?_⟩⟩
  · rw [hlast]
    simp [xF, c_raw, up2, sbV, nI_0]
  · intro e
    obtain ⟨k, hk, hq⟩ := Q_w h hj
    have e2 : c 34 j = q := e
    have := hD.1 k wl.length _ _ (ws_ap hq) hlast e2
    have := (List.getElem?_eq_some_iff.mp hq).1
    omega
/-- the list with the new wish -/
def c_app (c : Nat → Nat → Nat) (a b w : Nat) : Nat → Nat → Nat := up2 (up2 (up2 (up2 (up2 (up2 c 31 (c 30 0) a) 32 (c 30 0) b) 33 (c 30 0) w) 34 (c 30 0) (c 38 1)) 30 0 (c 30 0 + 1)) 38 0 0
theorem P_fin {G : Nat → Nat} {c : Nat → Nat → Nat} {wl : va_W} {k a b w : Nat} (hf : c 38 0 = 1) (ha : c 38 2 = a + 1) (hb : c 38 3 = b + 1) (hw : c 38 4 = w) (hcap : c 30 0 < c 36 0) (hk : 27 ≤ k)
    (hq : wl[k]? = some (c 35 0, .inl (G 61, c 36 0, .inr (.inr (.inr (.inr (fun j => if j < c 30 0 then some (c 34 j) else none))))))) (h : Rc G c wl) :
    Rc G (c_app c a b w) ((wl.set k (c 35 0, .inl (G 61, c 36 0, .inr (.inr (.inr (.inr (va_up (fun j => if j < c 30 0 then some (c 34 j) else none) (c 30 0) (some (c 38 1))))))))).set 2 (G 2, .inr (0, (lF c).set 2 (.int (nI (c 30 0 + 1)))))) := by
  obtain ⟨a0, a1, a2, a3, a4, a5, a6, a7, a8⟩ := h
  obtain ⟨i, hi, hx, hz⟩ := a8 hf
  have hik : k ≠ i := fun z => by
    subst z
    have e2 := hq.symm.trans hx
    have e3 := congrArg Prod.snd (Option.some.inj e2)
    cases e3
  have e0 : c_app c a b w 30 0 = c 30 0 + 1 := by simp [c_app, up2]
  have eo : ∀ j, j ≠ c 30 0 → c_app c a b w 34 j = c 34 j ∧ wF G (c_app c a b w) j = wF G c j := fun j hj => by simp [c_app, up2, wF, hj]
  have en : c_app c a b w 34 (c 30 0) = c 38 1 ∧ wF G (c_app c a b w) (c 30 0) = xF G c := by
    constructor
    · simp [c_app, up2]
    · simp only [wF, xF]
      rw [ha, hb, hw, sbV_s G rfl, sbV_s G rfl]
      simp [c_app, up2]
  refine ⟨by rw [ws_ne (by omega), ws_ne (by omega)]; exact a0, by rw [ws_ne (by omega), ws_ne (by omega)]; exact a1, ?_, fun u hu => by rw [ws_ne (by omega), ws_ne (by omega)]; exact a3 u hu, fun j hj => ?_, fun x y hxx hyy e => ?_, fun hc => ?_, fun hc => ?_, fun hc => ?_⟩
  · rw [ws_eq (by rw [ws_ne (by omega)]; exact a2)]
    simp [lF, c_app, up2]
  · rw [e0] at hj
    by_cases hjn : j = c 30 0
    · subst hjn
      refine ⟨i, hi, ?_⟩
      rw [ws_ne (by omega), ws_ne hik, en.1, en.2]
      exact hx
    · obtain ⟨m, hm, e⟩ := a4 j (by omega)
      have hne : k ≠ m := fun z => by
        subst z
        have e2 := hq.symm.trans e
        have e3 := congrArg Prod.snd (Option.some.inj e2)
        cases e3
      refine ⟨m, hm, ?_⟩
      rw [ws_ne (by omega), ws_ne hne, (eo j hjn).1, (eo j hjn).2]
      exact e
  · rw [e0] at hxx hyy
    by_cases h1 : x = c 30 0 <;> by_cases h2 : y = c 30 0
    · omega
    · rw [h1, en.1, (eo y h2).1] at e
      exact absurd e.symm (hz y (by omega))
    · rw [h2, en.1, (eo x h1).1] at e
      exact absurd e (hz x (by omega))
    · rw [(eo x h1).1, (eo y h2).1] at e
      exact a5 x y (by omega) (by omega) e
  · have : c_app c a b w 36 0 = c 36 0 := by simp [c_app, up2]
    omega
  · refine ⟨k, hk, ?_⟩
    rw [ws_ne (by omega), ws_eq hq]
    have e1 : c_app c a b w 35 0 = c 35 0 := by simp [c_app, up2]
    have e2 : c_app c a b w 36 0 = c 36 0 := by simp [c_app, up2]
    rw [e0, e1, e2]
    have ef : va_up (fun j => if j < c 30 0 then some (c 34 j) else none) (c 30 0) (some (c 38 1)) = fun j => if j < c 30 0 + 1 then some (c_app c a b w 34 j) else none := by
      funext j
      by_cases hjn : j = c 30 0
      · subst hjn
        rw [va_up_self, if_pos (Nat.lt_succ_self _), en.1]
      · rw [va_up_ne _ _ hjn, (eo j hjn).1]
        by_cases hj : j < c 30 0
        · rw [if_pos hj, if_pos (by omega)]
        · rw [if_neg hj, if_neg (by omega)]
    rw [ef]
  · have : c_app c a b w 38 0 = 0 := by simp [c_app, up2]
    omega
/-- another array under the list -/
theorem P_grow {G : Nat → Nat} {c : Nat → Nat → Nat} {wl : va_W} {k q N : Nat} (hN : 0 < N) (hk : 27 ≤ k) (hq : wl[k]? = some (q, .inl (G 61, N, .inr (.inr (.inr (.inr (fun j => if j < c 30 0 then some (c 34 j) else none))))))) (h : Rc G c wl) :
    Rc G (up2 (up2 c 35 0 q) 36 0 N) (wl.set 2 (G 2, .inr (0, (lF c).set 1 (.ref q)))) := by
  obtain ⟨a0, a1, a2, a3, a4, a5, a6, a7, a8⟩ := h
  refine ⟨by rw [ws_ne (by decide)]; exact a0, by rw [ws_ne (by decide)]; exact a1, by rw [ws_eq a2]; simp [lF, up2], fun u hu => by rw [ws_ne (by omega)]; exact a3 u hu, fun j hj => ?_, a5, fun hc => ?_, fun hc => ?_, fun hc => ?_⟩
  · obtain ⟨k, hk, hq⟩ := a4 j hj
    exact ⟨k, hk, by rw [ws_ne (by omega)]; exact hq⟩
  · have : up2 (up2 c 35 0 q) 36 0 N 36 0 = N := up2_s ..
    omega
  · exact ⟨k, hk, by rw [ws_ne (by omega), hq]; simp [up2]⟩
  · obtain ⟨k, hk, hq, hz⟩ := a8 hc
    exact ⟨k, hk, by rw [ws_ne (by omega)]; exact hq, hz⟩
theorem Q_b {G : Nat → Nat} {c : Nat → Nat → Nat} {wl : va_W} (h : Rc G c wl) (hc : 0 < c 36 0) : ∃ k, 27 ≤ k ∧ wl[k]? = some (c 35 0, .inl (G 61, c 36 0, .inr (.inr (.inr (.inr (fun j => if j < c 30 0 then some (c 34 j) else none)))))) := h.2.2.2.2.2.2.2.1 hc
theorem Q_0 {G : Nat → Nat} {c : Nat → Nat → Nat} {wl : va_W} (h : Rc G c wl) (hc : c 36 0 = 0) : c 35 0 = G 70 ∧ c 30 0 = 0 := h.2.2.2.2.2.2.1 hc
