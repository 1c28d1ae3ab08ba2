/-! THE STATE. c: the class's columns (c k u: field k of unit u; c 20 k: field k of the BootStage; c 30 0: wishes told; c 31 j, c 32 j, c 33 j, c 34 j: units, weight and address of wish j; c 35 0, c 36 0: the list's array and its length, 0 for the shared empty one; c 37 0: modCount). r: the law's arrays: r (10 + j) k is field j of unit k in g (field 2 as 0 for -1, v + 1), r 2 i is w[i], r 3 i is e[i], r 4 i is m[i]. o: nothing. G: addresses. -/
abbrev vwCl : List vw_C := [(RJx4a65c, TJx4a65c, 3), (RX0, TX0, 13), (RX1, TX1, 3), (RX2, TX2, 7)]
def up2 (x : Nat → Nat → Nat) (a i v : Nat) : Nat → Nat → Nat := fun b j => if b = a ∧ j = i then v else x b j
theorem up2_s (x : Nat → Nat → Nat) (a i v : Nat) : up2 x a i v a i = v := by simp [up2]
theorem up2_c {x : Nat → Nat → Nat} {a i v b j : Nat} (h : b ≠ a) : up2 x a i v b j = x b j := by simp [up2, h]
theorem up2_i {x : Nat → Nat → Nat} {a i v b j : Nat} (h : j ≠ i) : up2 x a i v b j = x b j := by simp [up2, h]
def sbV (G : Nat → Nat) (n : Nat) : Value := if n = 0 then .null else .ref (G (19 + n))
theorem sbV_0 (G : Nat → Nat) {n : Nat} (h : n = 0) : sbV G n = .null := by simp [sbV, h]
theorem sbV_s (G : Nat → Nat) {n u : Nat} (h : n = u + 1) : sbV G n = .ref (G (20 + u)) := by
  subst h
  simp only [sbV, Nat.succ_ne_zero, if_false]
  rw [show 19 + (u + 1) = 20 + u by omega]
def siI (n : Nat) : Int32 := nI n - 1
def lE (n : Nat) : Int64 := lN n - 1

abbrev uF (G : Nat → Nat) (c : Nat → Nat → Nat) (u : Nat) : List Value := [.int (nI u), .int (nI (c 1 u)), .int (nI (c 2 u)), .int (nI (c 3 u)), .int (nI (c 4 u)), .int (nI (c 5 u)), sbV G (c 6 u), .int (nI (c 7 u)), .int (nI (c 8 u)), .int (nI (c 9 u)), .int (nI (c 10 u)), .int (nI (c 11 u)), .int (nI (c 12 u))]
abbrev oF (G : Nat → Nat) (c : Nat → Nat → Nat) : List Value := [.ref (G 1), .int (nI (c 20 1)), .ref (G 2), .int (nI (c 20 3)), .int (nI (c 20 4)), .int (nI (c 20 5)), .int (nI (c 20 6))]
abbrev lF (c : Nat → Nat → Nat) : List Value := [.int (nI (c 37 0)), .ref (c 35 0), .int (nI (c 30 0))]
abbrev xF (G : Nat → Nat) (c : Nat → Nat → Nat) : List Value := [sbV G (c 38 2), sbV G (c 38 3), .int (nI (c 38 4))]
abbrev wF (G : Nat → Nat) (c : Nat → Nat → Nat) (j : Nat) : List Value := [.ref (G (20 + c 31 j)), .ref (G (20 + c 32 j)), .int (nI (c 33 j))]
/-- g as it lies -/
def gV (r : Nat → Nat → Nat) (i : Nat) : Int32 := if i % 8 = 2 then siI (r 12 (i / 8)) else nI (r (10 + i % 8) (i / 8))
def Rc (G : Nat → Nat) (c : Nat → Nat → Nat) (wl : va_W) : Prop :=
  wl[0]? = some (G 0, .inr (3, oF G c)) ∧ wl[1]? = some (G 1, .inl (G 60, 20, .inr (.inr (.inr (.inr (fun i => some (G (20 + i)))))))) ∧ wl[2]? = some (G 2, .inr (0, lF c)) ∧
  (∀ u, u < 20 → wl[7 + u]? = some (G (20 + u), .inr (1, uF G c u))) ∧
  (∀ j, j < c 30 0 → ∃ i, 27 ≤ i ∧ wl[i]? = some (c 34 j, .inr (2, wF G c j))) ∧
  (∀ i j, i < c 30 0 → j < c 30 0 → c 34 i = c 34 j → i = j) ∧
  (c 36 0 = 0 → c 35 0 = G 70 ∧ c 30 0 = 0) ∧
  (0 < c 36 0 → ∃ i, 27 ≤ i ∧ wl[i]? = some (c 35 0, .inl (G 61, c 36 0, .inr (.inr (.inr (.inr (fun j => if j < c 30 0 then some (c 34 j) else none))))))) ∧
  (c 38 0 = 1 → ∃ i, 27 ≤ i ∧ wl[i]? = some (c 38 1, .inr (2, xF G c)) ∧ ∀ j, j < c 30 0 → c 34 j ≠ c 38 1)
def Rr (G : Nat → Nat) (r : Nat → Nat → Nat) (wl : va_W) : Prop := wl[3]? = some (G 3, .inl (G 62, 64, .inl (gV r))) ∧ wl[4]? = some (G 4, .inl (G 62, 64, .inl (fun i => nI (r 2 i)))) ∧ wl[5]? = some (G 5, .inl (G 62, 24, .inl (fun i => nI (r 3 i)))) ∧ wl[6]? = some (G 6, .inl (G 62, 3, .inl (fun i => nI (r 4 i))))
def Ro (G : Nat → Nat) (o : Nat) (wl : va_W) : Prop := G 0 = G 0 ∧ o = o ∧ wl = wl
theorem ws_ne {wl : va_W} {i j : Nat} {e : Nat × va_E} (h : i ≠ j) : (wl.set i e)[j]? = wl[j]? := List.getElem?_set_ne h
theorem ws_eq {wl : va_W} {i : Nat} {e q : Nat × va_E} (h : wl[i]? = some q) : (wl.set i e)[i]? = some e := List.getElem?_set_self (List.getElem?_eq_some_iff.mp h).1
theorem ws_ap {wl l : va_W} {i : Nat} {q : Nat × va_E} (h : wl[i]? = some q) : (wl ++ l)[i]? = some q := by
  rw [List.getElem?_append_left (List.getElem?_eq_some_iff.mp h).1]
  exact h
theorem Rc_fr {G : Nat → Nat} {c : Nat → Nat → Nat} {wl : va_W} {i : Nat} {e : Nat × va_E} (h : Rc G c wl) (h1 : 3 ≤ i) (h2 : i < 7) : Rc G c (wl.set i e) := by
  obtain ⟨a0, a1, a2, a3, a4, a5, a6, a7, a8⟩ := h
  refine ⟨by rw [ws_ne (by omega)]; exact a0, by rw [ws_ne (by omega)]; exact a1, by rw [ws_ne (by omega)]; exact a2, fun u hu => by rw [ws_ne (by omega)]; exact a3 u hu, fun j hj => ?_, a5, a6, fun hc => ?_, fun hc => ?_⟩
  · obtain ⟨k, hk, hq⟩ := a4 j hj
    exact ⟨k, hk, by rw [ws_ne (by omega)]; exact hq⟩
  · obtain ⟨k, hk, hq⟩ := a7 hc
    exact ⟨k, hk, by rw [ws_ne (by omega)]; exact hq⟩
  · obtain ⟨k, hk, hq, hz⟩ := a8 hc
    exact ⟨k, hk, by rw [ws_ne (by omega)]; exact hq, hz⟩
theorem Rc_ap {G : Nat → Nat} {c : Nat → Nat → Nat} {wl l : va_W} (h : Rc G c wl) : Rc G c (wl ++ l) := by
  obtain ⟨a0, a1, a2, a3, a4, a5, a6, a7, a8⟩ := h
  refine ⟨ws_ap a0, ws_ap a1, ws_ap a2, fun u hu => ws_ap (a3 u hu), fun j hj => ?_, a5, a6, fun hc => ?_, fun hc => ?_⟩
  · obtain ⟨k, hk, hq⟩ := a4 j hj
    exact ⟨k, hk, ws_ap hq⟩
  · obtain ⟨k, hk, hq⟩ := a7 hc
    exact ⟨k, hk, ws_ap hq⟩
  · obtain ⟨k, hk, hq, hz⟩ := a8 hc
    exact ⟨k, hk, ws_ap hq, hz⟩
theorem Ro_fr {G : Nat → Nat} {o : Nat} {wl : va_W} {i : Nat} {e : Nat × va_E} (_ : Ro G o wl) (_ : i ≠ 4) : Ro G o (wl.set i e) := ⟨rfl, rfl, rfl⟩
theorem Ro_ap {G : Nat → Nat} {o : Nat} {wl l : va_W} (_ : Ro G o wl) : Ro G o (wl ++ l) := ⟨rfl, rfl, rfl⟩
theorem Rr_fr {G : Nat → Nat} {r : Nat → Nat → Nat} {wl : va_W} {i : Nat} {e : Nat × va_E} (h : Rr G r wl) (hi : i < 3 ∨ 7 ≤ i) : Rr G r (wl.set i e) := by
  obtain ⟨b3, b4, b5, b6⟩ := h
  exact ⟨by rw [ws_ne (by omega)]; exact b3, by rw [ws_ne (by omega)]; exact b4, by rw [ws_ne (by omega)]; exact b5, by rw [ws_ne (by omega)]; exact b6⟩
theorem Rr_ap {G : Nat → Nat} {r : Nat → Nat → Nat} {wl l : va_W} (h : Rr G r wl) : Rr G r (wl ++ l) := by
  obtain ⟨b3, b4, b5, b6⟩ := h
  exact ⟨ws_ap b3, ws_ap b4, ws_ap b5, ws_ap b6⟩
theorem P_o1 {G : Nat → Nat} {c : Nat → Nat → Nat} {wl : va_W} (v : Nat) (h : Rc G c wl) : Rc G (up2 c 20 1 v) (wl.set 0 (G 0, .inr (3, (oF G c).set 1 (.int (nI v))))) := by
  obtain ⟨a0, a1, a2, a3, a4, a5, a6, a7, a8⟩ := h
  refine ⟨by rw [ws_eq a0]; rfl, by rw [ws_ne (by decide)]; exact a1, by rw [ws_ne (by decide)]; exact a2, fun u hu => by rw [ws_ne (by omega)]; exact a3 u hu, fun j hj => ?_, a5, a6, fun hc => ?_, fun hc => ?_⟩
  · obtain ⟨k, hk, hq⟩ := a4 j hj
    exact ⟨k, hk, by rw [ws_ne (by omega)]; exact hq⟩
  · obtain ⟨k, hk, hq⟩ := a7 hc
    exact ⟨k, hk, by rw [ws_ne (by omega)]; exact hq⟩
  · obtain ⟨k, hk, hq, hz⟩ := a8 hc
    exact ⟨k, hk, by rw [ws_ne (by omega)]; exact hq, hz⟩
theorem P_o3 {G : Nat → Nat} {c : Nat → Nat → Nat} {wl : va_W} (v : Nat) (h : Rc G c wl) : Rc G (up2 c 20 3 v) (wl.set 0 (G 0, .inr (3, (oF G c).set 3 (.int (nI v))))) := by
  obtain ⟨a0, a1, a2, a3, a4, a5, a6, a7, a8⟩ := h
  refine ⟨by rw [ws_eq a0]; rfl, by rw [ws_ne (by decide)]; exact a1, by rw [ws_ne (by decide)]; exact a2, fun u hu => by rw [ws_ne (by omega)]; exact a3 u hu, fun j hj => ?_, a5, a6, fun hc => ?_, fun hc => ?_⟩
  · obtain ⟨k, hk, hq⟩ := a4 j hj
    exact ⟨k, hk, by rw [ws_ne (by omega)]; exact hq⟩
  · obtain ⟨k, hk, hq⟩ := a7 hc
    exact ⟨k, hk, by rw [ws_ne (by omega)]; exact hq⟩
  · obtain ⟨k, hk, hq, hz⟩ := a8 hc
    exact ⟨k, hk, by rw [ws_ne (by omega)]; exact hq, hz⟩
theorem P_o4 {G : Nat → Nat} {c : Nat → Nat → Nat} {wl : va_W} (v : Nat) (h : Rc G c wl) : Rc G (up2 c 20 4 v) (wl.set 0 (G 0, .inr (3, (oF G c).set 4 (.int (nI v))))) := by
  obtain ⟨a0, a1, a2, a3, a4, a5, a6, a7, a8⟩ := h
  refine ⟨by rw [ws_eq a0]; rfl, by rw [ws_ne (by decide)]; exact a1, by rw [ws_ne (by decide)]; exact a2, fun u hu => by rw [ws_ne (by omega)]; exact a3 u hu, fun j hj => ?_, a5, a6, fun hc => ?_, fun hc => ?_⟩
  · obtain ⟨k, hk, hq⟩ := a4 j hj
    exact ⟨k, hk, by rw [ws_ne (by omega)]; exact hq⟩
  · obtain ⟨k, hk, hq⟩ := a7 hc
    exact ⟨k, hk, by rw [ws_ne (by omega)]; exact hq⟩
  · obtain ⟨k, hk, hq, hz⟩ := a8 hc
    exact ⟨k, hk, by rw [ws_ne (by omega)]; exact hq, hz⟩
theorem P_o5 {G : Nat → Nat} {c : Nat → Nat → Nat} {wl : va_W} (v : Nat) (h : Rc G c wl) : Rc G (up2 c 20 5 v) (wl.set 0 (G 0, .inr (3, (oF G c).set 5 (.int (nI v))))) := by
  obtain ⟨a0, a1, a2, a3, a4, a5, a6, a7, a8⟩ := h
  refine ⟨by rw [ws_eq a0]; rfl, by rw [ws_ne (by decide)]; exact a1, by rw [ws_ne (by decide)]; exact a2, fun u hu => by rw [ws_ne (by omega)]; exact a3 u hu, fun j hj => ?_, a5, a6, fun hc => ?_, fun hc => ?_⟩
  · obtain ⟨k, hk, hq⟩ := a4 j hj
    exact ⟨k, hk, by rw [ws_ne (by omega)]; exact hq⟩
  · obtain ⟨k, hk, hq⟩ := a7 hc
    exact ⟨k, hk, by rw [ws_ne (by omega)]; exact hq⟩
  · obtain ⟨k, hk, hq, hz⟩ := a8 hc
    exact ⟨k, hk, by rw [ws_ne (by omega)]; exact hq, hz⟩
theorem P_o6 {G : Nat → Nat} {c : Nat → Nat → Nat} {wl : va_W} (v : Nat) (h : Rc G c wl) : Rc G (up2 c 20 6 v) (wl.set 0 (G 0, .inr (3, (oF G c).set 6 (.int (nI v))))) := by
  obtain ⟨a0, a1, a2, a3, a4, a5, a6, a7, a8⟩ := h
  refine ⟨by rw [ws_eq a0]; rfl, by rw [ws_ne (by decide)]; exact a1, by rw [ws_ne (by decide)]; exact a2, fun u hu => by rw [ws_ne (by omega)]; exact a3 u hu, fun j hj => ?_, a5, a6, fun hc => ?_, fun hc => ?_⟩
  · obtain ⟨k, hk, hq⟩ := a4 j hj
    exact ⟨k, hk, by rw [ws_ne (by omega)]; exact hq⟩
  · obtain ⟨k, hk, hq⟩ := a7 hc
    exact ⟨k, hk, by rw [ws_ne (by omega)]; exact hq⟩
  · obtain ⟨k, hk, hq, hz⟩ := a8 hc
    exact ⟨k, hk, by rw [ws_ne (by omega)]; exact hq, hz⟩
theorem P_u1 {G : Nat → Nat} {c : Nat → Nat → Nat} {wl : va_W} {u : Nat} (v : Nat) (hu : u < 20) (h : Rc G c wl) : Rc G (up2 c 1 u v) (wl.set (7 + u) (G (20 + u), .inr (1, (uF G c u).set 1 (.int (nI v))))) := by
  obtain ⟨a0, a1, a2, a3, a4, a5, a6, a7, a8⟩ := h
  refine ⟨by rw [ws_ne (by omega)]; exact a0, by rw [ws_ne (by omega)]; exact a1, by rw [ws_ne (by omega)]; exact a2, fun w hw => ?_, fun j hj => ?_, a5, a6, fun hc => ?_, fun hc => ?_⟩
  · by_cases hwu : w = u
    · subst hwu
      rw [ws_eq (a3 w hw)]
      show some _ = some (_, Sum.inr (1, uF G (up2 c 1 w v) w))
      simp [uF, up2]
    · rw [ws_ne (by omega), a3 w hw]
      simp only [uF, up2_i hwu]
  · obtain ⟨k, hk, hq⟩ := a4 j hj
    exact ⟨k, hk, by rw [ws_ne (by omega)]; exact hq⟩
  · obtain ⟨k, hk, hq⟩ := a7 hc
    exact ⟨k, hk, by rw [ws_ne (by omega)]; exact hq⟩
  · obtain ⟨k, hk, hq, hz⟩ := a8 hc
    exact ⟨k, hk, by rw [ws_ne (by omega)]; exact hq, hz⟩
theorem P_u2 {G : Nat → Nat} {c : Nat → Nat → Nat} {wl : va_W} {u : Nat} (v : Nat) (hu : u < 20) (h : Rc G c wl) : Rc G (up2 c 2 u v) (wl.set (7 + u) (G (20 + u), .inr (1, (uF G c u).set 2 (.int (nI v))))) := by
  obtain ⟨a0, a1, a2, a3, a4, a5, a6, a7, a8⟩ := h
  refine ⟨by rw [ws_ne (by omega)]; exact a0, by rw [ws_ne (by omega)]; exact a1, by rw [ws_ne (by omega)]; exact a2, fun w hw => ?_, fun j hj => ?_, a5, a6, fun hc => ?_, fun hc => ?_⟩
  · by_cases hwu : w = u
    · subst hwu
      rw [ws_eq (a3 w hw)]
      show some _ = some (_, Sum.inr (1, uF G (up2 c 2 w v) w))
      simp [uF, up2]
    · rw [ws_ne (by omega), a3 w hw]
      simp only [uF, up2_i hwu]
  · obtain ⟨k, hk, hq⟩ := a4 j hj
    exact ⟨k, hk, by rw [ws_ne (by omega)]; exact hq⟩
  · obtain ⟨k, hk, hq⟩ := a7 hc
    exact ⟨k, hk, by rw [ws_ne (by omega)]; exact hq⟩
  · obtain ⟨k, hk, hq, hz⟩ := a8 hc
    exact ⟨k, hk, by rw [ws_ne (by omega)]; exact hq, hz⟩
theorem P_u3 {G : Nat → Nat} {c : Nat → Nat → Nat} {wl : va_W} {u : Nat} (v : Nat) (hu : u < 20) (h : Rc G c wl) : Rc G (up2 c 3 u v) (wl.set (7 + u) (G (20 + u), .inr (1, (uF G c u).set 3 (.int (nI v))))) := by
  obtain ⟨a0, a1, a2, a3, a4, a5, a6, a7, a8⟩ := h
  refine ⟨by rw [ws_ne (by omega)]; exact a0, by rw [ws_ne (by omega)]; exact a1, by rw [ws_ne (by omega)]; exact a2, fun w hw => ?_, fun j hj => ?_, a5, a6, fun hc => ?_, fun hc => ?_⟩
  · by_cases hwu : w = u
    · subst hwu
      rw [ws_eq (a3 w hw)]
      show some _ = some (_, Sum.inr (1, uF G (up2 c 3 w v) w))
      simp [uF, up2]
    · rw [ws_ne (by omega), a3 w hw]
      simp only [uF, up2_i hwu]
  · obtain ⟨k, hk, hq⟩ := a4 j hj
    exact ⟨k, hk, by rw [ws_ne (by omega)]; exact hq⟩
  · obtain ⟨k, hk, hq⟩ := a7 hc
    exact ⟨k, hk, by rw [ws_ne (by omega)]; exact hq⟩
  · obtain ⟨k, hk, hq, hz⟩ := a8 hc
    exact ⟨k, hk, by rw [ws_ne (by omega)]; exact hq, hz⟩
theorem P_u4 {G : Nat → Nat} {c : Nat → Nat → Nat} {wl : va_W} {u : Nat} (v : Nat) (hu : u < 20) (h : Rc G c wl) : Rc G (up2 c 4 u v) (wl.set (7 + u) (G (20 + u), .inr (1, (uF G c u).set 4 (.int (nI v))))) := by
  obtain ⟨a0, a1, a2, a3, a4, a5, a6, a7, a8⟩ := h
  refine ⟨by rw [ws_ne (by omega)]; exact a0, by rw [ws_ne (by omega)]; exact a1, by rw [ws_ne (by omega)]; exact a2, fun w hw => ?_, fun j hj => ?_, a5, a6, fun hc => ?_, fun hc => ?_⟩
  · by_cases hwu : w = u
    · subst hwu
      rw [ws_eq (a3 w hw)]
      show some _ = some (_, Sum.inr (1, uF G (up2 c 4 w v) w))
      simp [uF, up2]
    · rw [ws_ne (by omega), a3 w hw]
      simp only [uF, up2_i hwu]
  · obtain ⟨k, hk, hq⟩ := a4 j hj
    exact ⟨k, hk, by rw [ws_ne (by omega)]; exact hq⟩
  · obtain ⟨k, hk, hq⟩ := a7 hc
    exact ⟨k, hk, by rw [ws_ne (by omega)]; exact hq⟩
  · obtain ⟨k, hk, hq, hz⟩ := a8 hc
    exact ⟨k, hk, by rw [ws_ne (by omega)]; exact hq, hz⟩
theorem P_u5 {G : Nat → Nat} {c : Nat → Nat → Nat} {wl : va_W} {u : Nat} (v : Nat) (hu : u < 20) (h : Rc G c wl) : Rc G (up2 c 5 u v) (wl.set (7 + u) (G (20 + u), .inr (1, (uF G c u).set 5 (.int (nI v))))) := by
  obtain ⟨a0, a1, a2, a3, a4, a5, a6, a7, a8⟩ := h
  refine ⟨by rw [ws_ne (by omega)]; exact a0, by rw [ws_ne (by omega)]; exact a1, by rw [ws_ne (by omega)]; exact a2, fun w hw => ?_, fun j hj => ?_, a5, a6, fun hc => ?_, fun hc => ?_⟩
  · by_cases hwu : w = u
    · subst hwu
      rw [ws_eq (a3 w hw)]
      show some _ = some (_, Sum.inr (1, uF G (up2 c 5 w v) w))
      simp [uF, up2]
    · rw [ws_ne (by omega), a3 w hw]
      simp only [uF, up2_i hwu]
  · obtain ⟨k, hk, hq⟩ := a4 j hj
    exact ⟨k, hk, by rw [ws_ne (by omega)]; exact hq⟩
  · obtain ⟨k, hk, hq⟩ := a7 hc
    exact ⟨k, hk, by rw [ws_ne (by omega)]; exact hq⟩
  · obtain ⟨k, hk, hq, hz⟩ := a8 hc
    exact ⟨k, hk, by rw [ws_ne (by omega)]; exact hq, hz⟩
theorem P_u6 {G : Nat → Nat} {c : Nat → Nat → Nat} {wl : va_W} {u : Nat} (v : Nat) (hu : u < 20) (h : Rc G c wl) : Rc G (up2 c 6 u v) (wl.set (7 + u) (G (20 + u), .inr (1, (uF G c u).set 6 (sbV G v)))) := by
  obtain ⟨a0, a1, a2, a3, a4, a5, a6, a7, a8⟩ := h
  refine ⟨by rw [ws_ne (by omega)]; exact a0, by rw [ws_ne (by omega)]; exact a1, by rw [ws_ne (by omega)]; exact a2, fun w hw => ?_, fun j hj => ?_, a5, a6, fun hc => ?_, fun hc => ?_⟩
  · by_cases hwu : w = u
    · subst hwu
      rw [ws_eq (a3 w hw)]
      show some _ = some (_, Sum.inr (1, uF G (up2 c 6 w v) w))
      simp [uF, up2]
    · rw [ws_ne (by omega), a3 w hw]
      simp only [uF, up2_i hwu]
  · obtain ⟨k, hk, hq⟩ := a4 j hj
    exact ⟨k, hk, by rw [ws_ne (by omega)]; exact hq⟩
  · obtain ⟨k, hk, hq⟩ := a7 hc
    exact ⟨k, hk, by rw [ws_ne (by omega)]; exact hq⟩
  · obtain ⟨k, hk, hq, hz⟩ := a8 hc
    exact ⟨k, hk, by rw [ws_ne (by omega)]; exact hq, hz⟩
theorem P_u7 {G : Nat → Nat} {c : Nat → Nat → Nat} {wl : va_W} {u : Nat} (v : Nat) (hu : u < 20) (h : Rc G c wl) : Rc G (up2 c 7 u v) (wl.set (7 + u) (G (20 + u), .inr (1, (uF G c u).set 7 (.int (nI v))))) := by
  obtain ⟨a0, a1, a2, a3, a4, a5, a6, a7, a8⟩ := h
  refine ⟨by rw [ws_ne (by omega)]; exact a0, by rw [ws_ne (by omega)]; exact a1, by rw [ws_ne (by omega)]; exact a2, fun w hw => ?_, fun j hj => ?_, a5, a6, fun hc => ?_, fun hc => ?_⟩
  · by_cases hwu : w = u
    · subst hwu
      rw [ws_eq (a3 w hw)]
      show some _ = some (_, Sum.inr (1, uF G (up2 c 7 w v) w))
      simp [uF, up2]
    · rw [ws_ne (by omega), a3 w hw]
      simp only [uF, up2_i hwu]
  · obtain ⟨k, hk, hq⟩ := a4 j hj
    exact ⟨k, hk, by rw [ws_ne (by omega)]; exact hq⟩
  · obtain ⟨k, hk, hq⟩ := a7 hc
    exact ⟨k, hk, by rw [ws_ne (by omega)]; exact hq⟩
  · obtain ⟨k, hk, hq, hz⟩ := a8 hc
    exact ⟨k, hk, by rw [ws_ne (by omega)]; exact hq, hz⟩
theorem P_u8 {G : Nat → Nat} {c : Nat → Nat → Nat} {wl : va_W} {u : Nat} (v : Nat) (hu : u < 20) (h : Rc G c wl) : Rc G (up2 c 8 u v) (wl.set (7 + u) (G (20 + u), .inr (1, (uF G c u).set 8 (.int (nI v))))) := by
  obtain ⟨a0, a1, a2, a3, a4, a5, a6, a7, a8⟩ := h
  refine ⟨by rw [ws_ne (by omega)]; exact a0, by rw [ws_ne (by omega)]; exact a1, by rw [ws_ne (by omega)]; exact a2, fun w hw => ?_, fun j hj => ?_, a5, a6, fun hc => ?_, fun hc => ?_⟩
  · by_cases hwu : w = u
    · subst hwu
      rw [ws_eq (a3 w hw)]
      show some _ = some (_, Sum.inr (1, uF G (up2 c 8 w v) w))
      simp [uF, up2]
    · rw [ws_ne (by omega), a3 w hw]
      simp only [uF, up2_i hwu]
  · obtain ⟨k, hk, hq⟩ := a4 j hj
    exact ⟨k, hk, by rw [ws_ne (by omega)]; exact hq⟩
  · obtain ⟨k, hk, hq⟩ := a7 hc
    exact ⟨k, hk, by rw [ws_ne (by omega)]; exact hq⟩
  · obtain ⟨k, hk, hq, hz⟩ := a8 hc
    exact ⟨k, hk, by rw [ws_ne (by omega)]; exact hq, hz⟩
theorem P_u9 {G : Nat → Nat} {c : Nat → Nat → Nat} {wl : va_W} {u : Nat} (v : Nat) (hu : u < 20) (h : Rc G c wl) : Rc G (up2 c 9 u v) (wl.set (7 + u) (G (20 + u), .inr (1, (uF G c u).set 9 (.int (nI v))))) := by
  obtain ⟨a0, a1, a2, a3, a4, a5, a6, a7, a8⟩ := h
  refine ⟨by rw [ws_ne (by omega)]; exact a0, by rw [ws_ne (by omega)]; exact a1, by rw [ws_ne (by omega)]; exact a2, fun w hw => ?_, fun j hj => ?_, a5, a6, fun hc => ?_, fun hc => ?_⟩
  · by_cases hwu : w = u
    · subst hwu
      rw [ws_eq (a3 w hw)]
      show some _ = some (_, Sum.inr (1, uF G (up2 c 9 w v) w))
      simp [uF, up2]
    · rw [ws_ne (by omega), a3 w hw]
      simp only [uF, up2_i hwu]
  · obtain ⟨k, hk, hq⟩ := a4 j hj
    exact ⟨k, hk, by rw [ws_ne (by omega)]; exact hq⟩
  · obtain ⟨k, hk, hq⟩ := a7 hc
    exact ⟨k, hk, by rw [ws_ne (by omega)]; exact hq⟩
  · obtain ⟨k, hk, hq, hz⟩ := a8 hc
    exact ⟨k, hk, by rw [ws_ne (by omega)]; exact hq, hz⟩
theorem P_u10 {G : Nat → Nat} {c : Nat → Nat → Nat} {wl : va_W} {u : Nat} (v : Nat) (hu : u < 20) (h : Rc G c wl) : Rc G (up2 c 10 u v) (wl.set (7 + u) (G (20 + u), .inr (1, (uF G c u).set 10 (.int (nI v))))) := by
  obtain ⟨a0, a1, a2, a3, a4, a5, a6, a7, a8⟩ := h
  refine ⟨by rw [ws_ne (by omega)]; exact a0, by rw [ws_ne (by omega)]; exact a1, by rw [ws_ne (by omega)]; exact a2, fun w hw => ?_, fun j hj => ?_, a5, a6, fun hc => ?_, fun hc => ?_⟩
  · by_cases hwu : w = u
    · subst hwu
      rw [ws_eq (a3 w hw)]
      show some _ = some (_, Sum.inr (1, uF G (up2 c 10 w v) w))
      simp [uF, up2]
    · rw [ws_ne (by omega), a3 w hw]
      simp only [uF, up2_i hwu]
  · obtain ⟨k, hk, hq⟩ := a4 j hj
    exact ⟨k, hk, by rw [ws_ne (by omega)]; exact hq⟩
  · obtain ⟨k, hk, hq⟩ := a7 hc
    exact ⟨k, hk, by rw [ws_ne (by omega)]; exact hq⟩
  · obtain ⟨k, hk, hq, hz⟩ := a8 hc
    exact ⟨k, hk, by rw [ws_ne (by omega)]; exact hq, hz⟩
theorem P_u11 {G : Nat → Nat} {c : Nat → Nat → Nat} {wl : va_W} {u : Nat} (v : Nat) (hu : u < 20) (h : Rc G c wl) : Rc G (up2 c 11 u v) (wl.set (7 + u) (G (20 + u), .inr (1, (uF G c u).set 11 (.int (nI v))))) := by
  obtain ⟨a0, a1, a2, a3, a4, a5, a6, a7, a8⟩ := h
  refine ⟨by rw [ws_ne (by omega)]; exact a0, by rw [ws_ne (by omega)]; exact a1, by rw [ws_ne (by omega)]; exact a2, fun w hw => ?_, fun j hj => ?_, a5, a6, fun hc => ?_, fun hc => ?_⟩
  · by_cases hwu : w = u
    · subst hwu
      rw [ws_eq (a3 w hw)]
      show some _ = some (_, Sum.inr (1, uF G (up2 c 11 w v) w))
      simp [uF, up2]
    · rw [ws_ne (by omega), a3 w hw]
      simp only [uF, up2_i hwu]
  · obtain ⟨k, hk, hq⟩ := a4 j hj
    exact ⟨k, hk, by rw [ws_ne (by omega)]; exact hq⟩
  · obtain ⟨k, hk, hq⟩ := a7 hc
    exact ⟨k, hk, by rw [ws_ne (by omega)]; exact hq⟩
  · obtain ⟨k, hk, hq, hz⟩ := a8 hc
    exact ⟨k, hk, by rw [ws_ne (by omega)]; exact hq, hz⟩
theorem P_u12 {G : Nat → Nat} {c : Nat → Nat → Nat} {wl : va_W} {u : Nat} (v : Nat) (hu : u < 20) (h : Rc G c wl) : Rc G (up2 c 12 u v) (wl.set (7 + u) (G (20 + u), .inr (1, (uF G c u).set 12 (.int (nI v))))) := by
  obtain ⟨a0, a1, a2, a3, a4, a5, a6, a7, a8⟩ := h
  refine ⟨by rw [ws_ne (by omega)]; exact a0, by rw [ws_ne (by omega)]; exact a1, by rw [ws_ne (by omega)]; exact a2, fun w hw => ?_, fun j hj => ?_, a5, a6, fun hc => ?_, fun hc => ?_⟩
  · by_cases hwu : w = u
    · subst hwu
      rw [ws_eq (a3 w hw)]
      show some _ = some (_, Sum.inr (1, uF G (up2 c 12 w v) w))
      simp [uF, up2]
    · rw [ws_ne (by omega), a3 w hw]
      simp only [uF, up2_i hwu]
  · obtain ⟨k, hk, hq⟩ := a4 j hj
    exact ⟨k, hk, by rw [ws_ne (by omega)]; exact hq⟩
  · obtain ⟨k, hk, hq⟩ := a7 hc
    exact ⟨k, hk, by rw [ws_ne (by omega)]; exact hq⟩
  · obtain ⟨k, hk, hq, hz⟩ := a8 hc
    exact ⟨k, hk, by rw [ws_ne (by omega)]; exact hq, hz⟩
theorem P_w {G : Nat → Nat} {c : Nat → Nat → Nat} {wl : va_W} {A : Nat → Prop} {i j : Nat} (v : Nat) (hD : va_D A wl) (hj : j < c 30 0) (hi : 27 ≤ i) (hq : wl[i]? = some (c 34 j, .inr (2, wF G c j))) (h : Rc G c wl) : Rc G (up2 c 33 j v) (wl.set i (c 34 j, .inr (2, (wF G c j).set 2 (.int (nI v))))) := by
  obtain ⟨a0, a1, a2, a3, a4, a5, a6, a7, a8⟩ := h
  refine ⟨by rw [ws_ne (by omega)]; exact a0, by rw [ws_ne (by omega)]; exact a1, by rw [ws_ne (by omega)]; exact a2, fun w hw => by rw [ws_ne (by omega)]; exact a3 w hw, fun k hk => ?_, a5, a6, fun hc => ?_, fun hc => ?_⟩
  · by_cases hkj : k = j
    · subst hkj
      refine ⟨i, hi, ?_⟩
      rw [ws_eq hq]
      simp [wF, up2]
    · obtain ⟨m, hm, e⟩ := a4 k hk
      refine ⟨m, hm, ?_⟩
      have hne : i ≠ m := fun z => by
        subst z
        have e2 := hq.symm.trans e
        have e3 : c 34 j = c 34 k := congrArg Prod.fst (Option.some.inj e2)
        exact hkj (a5 k j hk hj e3.symm)
      rw [ws_ne hne, e]
      simp only [wF, up2_i hkj] <;> rfl
  · obtain ⟨m, hm, e⟩ := a7 hc
    refine ⟨m, hm, ?_⟩
    have hne : i ≠ m := fun z => by
      subst z
      have e2 := hq.symm.trans e
      have e3 := congrArg Prod.snd (Option.some.inj e2)
      cases e3
    rw [ws_ne hne]
    exact e
  · obtain ⟨m, hm, e, hz⟩ := a8 hc
    have hne : i ≠ m := fun z => by
      subst z
      have e2 := hq.symm.trans e
      exact hz j hj (congrArg Prod.fst (Option.some.inj e2))
    exact ⟨m, hm, by rw [ws_ne hne]; exact e, hz⟩
theorem upd_e {r : Nat → Nat → Nat} {k i v : Nat} (hi : i < 2 ^ 31) : upd (fun j => nI (r k j)) (nI i).toNatClampNeg (nI v) = fun j => nI (up2 r k i v k j) := by
  funext j
  rw [nI_clamp hi]
  by_cases h : j = i
  · subst h; simp [upd, up2]
  · simp [upd, up2, h]
theorem gV_j (r : Nat → Nat → Nat) {k j : Nat} (hj : j < 8) (h2 : j ≠ 2) : gV r (8 * k + j) = nI (r (10 + j) k) := by
  unfold gV
  rw [if_neg (by omega), show (8 * k + j) % 8 = j by omega, show (8 * k + j) / 8 = k by omega]
theorem gV_0 (r : Nat → Nat → Nat) (k : Nat) : gV r (8 * k) = nI (r 10 k) := gV_j r (k := k) (j := 0) (by decide) (by decide)
theorem gV_2 (r : Nat → Nat → Nat) (k : Nat) : gV r (8 * k + 2) = siI (r 12 k) := by
  unfold gV
  rw [if_pos (by omega), show (8 * k + 2) / 8 = k by omega]
theorem upd_g {r : Nat → Nat → Nat} {k j v : Nat} (hj : j < 8) (h2 : j ≠ 2) (hi : 8 * k + j < 2 ^ 31) : upd (gV r) (nI (8 * k + j)).toNatClampNeg (nI v) = gV (up2 r (10 + j) k v) := by
  funext i
  rw [nI_clamp hi]
  by_cases h : i = 8 * k + j
  · subst h
    rw [gV_j _ hj h2, up2_s]
    simp [upd]
  · have e : upd (gV r) (8 * k + j) (nI v) i = gV r i := by simp [upd, h]
    rw [e]
    unfold gV
    by_cases h3 : i % 8 = 2
    · rw [if_pos h3, if_pos h3, up2_c (by omega)]
    · rw [if_neg h3, if_neg h3]
      by_cases h4 : i % 8 = j
      · rw [up2_i (by omega)]
      · rw [up2_c (by omega)]
theorem gV_c {r : Nat → Nat → Nat} {a i v : Nat} (h : a < 10) : gV (up2 r a i v) = gV r := by
  funext j
  unfold gV
  rw [up2_c (by omega), up2_c (by omega)]
theorem upd_g2 {r : Nat → Nat → Nat} {k v : Nat} (hi : 8 * k + 2 < 2 ^ 31) : upd (gV r) (nI (8 * k + 2)).toNatClampNeg (siI v) = gV (up2 r 12 k v) := by
  funext i
  rw [nI_clamp hi]
  by_cases h : i = 8 * k + 2
  · subst h
    rw [gV_2, up2_s]
    simp [upd]
  · have e : upd (gV r) (8 * k + 2) (siI v) i = gV r i := by simp [upd, h]
    rw [e]
    unfold gV
    by_cases h3 : i % 8 = 2
    · rw [if_pos h3, if_pos h3, up2_i (by omega)]
    · rw [if_neg h3, if_neg h3, up2_c (by omega)]
theorem nb_le {v : Nat} (h : v ≤ 1) : narrow .boolean (.int (nI v)) = .int (nI v) := by
  rcases (show v = 0 ∨ v = 1 by omega) with h | h <;> subst h <;> decide
theorem nb_ft {v : Nat} (h : v ≤ 1) : fits .boolean (.int (nI v)) = true := by
  rcases (show v = 0 ∨ v = 1 by omega) with h | h <;> subst h <;> decide
theorem nb_nar {v : Nat} (h : v ≤ 1) : vp_nar .boolean (nI v) = nI v := by
  rcases (show v = 0 ∨ v = 1 by omega) with h | h <;> subst h <;> decide

theorem Q_g {G : Nat → Nat} {r : Nat → Nat → Nat} {wl : va_W} (h : Rr G r wl) : wl[3]? = some (G 3, .inl (G 62, 64, .inl (gV r))) := h.1
theorem Q_a2 {G : Nat → Nat} {r : Nat → Nat → Nat} {wl : va_W} (h : Rr G r wl) : wl[4]? = some (G 4, .inl (G 62, 64, .inl (fun i => nI (r 2 i)))) := h.2.1
theorem Q_a3 {G : Nat → Nat} {r : Nat → Nat → Nat} {wl : va_W} (h : Rr G r wl) : wl[5]? = some (G 5, .inl (G 62, 24, .inl (fun i => nI (r 3 i)))) := h.2.2.1
theorem Q_a4 {G : Nat → Nat} {r : Nat → Nat → Nat} {wl : va_W} (h : Rr G r wl) : wl[6]? = some (G 6, .inl (G 62, 3, .inl (fun i => nI (r 4 i)))) := h.2.2.2
theorem P_g {G : Nat → Nat} {r : Nat → Nat → Nat} {wl : va_W} {k j : Nat} (v : Nat) (hj : j < 8) (h2 : j ≠ 2) (hi : 8 * k + j < 2 ^ 31) (h : Rr G r wl) : Rr G (up2 r (10 + j) k v) (wl.set 3 (G 3, .inl (G 62, 64, .inl (upd (gV r) (nI (8 * k + j)).toNatClampNeg (nI v))))) := by
  obtain ⟨b3, b4, b5, b6⟩ := h
  have e2 : ∀ i, up2 r (10 + j) k v 2 i = r 2 i := fun i => up2_c (by omega)
  have e3 : ∀ i, up2 r (10 + j) k v 3 i = r 3 i := fun i => up2_c (by omega)
  have e4 : ∀ i, up2 r (10 + j) k v 4 i = r 4 i := fun i => up2_c (by omega)
  refine ⟨by rw [ws_eq b3, upd_g hj h2 hi], ?_, ?_, ?_⟩
  · rw [ws_ne (by decide), b4]; simp only [e2]
  · rw [ws_ne (by decide), b5]; simp only [e3]
  · rw [ws_ne (by decide), b6]; simp only [e4]
theorem P_g0 {G : Nat → Nat} {r : Nat → Nat → Nat} {wl : va_W} {k : Nat} (v : Nat) (hi : 8 * k < 2 ^ 31) (h : Rr G r wl) : Rr G (up2 r 10 k v) (wl.set 3 (G 3, .inl (G 62, 64, .inl (upd (gV r) (nI (8 * k)).toNatClampNeg (nI v))))) := P_g (j := 0) v (by decide) (by decide) hi h
theorem P_g2 {G : Nat → Nat} {r : Nat → Nat → Nat} {wl : va_W} {k : Nat} (v : Nat) (hi : 8 * k + 2 < 2 ^ 31) (h : Rr G r wl) : Rr G (up2 r 12 k v) (wl.set 3 (G 3, .inl (G 62, 64, .inl (upd (gV r) (nI (8 * k + 2)).toNatClampNeg (siI v))))) := by
  obtain ⟨b3, b4, b5, b6⟩ := h
  exact ⟨by rw [ws_eq b3, upd_g2 hi], by rw [ws_ne (by omega)]; exact b4, by rw [ws_ne (by omega)]; exact b5, by rw [ws_ne (by omega)]; exact b6⟩
theorem P_a2 {G : Nat → Nat} {r : Nat → Nat → Nat} {wl : va_W} {i : Nat} (v : Nat) (hi : i < 2 ^ 31) (h : Rr G r wl) : Rr G (up2 r 2 i v) (wl.set 4 (G 4, .inl (G 62, 64, .inl (upd (fun j => nI (r 2 j)) (nI i).toNatClampNeg (nI v))))) := by
  obtain ⟨b3, b4, b5, b6⟩ := h
  exact ⟨by rw [ws_ne (by decide), gV_c (by decide)]; exact b3, by rw [ws_eq b4, upd_e hi], by rw [ws_ne (by decide)]; exact b5, by rw [ws_ne (by decide)]; exact b6⟩
theorem P_a3 {G : Nat → Nat} {r : Nat → Nat → Nat} {wl : va_W} {i : Nat} (v : Nat) (hi : i < 2 ^ 31) (h : Rr G r wl) : Rr G (up2 r 3 i v) (wl.set 5 (G 5, .inl (G 62, 24, .inl (upd (fun j => nI (r 3 j)) (nI i).toNatClampNeg (nI v))))) := by
  obtain ⟨b3, b4, b5, b6⟩ := h
  exact ⟨by rw [ws_ne (by decide), gV_c (by decide)]; exact b3, by rw [ws_ne (by decide)]; exact b4, by rw [ws_eq b5, upd_e hi], by rw [ws_ne (by decide)]; exact b6⟩
theorem P_a4 {G : Nat → Nat} {r : Nat → Nat → Nat} {wl : va_W} {i : Nat} (v : Nat) (hi : i < 2 ^ 31) (h : Rr G r wl) : Rr G (up2 r 4 i v) (wl.set 6 (G 6, .inl (G 62, 3, .inl (upd (fun j => nI (r 4 j)) (nI i).toNatClampNeg (nI v))))) := by
  obtain ⟨b3, b4, b5, b6⟩ := h
  exact ⟨by rw [ws_ne (by decide), gV_c (by decide)]; exact b3, by rw [ws_ne (by decide)]; exact b4, by rw [ws_ne (by decide)]; exact b5, by rw [ws_eq b6, upd_e hi]⟩
theorem Q_o {G : Nat → Nat} {c : Nat → Nat → Nat} {wl : va_W} (h : Rc G c wl) : wl[0]? = some (G 0, .inr (3, oF G c)) := h.1
theorem Q_r {G : Nat → Nat} {c : Nat → Nat → Nat} {wl : va_W} (h : Rc G c wl) : wl[1]? = some (G 1, .inl (G 60, 20, .inr (.inr (.inr (.inr (fun i => some (G (20 + i)))))))) := h.2.1
theorem Q_l {G : Nat → Nat} {c : Nat → Nat → Nat} {wl : va_W} (h : Rc G c wl) : wl[2]? = some (G 2, .inr (0, lF c)) := h.2.2.1
theorem Q_u {G : Nat → Nat} {c : Nat → Nat → Nat} {wl : va_W} (h : Rc G c wl) {u : Nat} (hu : u < 20) : wl[7 + u]? = some (G (20 + u), .inr (1, uF G c u)) := h.2.2.2.1 u hu
theorem Q_w {G : Nat → Nat} {c : Nat → Nat → Nat} {wl : va_W} (h : Rc G c wl) {j : Nat} (hj : j < c 30 0) : ∃ i, 27 ≤ i ∧ wl[i]? = some (c 34 j, .inr (2, wF G c j)) := h.2.2.2.2.1 j hj
theorem G_u {G : Nat → Nat} {c : Nat → Nat → Nat} {wl : va_W} {A : Nat → Prop} (h : Rc G c wl) (hD : va_D A wl) {u v : Nat} (hu : u < 20) (hv : v < 20) (e : G (20 + u) = G (20 + v)) : u = v := by
  have := hD.1 _ _ _ _ (Q_u h hu) (Q_u h hv) e
  omega
abbrev tyL (G : Nat → Nat) : List (ClassId × FieldType) := [(G 60, .object "BootStage$Unit"), (G 61, .object "java/lang/Object"), (G 62, .int)]
abbrev exO : String := "java/lang/IndexOutOfBoundsException"
abbrev exA : String := "java/lang/IllegalArgumentException"
abbrev exS : String := "java/lang/IllegalStateException"
/-- what of the start lies outside the system's own cells: for throws, and for lists -/
def Ex (G : Nat → Nat) (h0 : Nat) (U : State) : Prop :=
  vx_Zq Bundle.tN "UNASSIGNED_STACK" Bundle.steD (fun q => h0 ≤ q) U U.heap ∧ vx_Zq Bundle.tN "SUPPRESSED_SENTINEL" Bundle.listD (fun q => h0 ≤ q) U U.heap ∧
  (vk_R RX2 48 "there are 20 units" (G 71) U ∧ vk_R RX2 73 "needs would make a loop" (G 72) U ∧ vk_R RX2 131 "no start goes on" (G 73) U ∧ vk_R RX2 152 "there is no such unit" (G 74) U ∧ vk_R RX2 157 "an argument is out of range" (G 75) U ∧ vk_R RX2 160 "both units are the same" (G 76) U ∧ vk_R RX2 162 "a start goes on" (G 77) U) ∧
  (va_Nw (.declares (Bundle.initS "java/lang/RuntimeException")) U ∧ va_Nw (.declares (Bundle.initS "java/lang/Exception")) U ∧ va_Nw (.declares (Bundle.initS Bundle.tN)) U ∧ va_Nw (.castable exO exO) U ∧ va_Nw (.castable exA exA) U ∧ va_Nw (.castable exS exS) U) ∧
  (va_Nc exO exA U ∧ va_Nc exO exS U ∧ va_Nc exA exO U ∧ va_Nc exA exS U ∧ va_Nc exS exO U ∧ va_Nc exS exA U)
def El (G : Nat → Nat) (h0 : Nat) (U : State) : Prop :=
  va_Z "java/util/ArrayList" "DEFAULTCAPACITY_EMPTY_ELEMENTDATA" "[Ljava/lang/Object;" (.ref (G 70)) (fun q => h0 ≤ q) U U.heap ∧ va_T (.object "java/lang/Object") (G 70) 0 (fun _ => .null) (fun q => h0 ≤ q) U U.heap ∧
  va_AO "java/lang/Object" U ∧ va_AO "BootStage$Unit" U ∧ va_Mi "[Ljava/lang/Object;" (G 80) U ∧ va_Dc U ∧ va_Nw (.castable RX1 "java/lang/Object") U ∧ va_Nw (.castable RX1 RX1) U ∧ va_Nw (.castable "[Ljava/lang/Object;" "[Ljava/lang/Object;") U
def Ev (D : va_G) (G : Nat → Nat) (h0 : Nat) (U : State) : Prop := h0 ≤ U.heap.size ∧ va_K D vwCl (tyL G) U ∧ Ex G h0 U ∧ El G h0 U
/-- the system's own cells -/
def Wr (D : va_G) (G : Nat → Nat) (h0 : Nat) (c r : Nat → Nat → Nat) (o : Nat) (U : State) : Prop := ∃ wl : va_W, Rc G c wl ∧ Rr G r wl ∧ Ro G o wl ∧ va_P D vwCl wl U.heap ∧ va_D (fun q => h0 ≤ q) wl
def Pr (D : va_G) (G : Nat → Nat) (h0 : Nat) (c r : Nat → Nat → Nat) (o : Nat) (U : State) : Prop := Ev D G h0 U ∧ Wr D G h0 c r o U
theorem Ex_mv {G : Nat → Nat} {h0 : Nat} {s U : State} {locs : List Loc} (h : Ex G h0 s) (hW : s.WarmedH U.vm) (hS : va_S (fun q => h0 ≤ q) s.heap U.heap locs) : Ex G h0 U := by
  obtain ⟨z1, z2, ⟨k1, k2, k3, k4, k5, k6, k7⟩, ⟨d1, d2, d3, d4, d5, d6⟩, ⟨n1, n2, n3, n4, n5, n6⟩⟩ := h
  exact ⟨vx_Zq.moved hW.alike (z1.kept hS.2.1), vx_Zq.moved hW.alike (z2.kept hS.2.1), ⟨k1.warm hW, k2.warm hW, k3.warm hW, k4.warm hW, k5.warm hW, k6.warm hW, k7.warm hW⟩, ⟨d1.warmD hW, d2.warmD hW, d3.warmD hW, d4.warmC hW, d5.warmC hW, d6.warmC hW⟩, ⟨n1.moved hW.alike, n2.moved hW.alike, n3.moved hW.alike, n4.moved hW.alike, n5.moved hW.alike, n6.moved hW.alike⟩⟩
theorem El_mv {G : Nat → Nat} {h0 : Nat} {s U : State} {locs : List Loc} (h : El G h0 s) (hW : s.WarmedH U.vm) (hS : va_S (fun q => h0 ≤ q) s.heap U.heap locs) : El G h0 U := by
  obtain ⟨z1, z2, a1, a2, m1, d1, c1, c2, c3⟩ := h
  exact ⟨va_Z.moved hW.alike (z1.kept hS.2.1), va_T.moved hW.alike (z2.kept hS.2.1), a1.moved hW.alike, a2.moved hW.alike, m1.moved hW.alike, d1.moved hW.alike, c1.warmC hW, c2.warmC hW, c3.warmC hW⟩
theorem Ev_mv {D : va_G} {G : Nat → Nat} {h0 : Nat} {s U : State} {locs : List Loc} (h : Ev D G h0 s) (hW : s.WarmedH U.vm) (hS : va_S (fun q => h0 ≤ q) s.heap U.heap locs) : Ev D G h0 U :=
  ⟨Nat.le_trans h.1 hS.1, h.2.1.moved hW.alike, Ex_mv h.2.2.1 hW hS, El_mv h.2.2.2 hW hS⟩
theorem Ev_cg {D : va_G} {G : Nat → Nat} {h0 : Nat} {a : Array Value} {U : State} {g : JFrame} {mk : MethodId} (h : Ev D G h0 U) : Ev D G h0 (U.calling g mk a) := Ev_mv (locs := []) h (State.WarmedH.refl U) va_S.rf
theorem Pr_cg {D : va_G} {G : Nat → Nat} {h0 : Nat} {c r : Nat → Nat → Nat} {o : Nat} {a : Array Value} {U : State} {g : JFrame} {mk : MethodId} (h : Pr D G h0 c r o U) : Pr D G h0 c r o (U.calling g mk a) := ⟨Ev_cg h.1, h.2⟩
/-- the world in another state with this heap -/
theorem Pr_mk {D : va_G} {G : Nat → Nat} {h0 : Nat} {c r : Nat → Nat → Nat} {o : Nat} {s U : State} {H : Heap} {locs : List Loc} {wl : va_W} (hE : Ev D G h0 s) (hRc : Rc G c wl) (hRr : Rr G r wl) (hRo : Ro G o wl) (hP : va_P D vwCl wl H) (hD : va_D (fun q => h0 ≤ q) wl) (hS : va_S (fun q => h0 ≤ q) s.heap H locs) (hU : U.heap = H) (hW : s.WarmedH U.vm) : Pr D G h0 c r o U := by
  subst hU
  exact ⟨Ev_mv hE hW hS, wl, hRc, hRr, hRo, hP, hD⟩
theorem Wr_mk {D : va_G} {G : Nat → Nat} {h0 : Nat} {c r : Nat → Nat → Nat} {o : Nat} {U : State} {H : Heap} {wl : va_W} (hRc : Rc G c wl) (hRr : Rr G r wl) (hRo : Ro G o wl) (hP : va_P D vwCl wl H) (hD : va_D (fun q => h0 ≤ q) wl) (hU : U.heap = H) : Wr D G h0 c r o U := by
  subst hU
  exact ⟨wl, hRc, hRr, hRo, hP, hD⟩
noncomputable def bN (P : Prop) : Nat := @ite Nat P (Classical.propDecidable P) 1 0
theorem bN_t {P : Prop} (h : P) : bN P = 1 := by unfold bN; exact if_pos h
theorem bN_f {P : Prop} (h : ¬ P) : bN P = 0 := by unfold bN; exact if_neg h
theorem bN_le (P : Prop) : bN P ≤ 1 := by
  rcases Classical.em P with h | h
  · rw [bN_t h]; exact Nat.le_refl 1
  · rw [bN_f h]; exact Nat.zero_le 1
theorem bN_c {P Q : Prop} (h : P ↔ Q) : bN P = bN Q := by
  rcases Classical.em P with k | k
  · rw [bN_t k, bN_t (h.mp k)]
  · rw [bN_f k, bN_f (fun z => k (h.mpr z))]
theorem bN_0 {P : Prop} : bN P = 0 ↔ ¬ P := by
  rcases Classical.em P with h | h
  · rw [bN_t h]; simp [h]
  · rw [bN_f h]; simp [h]
theorem bN_1 {P : Prop} : bN P = 1 ↔ P := by
  rcases Classical.em P with h | h
  · rw [bN_t h]; simp [h]
  · rw [bN_f h]; simp [h]

