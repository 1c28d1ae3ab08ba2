/-! THE LAW: rows -/
section LW
variable {p : Program} {l : Launch} {e : Env} {R : Room} {s : State} {m : MethodId} {args : Array Value} {below : List Frame} {meth : Method} {cd : Code} {H : Heap} {locs : List Loc} {cells slots : Nat} {Q : State → Prop}
variable {cc : ByteArray} {pc : Nat} {ls : Array Slot} {rest : List Value}
theorem x_lcmp (hexec : p.tables.exec = Jvm.exec) (hb : cd.code = cc) {a b : Int64} (hab : a = b) (hdg : decode cc pc = .ok (.lcmp, 1)) (k : W p l e R s m args below meth cd H locs cells slots Q (F0 m (pc + 1) ls (.int 0 :: rest))) : W p l e R s m args below meth cd H locs cells slots Q (F0 m pc ls (.long b :: .long a :: rest)) := by
  subst hab
  intro T hT X
  obtain ⟨t, x, y⟩ := k T hT X
  refine ⟨t, ?_, y⟩
  jvm_step X.here [X.here.top, hexec, hb, hdg]
  simpa using x
end LW
theorem and31 (y : Int32) : ∃ t, t < 32 ∧ y &&& nI 31 = nI t := pk_andE y 5 (by decide)
theorem len4 {L i : Nat} (hL : L ≤ 2048) (hi : i ≤ 512) : (nI L - nI 4 < nI (4 * i)) ↔ L < 4 * i + 4 := by
  rcases Nat.lt_or_ge L 4 with h | h
  · refine ⟨fun _ => by omega, fun _ => ?_⟩
    have h2 : (nI L - nI 4).toInt < 0 := by
      have : L = 0 ∨ L = 1 ∨ L = 2 ∨ L = 3 := by omega
      rcases this with rfl | rfl | rfl | rfl <;> decide
    rw [Int32.lt_iff_toInt_lt, nI_toInt (show 4 * i < 2 ^ 31 by omega)]
    omega
  · rw [pk_sub h, nI_ltI (by omega) (by omega)]
    omega
