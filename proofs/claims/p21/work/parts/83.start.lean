theorem K_ty {D : va_G} {G : Nat → Nat} {s : State} {cA : ClassId} (h : va_K D vwCl (tyL G ++ [(cA, .int)]) s) : cA = G 62 := by
  have e1 := (h.2 2 (G 62, .int) rfl).2
  have e2 := (h.2 3 (cA, .int) rfl).2
  exact Option.some.inj (Eq.trans (Eq.symm e2) e1)
theorem w_callS {S : Type} {post : S → Prop} {wf : S → va_W} {p : Program} {l : Launch} {e : Env} {R : Room} {s : State} {m : MethodId} {args : Array Value} {below : List Frame} {meth : Method} {c : Code} {H : Heap} {locs : List Loc} {cells slots mc ms : Nat} {Q : State → Prop} {pc : Nat} {ls : Array Slot} {rest st0 : List Value} {D : va_G} {h0 : Nat} {H0 : Heap} {av : Array Value} (hr : va_Run p l e R s m args below meth c H locs cells slots mc ms (F0 m pc ls st0) rest (va_Qv post (fun f t => Ww D h0 (wf f) t) (fun q => h0 ≤ q) av) (fun q => h0 ≤ q)) (hS : va_S (fun q => h0 ≤ q) H0 H locs)
    (kk : ∀ (f : S) (H1 : Heap) (locs1 : List Loc), post f → va_P D vwCl (wf f) H1 → va_D (fun q => h0 ≤ q) (wf f) → va_S (fun q => h0 ≤ q) H0 H1 locs1 → W p l e R s m args below meth c H1 locs1 (cells + mc) (slots + ms) Q (F0 m (pc + 3) ls rest)) : W p l e R s m args below meth c H locs cells slots Q (F0 m pc ls st0) :=
  va_callv hr hS (fun _ _ h => h) (fun _ h => h) (fun f t H1 locs1 ht _ hp hB _ _ hS1 => by
    obtain ⟨b1, b2⟩ := hB
    rw [ht] at b1
    exact kk f H1 locs1 hp b1 b2 hS1)
def c00 (a70 : Nat) : Nat → Nat → Nat := fun a i => if a = 3 then 10 else if a = 1 then 1 else if a = 35 then a70 else 0
def r00 : Nat → Nat → Nat := fun a _ => if a = 5 then 1 else 0
theorem c00_0 (z a i : Nat) (h : a ≠ 3 ∧ a ≠ 1 ∧ a ≠ 35) : c00 z a i = 0 := by
  unfold c00
  rw [if_neg h.1, if_neg h.2.1, if_neg h.2.2]
theorem r00_0 (a i : Nat) (h : a ≠ 5) : r00 a i = 0 := by unfold r00; rw [if_neg h]
theorem IC_00 (z : Nat) : IC (c00 z) := by
  have k := c00_0 z
  refine ⟨fun a i ha => ?_, by rw [k 20 1 (by decide)]; decide, fun u => by rw [k 6 u (by decide)]; exact Nat.zero_le _, fun u => by rw [k 7 u (by decide), k 20 1 (by decide)]; decide, fun u => by rw [k 8 u (by decide), k 20 1 (by decide)]; decide, fun u => ?_, ?_, fun j hj => ?_, ?_⟩
  · unfold c00
    repeat' split
    all_goals omega
  · unfold UB
    rw [k 2 u (by decide), k 4 u (by decide), k 5 u (by decide), k 9 u (by decide), k 10 u (by decide), k 11 u (by decide), k 12 u (by decide), show c00 z 1 u = 1 from rfl, show c00 z 3 u = 10 from rfl]
    decide
  · rw [k 20 3 (by decide), k 20 4 (by decide), k 20 5 (by decide), k 20 6 (by decide)]
    decide
  · rw [k 30 0 (by decide)] at hj
    exact absurd hj (Nat.not_lt_zero j)
  · rw [k 30 0 (by decide), k 36 0 (by decide)]
    decide
theorem IR_00 : IR r00 := by
  refine ⟨fun a i _ => ?_, fun u => ?_, fun e => ?_, ?_, fun u => ?_⟩
  · unfold r00; split <;> omega
  · unfold RU
    rw [r00_0 1 u (by decide), r00_0 2 u (by decide), r00_0 3 u (by decide), r00_0 4 u (by decide), r00_0 6 u (by decide), r00_0 17 u (by decide), r00_0 18 u (by decide), r00_0 19 u (by decide), r00_0 20 u (by decide), r00_0 21 u (by decide)]
    decide
  · unfold RE
    rw [r00_0 7 e (by decide), r00_0 8 e (by decide), r00_0 11 e (by decide)]
    decide
  · unfold RO
    rw [r00_0 30 0 (by decide), r00_0 30 10 (by decide), r00_0 30 12 (by decide), r00_0 30 13 (by decide), r00_0 30 14 (by decide), r00_0 30 15 (by decide), r00_0 30 16 (by decide), r00_0 30 22 (by decide)]
    decide
  · unfold r00; split <;> omega
theorem Inv_00 (z : Nat) : Inv (c00 z) r00 0 := by
  have k := c00_0 z
  refine ⟨IC_00 z, IR_00, ⟨fun u _ => ?_, fun u => ?_, fun u hu => ?_, fun u v _ _ => ?_, ⟨fun j hj => ?_, fun u v _ _ h => ?_, ?_⟩, ?_, ?_⟩, ?_⟩
  · rw [k 4 u (by decide), k 5 u (by decide), k 6 u (by decide), k 7 u (by decide), k 8 u (by decide), k 9 u (by decide)]
    exact ⟨rfl, rfl, rfl, rfl, rfl, rfl, rfl⟩
  · rw [k 4 u (by decide), k 5 u (by decide), k 9 u (by decide), k 10 u (by decide), k 11 u (by decide), k 12 u (by decide), r00_0 4 u (by decide), r00_0 6 u (by decide), r00_0 17 u (by decide), r00_0 18 u (by decide), r00_0 19 u (by decide), r00_0 20 u (by decide)]
    exact ⟨rfl, rfl, rfl, fun _ => rfl, rfl, rfl⟩
  · rw [k 20 1 (by decide)] at hu
    exact absurd hu (Nat.not_lt_zero u)
  · rw [k 7 u (by decide), k 8 u (by decide), r00_0 7 _ (by decide), r00_0 8 _ (by decide), r00_0 11 _ (by decide), Nat.zero_testBit]
    refine ⟨⟨fun h => absurd h (by decide), fun h => absurd h (Nat.lt_irrefl 0)⟩, ⟨fun h => absurd h (by decide), fun h => absurd h.1 (Nat.lt_irrefl 0)⟩, fun h => absurd rfl h⟩
  · rw [k 30 0 (by decide)] at hj
    exact absurd hj (Nat.not_lt_zero j)
  · rw [r00_0 8 _ (by decide)] at h
    exact absurd h (Nat.lt_irrefl 0)
  · rw [k 30 0 (by decide), r00_0 30 10 (by decide)]
  · unfold Obj
    rw [k 20 1 (by decide), k 20 3 (by decide), k 20 4 (by decide), k 20 5 (by decide), k 20 6 (by decide), r00_0 30 0 (by decide), r00_0 30 12 (by decide), r00_0 30 13 (by decide), r00_0 30 14 (by decide), r00_0 30 15 (by decide), r00_0 30 16 (by decide)]
    exact ⟨rfl, rfl, rfl, rfl, rfl, fun _ => ⟨rfl, rfl⟩⟩
  · refine ⟨by rw [k 20 6 (by decide)]; decide, fun h => absurd (k 20 3 (by decide)) h⟩
  · rw [k 30 0 (by decide)]; exact Nat.le_refl 0
theorem LI_00 (z : Nat) : LI (c00 z) b00 r00 0 := by
  have k := c00_0 z
  refine ⟨Inv_00 z, by rw [k 20 1 (by decide)]; decide, fun a i _ => ?_, fun u v _ _ => ?_, ⟨fun u _ => ?_, fun u hu => ?_⟩, ⟨?_, ?_, ?_⟩, fun h => absurd (k 20 3 (by decide)) h⟩
  · unfold b00; split <;> decide
  · rw [b00_0 2 _ (by decide), r00_0 8 _ (by decide)]; rfl
  · rw [b00_0 13 u (by decide), b00_0 14 u (by decide), b00_0 16 u (by decide), b00_0 17 u (by decide), k 5 u (by decide), k 7 u (by decide), k 11 u (by decide), k 12 u (by decide)]
    exact ⟨rfl, rfl, rfl, rfl⟩
  · rw [k 20 1 (by decide)] at hu
    exact absurd hu (Nat.not_lt_zero u)
  · rw [b00_0 4 0 (by decide), k 20 4 (by decide)]
  · rw [b00_0 4 1 (by decide), k 20 5 (by decide)]
  · rw [b00_0 4 2 (by decide), k 30 0 (by decide)]
theorem gV_b00 : gV b00 = fun _ => 0 := by
  funext i
  unfold gV
  split
  · show siI 1 = 0
    decide
  · rename_i h
    rw [b00_0 (10 + i % 8) _ (by omega)]
    decide
def GG (G : Nat → Nat) (q qr ql : Nat) (g f : Nat → Nat) : Nat → Nat := fun k => if k < 40 then (([q, qr, ql, g 0, g 1, g 2, g 3, 0, 0, 0, 0, 0, 0, 0, 0, 0, 0, 0, 0, 0, f 0, f 1, f 2, f 3, f 4, f 5, f 6, f 7, f 8, f 9, f 10, f 11, f 12, f 13, f 14, f 15, f 16, f 17, f 18, f 19] : List Nat)[k]?).getD 0 else G k
theorem GG_hi {G g f : Nat → Nat} {q qr ql k : Nat} (h : 40 ≤ k) : GG G q qr ql g f k = G k := by unfold GG; rw [if_neg (by omega)]
set_option maxHeartbeats 8000000 in
set_option maxRecDepth 100000 in
theorem Ev_GG {D : va_G} {G g f : Nat → Nat} {q qr ql h0 : Nat} {s : State} (h : Ev D G h0 s) : Ev D (GG G q qr ql g f) h0 s := by
  unfold Ev Ex El tyL at h ⊢
  simp only [GG_hi (show 40 ≤ 60 by decide), GG_hi (show 40 ≤ 61 by decide), GG_hi (show 40 ≤ 62 by decide), GG_hi (show 40 ≤ 70 by decide), GG_hi (show 40 ≤ 71 by decide), GG_hi (show 40 ≤ 72 by decide), GG_hi (show 40 ≤ 73 by decide), GG_hi (show 40 ≤ 74 by decide), GG_hi (show 40 ≤ 75 by decide), GG_hi (show 40 ≤ 76 by decide), GG_hi (show 40 ≤ 77 by decide), GG_hi (show 40 ≤ 80 by decide)]
  exact h
abbrev oriW (G : Nat → Nat) (q qr ql : Nat) (g f : Nat → Nat) : va_W := [(q, .inr (3, [.ref qr, .int (nI 0), .ref ql, .int (nI 0), .int (nI 0), .int (nI 0), .int (nI 0)])), (qr, .inl (G 60, 20, .inr (.inr (.inr (.inr (fun j => if j < 20 then some (f j) else none)))))), (ql, .inr (0, [.int (nI 0), .ref (G 70), .int 0])), (g 0, .inl (G 62, 64, .inl (fun _ => 0))), (g 1, .inl (G 62, 64, .inl (fun _ => 0))), (g 2, .inl (G 62, 24, .inl (fun _ => 0))), (g 3, .inl (G 62, 3, .inl (fun _ => 0))), (f 0, .inr (1, uI 0)), (f 1, .inr (1, uI 1)), (f 2, .inr (1, uI 2)), (f 3, .inr (1, uI 3)), (f 4, .inr (1, uI 4)), (f 5, .inr (1, uI 5)), (f 6, .inr (1, uI 6)), (f 7, .inr (1, uI 7)), (f 8, .inr (1, uI 8)), (f 9, .inr (1, uI 9)), (f 10, .inr (1, uI 10)), (f 11, .inr (1, uI 11)), (f 12, .inr (1, uI 12)), (f 13, .inr (1, uI 13)), (f 14, .inr (1, uI 14)), (f 15, .inr (1, uI 15)), (f 16, .inr (1, uI 16)), (f 17, .inr (1, uI 17)), (f 18, .inr (1, uI 18)), (f 19, .inr (1, uI 19))]
abbrev tgtW (G : Nat → Nat) (q qr ql : Nat) (g f : Nat → Nat) : va_W := [(q, .inr (3, [.ref qr, .int (nI 0), .ref ql, .int (nI 0), .int (nI 0), .int (nI 0), .int (nI 0)])), (qr, .inl (G 60, 20, .inr (.inr (.inr (.inr (fun i => some (GG G q qr ql g f (20 + i)))))))), (ql, .inr (0, [.int (nI 0), .ref (G 70), .int 0])), (g 0, .inl (G 62, 64, .inl (fun _ => 0))), (g 1, .inl (G 62, 64, .inl (fun _ => 0))), (g 2, .inl (G 62, 24, .inl (fun _ => 0))), (g 3, .inl (G 62, 3, .inl (fun _ => 0))), (f 0, .inr (1, uI 0)), (f 1, .inr (1, uI 1)), (f 2, .inr (1, uI 2)), (f 3, .inr (1, uI 3)), (f 4, .inr (1, uI 4)), (f 5, .inr (1, uI 5)), (f 6, .inr (1, uI 6)), (f 7, .inr (1, uI 7)), (f 8, .inr (1, uI 8)), (f 9, .inr (1, uI 9)), (f 10, .inr (1, uI 10)), (f 11, .inr (1, uI 11)), (f 12, .inr (1, uI 12)), (f 13, .inr (1, uI 13)), (f 14, .inr (1, uI 14)), (f 15, .inr (1, uI 15)), (f 16, .inr (1, uI 16)), (f 17, .inr (1, uI 17)), (f 18, .inr (1, uI 18)), (f 19, .inr (1, uI 19))]
set_option maxHeartbeats 8000000 in
set_option maxRecDepth 100000 in
theorem tgt_R {G g f : Nat → Nat} {q qr ql : Nat} : Rc (GG G q qr ql g f) (c00 (G 70)) (tgtW G q qr ql g f) ∧ Rr (GG G q qr ql g f) b00 (tgtW G q qr ql g f) := by
  have en : ∀ k, k ≠ 12 → (fun i : Nat => nI (b00 k i)) = (fun _ => (0 : Int32)) := fun k hk => funext fun i => by rw [b00_0 k i hk]; decide
  refine ⟨⟨rfl, rfl, rfl, fun u hu => ?_, fun j hj => absurd hj (Nat.not_lt_zero j), fun i j hi => absurd hi (Nat.not_lt_zero i), fun _ => ⟨rfl, rfl⟩, fun h => absurd h (Nat.lt_irrefl 0), fun h => absurd h (show ¬ (0 : Nat) = 1 by decide)⟩, ?_⟩
  · rcases (show u = 0 ∨ u = 1 ∨ u = 2 ∨ u = 3 ∨ u = 4 ∨ u = 5 ∨ u = 6 ∨ u = 7 ∨ u = 8 ∨ u = 9 ∨ u = 10 ∨ u = 11 ∨ u = 12 ∨ u = 13 ∨ u = 14 ∨ u = 15 ∨ u = 16 ∨ u = 17 ∨ u = 18 ∨ u = 19 by omega) with rfl | rfl | rfl | rfl | rfl | rfl | rfl | rfl | rfl | rfl | rfl | rfl | rfl | rfl | rfl | rfl | rfl | rfl | rfl | rfl <;> rfl
  · unfold Rr
    rw [gV_b00, en 2 (by decide), en 3 (by decide), en 4 (by decide)]
    exact ⟨rfl, rfl, rfl, rfl⟩
theorem va_P_cell {D : va_G} {cl : List vw_C} {w : va_W} {H : Heap} {k a : Nat} {cA : ClassId} {x x' : vp_A} (h : va_P D cl w H) (hq : w[k]? = some (a, .inl (cA, x))) (he : vp_cell cA x = vp_cell cA x') : va_P D cl (w.set k (a, .inl (cA, x'))) H := by
  intro j e hj
  by_cases hjk : j = k
  · subst hjk
    rw [ws_eq hq] at hj
    cases hj
    have h9 := h j _ hq
    show H[a]? = some (vp_cell cA x')
    rw [← he]
    exact h9
  · exact h j e (by rw [ws_ne (fun z => hjk z.symm)] at hj; exact hj)
theorem refs_cg {cA : ClassId} {n : Nat} {f f' : Nat → Option Nat} (h : ∀ j, j < n → f j = f' j) : vp_cell cA (n, .inr (.inr (.inr (.inr f)))) = vp_cell cA (n, .inr (.inr (.inr (.inr f')))) := by
  rw [vp_cell_q, vp_cell_q]
  unfold arrV
  congr 2
  funext j
  exact congrArg va_rf (h j.val j.isLt)
theorem GG_f {G g f : Nat → Nat} {q qr ql u : Nat} (hu : u < 20) : GG G q qr ql g f (20 + u) = f u := by
  rcases (show u = 0 ∨ u = 1 ∨ u = 2 ∨ u = 3 ∨ u = 4 ∨ u = 5 ∨ u = 6 ∨ u = 7 ∨ u = 8 ∨ u = 9 ∨ u = 10 ∨ u = 11 ∨ u = 12 ∨ u = 13 ∨ u = 14 ∨ u = 15 ∨ u = 16 ∨ u = 17 ∨ u = 18 ∨ u = 19 by omega) with rfl | rfl | rfl | rfl | rfl | rfl | rfl | rfl | rfl | rfl | rfl | rfl | rfl | rfl | rfl | rfl | rfl | rfl | rfl | rfl <;> rfl
theorem ori_tgt {D : va_G} {G g f : Nat → Nat} {q qr ql h0 : Nat} {H : Heap} (hP : va_P D vwCl (oriW G q qr ql g f) H) (hD : va_D (fun z => h0 ≤ z) (oriW G q qr ql g f)) : va_P D vwCl (tgtW G q qr ql g f) H ∧ va_D (fun z => h0 ≤ z) (tgtW G q qr ql g f) :=
  ⟨va_P_cell (k := 1) hP rfl (refs_cg (fun j hj => by rw [if_pos hj, GG_f hj])), hD.set (p := 1) rfl⟩
