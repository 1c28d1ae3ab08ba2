/-! THE JDK'S LIST -/
def Wq (D : va_G) (G : Nat → Nat) (h0 : Nat) (c r : Nat → Nat → Nat) (o N a : Nat) (U : State) : Prop := ∃ wl : va_W, Rc G c wl ∧ Rr G r wl ∧ Ro G o wl ∧ va_P D vwCl wl U.heap ∧ va_D (fun q => h0 ≤ q) wl ∧ ∃ i, 27 ≤ i ∧ wl[i]? = some (a, .inl (G 61, N, .inr (.inr (.inr (.inr (fun j => if j < c 30 0 then some (c 34 j) else none))))))
theorem K_eq {D : va_G} {G : Nat → Nat} {s : State} {cA : ClassId} (h : va_K D vwCl (tyL G ++ [(cA, .object "java/lang/Object")]) s) : cA = G 61 := by
  obtain ⟨_, _, _, _, _, e1⟩ := (h.2 1 (G 61, .object "java/lang/Object") rfl).2
  obtain ⟨_, _, _, _, _, e2⟩ := (h.2 3 (cA, .object "java/lang/Object") rfl).2
  exact Option.some.inj (e2.symm.trans e1)
theorem obj_asg {s : State} (h : va_Nw (.castable RX1 "java/lang/Object") s) : ∀ comp c0 : ClassId, s.vm.findClass "java/lang/Object" = some comp → s.vm.findClass RX1 = some c0 → s.vm.assignable c0 comp = true := by
  intro comp c0 h1 h2
  obtain ⟨c3, c4, e1, e2, e3⟩ := Cond.castable_spec (va_Nw.use (A := #[]) rfl h)
  cases Option.some.inj (e1.symm.trans h2)
  cases Option.some.inj (e2.symm.trans h1)
  exact e3
theorem arr_recv {D : va_G} {G : Nat → Nat} {s : State} {H : Heap} {wl : va_W} {k a n : Nat} {f : Nat → Option Nat} (hK : va_K D vwCl (tyL G) s) (hP : va_P D vwCl wl H) (hq : wl[k]? = some (a, .inl (G 61, n, .inr (.inr (.inr (.inr f)))))) : ∃ cell : Cell, H[a]? = some cell ∧ cell.vm.isStatics = false ∧ s.vm.findClass "[Ljava/lang/Object;" = some cell.cls := by
  obtain ⟨_, _, _, _, _, e1⟩ := (hK.2 1 (G 61, .object "java/lang/Object") rfl).2
  exact ⟨_, hP k _ hq, rfl, e1⟩
section YR
variable {p : Program} {l : Launch} {e : Env} {R : Room} {s : State} {m : MethodId} {args : Array Value} {below : List Frame} {meth : Method} {cd : Code} {H : Heap} {locs : List Loc} {cells slots : Nat} {Q : State → Prop}
variable {pc : Nat} {ls : Array Slot} {rest st0 : List Value} {D : va_G} {G : Nat → Nat} {h0 : Nat} {c r : Nat → Nat → Nat} {o : Nat} {H0 : Heap} {mc ms : Nat} {av : Array Value}
theorem y_callr {S : Type} {post : S → Prop} {ad : S → Nat} {cf rf : S → Nat → Nat → Nat} {of : S → Nat} (hr : va_Run p l e R s m args below meth cd H locs cells slots mc ms (F0 m pc ls st0) rest (va_Qr post (fun u a t => a = ad u ∧ Wr D G h0 (cf u) (rf u) (of u) t) (fun q => h0 ≤ q) av) (fun q => h0 ≤ q)) (hS : va_S (fun q => h0 ≤ q) H0 H locs)
    (kk : ∀ (u : S) (H1 : Heap) (locs1 : List Loc) (wl1 : va_W), post u → Rc G (cf u) wl1 → Rr G (rf u) wl1 → Ro G (of u) wl1 → va_P D vwCl wl1 H1 → va_D (fun q => h0 ≤ q) wl1 → va_S (fun q => h0 ≤ q) H0 H1 locs1 → W p l e R s m args below meth cd H1 locs1 (cells + mc) (slots + ms) Q (F0 m (pc + 3) ls (.ref (ad u) :: rest))) : W p l e R s m args below meth cd H locs cells slots Q (F0 m pc ls st0) :=
  va_callr hr hS (fun _ _ h => h) (fun _ h => h) (fun u a t H1 locs1 ht _ hp hB _ _ hS1 => by
    obtain ⟨ha, wl1, b1, b2, b3, b4, b5⟩ := hB
    rw [ht] at b4
    subst ha
    exact kk u H1 locs1 wl1 hp b1 b2 b3 b4 b5 hS1)
end YR
set_option maxHeartbeats 4000000 in
set_option maxRecDepth 100000 in
theorem k_Jx4a65c_size_8abf5 (l : Launch) (D : va_G) (G : Nat → Nat) (h0 : Nat) (c r : Nat → Nat → Nat) (o : Nat)  : Met l yJx4a65c_size_8abf5 wsJx4a65c_size_8abf5 ({ frames := 0, cells := 0, slots := 0, locals := 0 } : Room) (va_Pc [.ref (G 2)] (fun U => Pr D G h0 c r o U)) (va_Qi (fun (v9 : Int32) (_ : Unit) => v9 = nI (c 30 0)) (fun _ t => Wr D G h0 c r o t) (fun q => h0 ≤ q)) 0 0 (fun q => h0 ≤ q) := by
  refine Met.ofW (cc := cJx4a65c_size_8abf5) (maxL := 1) (ret := (some .int)) (by decide) rfl ?_
  intro p e s m args below meth cd s₁ B hml hv
  obtain ⟨rfl, hE, wl, hRc, hRr, hRo, hP, hD⟩ := hv
  have hx := B.exec
  have hb := B.bytes
  have hr := B.returns
  have hts := atoms_spec (ws := wsJx4a65c_size_8abf5) B.pre
  have hown : s.vm.findClass RJx4a65c = some m.cls := findClass_of_methodNamed B.named
  have hlocks := B.notSynchronized
  have hK := hE.2.1
  have hS : va_S (fun q => h0 ≤ q) s.heap s.heap [] := va_S.rf
  have hA : ∀ q : Nat, s.heap.size ≤ q → h0 ≤ q := fun q h => Nat.le_trans hE.1 h
  have hl := lv_entry ([.ref (G 2)]) (n := 1) (Nat.le_of_ble_eq_true rfl)
  rw [lg_entry_eq]
  generalize (lg_sl ([.ref (G 2)]) ++ List.replicate (1 - (lg_sl ([.ref (G 2)])).length) Slot.unset).toArray = ls at hl ⊢
  have hl : lv_has ls 1 [(0, .ref (G 2))] := hl
  have inL : ∀ w ∈ wsJx4a65c0, w ∈ wsJx4a65c_size_8abf5 := by decide +kernel
  refine lv_aload_n hx hb dJx4a65c_size_8abf5_0 rfl (lv_at hl 0 rfl) ?_
  refine va_get (D := D) (ci := 0) (v := .int (nI (c 30 0))) (C := RJx4a65c) (T := TJx4a65c) (N := 3) hx hb hts inL hown hK hP 2 (Q_l hRc) rfl 2 (by decide) (hts (.fieldLink RJx4a65c 48 "java/util/ArrayList" "size" "I") (by decide +kernel)) (fun _ h9 => h9) rfl dJx4a65c_size_8abf5_1 ?_
  exact W.iret (v := nI (c 30 0)) hx hb hr (fun t ht hW => ⟨⟨_, (), rfl, rfl, Wr_mk hRc hRr hRo hP hD ht⟩, hS.F ht⟩) hS.2.2 dJx4a65c_size_8abf5_4
set_option maxHeartbeats 4000000 in
set_option maxRecDepth 100000 in
theorem k_J3_checkIndex_8e157 (l : Launch) (D : va_G) (G : Nat → Nat) (h0 : Nat) (c r : Nat → Nat → Nat) (o : Nat) (i n : Nat) (hi : i < n) (hn : n < 2 ^ 31) : Met l yJ3_checkIndex_8e157 wsJ3_checkIndex_8e157 ({ frames := 0, cells := 0, slots := 0, locals := 0 } : Room) (va_Pc [.int (nI i), .int (nI n), .null] (fun U => Pr D G h0 c r o U)) (va_Qi (fun (v9 : Int32) (_ : Unit) => v9 = nI i) (fun _ t => Wr D G h0 c r o t) (fun q => h0 ≤ q)) 0 0 (fun q => h0 ≤ q) := by
  refine Met.ofW (cc := cJ3_checkIndex_8e157) (maxL := 3) (ret := (some .int)) (by decide) rfl ?_
  intro p e s m args below meth cd s₁ B hml hv
  obtain ⟨rfl, hE, wl, hRc, hRr, hRo, hP, hD⟩ := hv
  have hx := B.exec
  have hb := B.bytes
  have hr := B.returns
  have hts := atoms_spec (ws := wsJ3_checkIndex_8e157) B.pre
  have hown : s.vm.findClass RJ3 = some m.cls := findClass_of_methodNamed B.named
  have hlocks := B.notSynchronized
  have hK := hE.2.1
  have hS : va_S (fun q => h0 ≤ q) s.heap s.heap [] := va_S.rf
  have hA : ∀ q : Nat, s.heap.size ≤ q → h0 ≤ q := fun q h => Nat.le_trans hE.1 h
  have hl := lv_entry ([.int (nI i), .int (nI n), .null]) (n := 3) (Nat.le_of_ble_eq_true rfl)
  rw [lg_entry_eq]
  generalize (lg_sl ([.int (nI i), .int (nI n), .null]) ++ List.replicate (3 - (lg_sl ([.int (nI i), .int (nI n), .null])).length) Slot.unset).toArray = ls at hl ⊢
  have hl : lv_has ls 3 [(0, .int (nI i)), (1, .int (nI n)), (2, .null)] := hl
  refine lv_iload_n hx hb dJ3_checkIndex_8e157_0 rfl (lv_at hl 0 rfl) ?_
  refine lv_if_lt (tgt := 9) hx hb dJ3_checkIndex_8e157_1 (by decide) (fun c_1 => ?_) (fun c_1 => ?_)
  · exact absurd c_1 (nI_pos (by omega))
  refine lv_iload_n hx hb dJ3_checkIndex_8e157_4 rfl (lv_at hl 0 rfl) ?_
  refine lv_iload_n hx hb dJ3_checkIndex_8e157_5 rfl (lv_at hl 1 rfl) ?_
  refine n_icmp_lt (tgt := 16) hx hb dJ3_checkIndex_8e157_6 (by decide) (by omega) hn (fun c_6 => ?_) (fun c_6 => ?_)
  · refine lv_iload_n hx hb dJ3_checkIndex_8e157_16 rfl (lv_at hl 0 rfl) ?_
    exact W.iret (v := nI i) hx hb hr (fun t ht hW => ⟨⟨_, (), rfl, rfl, Wr_mk hRc hRr hRo hP hD ht⟩, hS.F ht⟩) hS.2.2 dJ3_checkIndex_8e157_17
  · exfalso; omega
set_option maxHeartbeats 4000000 in
set_option maxRecDepth 100000 in
theorem k_J15_checkIndex_7cf53 (l : Launch) (D : va_G) (G : Nat → Nat) (h0 : Nat) (c r : Nat → Nat → Nat) (o : Nat) (i n : Nat) (hi : i < n) (hn : n < 2 ^ 31) : Met l yJ15_checkIndex_7cf53 wsJ15_checkIndex_7cf53 ({ frames := 1, cells := 0, slots := 0, locals := 22 } : Room) (va_Pc [.int (nI i), .int (nI n)] (fun U => Pr D G h0 c r o U)) (va_Qi (fun (v9 : Int32) (_ : Unit) => v9 = nI i) (fun _ t => Wr D G h0 c r o t) (fun q => h0 ≤ q)) 0 0 (fun q => h0 ≤ q) := by
  refine Met.ofW (cc := cJ15_checkIndex_7cf53) (maxL := 2) (ret := (some .int)) (by decide) rfl ?_
  intro p e s m args below meth cd s₁ B hml hv
  obtain ⟨rfl, hE, wl, hRc, hRr, hRo, hP, hD⟩ := hv
  have hx := B.exec
  have hb := B.bytes
  have hr := B.returns
  have hts := atoms_spec (ws := wsJ15_checkIndex_7cf53) B.pre
  have hown : s.vm.findClass RJ15 = some m.cls := findClass_of_methodNamed B.named
  have hlocks := B.notSynchronized
  have hK := hE.2.1
  have hS : va_S (fun q => h0 ≤ q) s.heap s.heap [] := va_S.rf
  have hA : ∀ q : Nat, s.heap.size ≤ q → h0 ≤ q := fun q h => Nat.le_trans hE.1 h
  have hl := lv_entry ([.int (nI i), .int (nI n)]) (n := 2) (Nat.le_of_ble_eq_true rfl)
  rw [lg_entry_eq]
  generalize (lg_sl ([.int (nI i), .int (nI n)]) ++ List.replicate (2 - (lg_sl ([.int (nI i), .int (nI n)])).length) Slot.unset).toArray = ls at hl ⊢
  have hl : lv_has ls 2 [(0, .int (nI i)), (1, .int (nI n))] := hl
  refine lv_iload_n hx hb dJ15_checkIndex_7cf53_0 rfl (lv_at hl 0 rfl) ?_
  refine lv_iload_n hx hb dJ15_checkIndex_7cf53_1 rfl (lv_at hl 1 rfl) ?_
  refine lv_null hx hb dJ15_checkIndex_7cf53_2 ?_
  refine y_calli (va_runS (As := [.int (nI i), .int (nI n), .null]) (rest := []) ⟨hx, hb, hml, hown, hts⟩ (k_J3_checkIndex_8e157 l D G h0 c r o i n hi hn) (va_cwS 3 hts gJ15_checkIndex_7cf53_J3_checkIndex_8e157 rfl rfl rfl (by decide +kernel) ⟨(Nat.le_of_ble_eq_true rfl), (Nat.le_of_ble_eq_true rfl)⟩) ⟨fun a U g mk q => ⟨q.1, Pr_cg q.2⟩, fun U hU hW => ⟨rfl, Pr_mk hE hRc hRr hRo hP hD hS hU hW⟩⟩ rfl rfl hl.1 rfl (lv_room (Nat.le_of_ble_eq_true rfl)) dJ15_checkIndex_7cf53_3 ⟨(Nat.le_of_ble_eq_true rfl), (Nat.le_of_ble_eq_true rfl)⟩) hS (fun v9 _ H locs wl hv9 hRc hRr hRo hP hD hS => ?_)
  have hv9 : v9 = nI i := hv9
  subst hv9
  exact W.iret (v := nI i) hx hb hr (fun t ht hW => ⟨⟨_, (), rfl, rfl, Wr_mk hRc hRr hRo hP hD ht⟩, hS.F ht⟩) hS.2.2 dJ15_checkIndex_7cf53_6
set_option maxHeartbeats 4000000 in
set_option maxRecDepth 100000 in
theorem k_Jx4a65c_elementData_915e3 (l : Launch) (D : va_G) (G : Nat → Nat) (h0 : Nat) (c r : Nat → Nat → Nat) (o : Nat) (i : Nat) (hi : i < c 30 0) (h1 : c 30 0 ≤ c 36 0) (h2 : c 36 0 < 2 ^ 31) : Met l yJx4a65c_elementData_915e3 wsJx4a65c_elementData_915e3 ({ frames := 0, cells := 0, slots := 0, locals := 0 } : Room) (va_Pc [.ref (G 2), .int (nI i)] (fun U => Pr D G h0 c r o U)) (va_Qr (fun (_ : Unit) => True) (fun _ a9 t => a9 = c 34 i ∧ Wr D G h0 c r o t) (fun q => h0 ≤ q)) 0 0 (fun q => h0 ≤ q) := by
  refine Met.ofW (cc := cJx4a65c_elementData_915e3) (maxL := 2) (ret := (some (.object "java/lang/Object"))) (by decide) rfl ?_
  intro p e s m args below meth cd s₁ B hml hv
  obtain ⟨rfl, hE, wl, hRc, hRr, hRo, hP, hD⟩ := hv
  have hx := B.exec
  have hb := B.bytes
  have hr := B.returns
  have hts := atoms_spec (ws := wsJx4a65c_elementData_915e3) B.pre
  have hown : s.vm.findClass RJx4a65c = some m.cls := findClass_of_methodNamed B.named
  have hlocks := B.notSynchronized
  have hK := hE.2.1
  have hS : va_S (fun q => h0 ≤ q) s.heap s.heap [] := va_S.rf
  have hA : ∀ q : Nat, s.heap.size ≤ q → h0 ≤ q := fun q h => Nat.le_trans hE.1 h
  have hl := lv_entry ([.ref (G 2), .int (nI i)]) (n := 2) (Nat.le_of_ble_eq_true rfl)
  rw [lg_entry_eq]
  generalize (lg_sl ([.ref (G 2), .int (nI i)]) ++ List.replicate (2 - (lg_sl ([.ref (G 2), .int (nI i)])).length) Slot.unset).toArray = ls at hl ⊢
  have hl : lv_has ls 2 [(0, .ref (G 2)), (1, .int (nI i))] := hl
  have inL : ∀ w ∈ wsJx4a65c0, w ∈ wsJx4a65c_elementData_915e3 := by decide +kernel
  refine lv_aload_n hx hb dJx4a65c_elementData_915e3_0 rfl (lv_at hl 0 rfl) ?_
  refine va_get (D := D) (ci := 0) (v := .ref (c 35 0)) (C := RJx4a65c) (T := TJx4a65c) (N := 3) hx hb hts inL hown hK hP 2 (Q_l hRc) rfl 1 (by decide) (hts (.fieldLink RJx4a65c 9 "java/util/ArrayList" "elementData" "[Ljava/lang/Object;") (by decide +kernel)) (fun _ h9 => h9) rfl dJx4a65c_elementData_915e3_1 ?_
  refine lv_iload_n hx hb dJx4a65c_elementData_915e3_4 rfl (lv_at hl 1 rfl) ?_
  obtain ⟨k, hk, hq⟩ := Q_b hRc (by omega)
  refine va_aldq hx hb hK hP k 1 hq rfl (vp_in_nI (by omega) h2) dJx4a65c_elementData_915e3_5 ?_
  refine n_top (y := .ref (c 34 i)) (by rw [nI_clamp (by omega), if_pos hi]; rfl) ?_
  exact W.aret (v := .ref (c 34 i)) (rt := .object "java/lang/Object") hx hb hr (Or.inl ⟨_, rfl⟩) (Or.inr ⟨_, rfl⟩) (fun t ht hW => ⟨⟨(), _, rfl, trivial, rfl, Wr_mk hRc hRr hRo hP hD ht⟩, hS.F ht⟩) hS.2.2 dJx4a65c_elementData_915e3_6
set_option maxHeartbeats 4000000 in
set_option maxRecDepth 100000 in
theorem k_Jx4a65c_get_915e3 (l : Launch) (D : va_G) (G : Nat → Nat) (h0 : Nat) (c r : Nat → Nat → Nat) (o : Nat) (i : Nat) (hi : i < c 30 0) (h1 : c 30 0 ≤ c 36 0) (h2 : c 36 0 < 2 ^ 31) : Met l yJx4a65c_get_915e3 wsJx4a65c_get_915e3 ({ frames := 2, cells := 0, slots := 0, locals := 43 } : Room) (va_Pc [.ref (G 2), .int (nI i)] (fun U => Pr D G h0 c r o U)) (va_Qr (fun (_ : Unit) => True) (fun _ a9 t => a9 = c 34 i ∧ Wr D G h0 c r o t) (fun q => h0 ≤ q)) 0 0 (fun q => h0 ≤ q) := by
  refine Met.ofW (cc := cJx4a65c_get_915e3) (maxL := 2) (ret := (some (.object "java/lang/Object"))) (by decide) rfl ?_
  intro p e s m args below meth cd s₁ B hml hv
  obtain ⟨rfl, hE, wl, hRc, hRr, hRo, hP, hD⟩ := hv
  have hx := B.exec
  have hb := B.bytes
  have hr := B.returns
  have hts := atoms_spec (ws := wsJx4a65c_get_915e3) B.pre
  have hown : s.vm.findClass RJx4a65c = some m.cls := findClass_of_methodNamed B.named
  have hlocks := B.notSynchronized
  have hK := hE.2.1
  have hS : va_S (fun q => h0 ≤ q) s.heap s.heap [] := va_S.rf
  have hA : ∀ q : Nat, s.heap.size ≤ q → h0 ≤ q := fun q h => Nat.le_trans hE.1 h
  have hl := lv_entry ([.ref (G 2), .int (nI i)]) (n := 2) (Nat.le_of_ble_eq_true rfl)
  rw [lg_entry_eq]
  generalize (lg_sl ([.ref (G 2), .int (nI i)]) ++ List.replicate (2 - (lg_sl ([.ref (G 2), .int (nI i)])).length) Slot.unset).toArray = ls at hl ⊢
  have hl : lv_has ls 2 [(0, .ref (G 2)), (1, .int (nI i))] := hl
  have inL : ∀ w ∈ wsJx4a65c0, w ∈ wsJx4a65c_get_915e3 := by decide +kernel
  refine lv_iload_n hx hb dJx4a65c_get_915e3_0 rfl (lv_at hl 1 rfl) ?_
  refine lv_aload_n hx hb dJx4a65c_get_915e3_1 rfl (lv_at hl 0 rfl) ?_
  refine va_get (D := D) (ci := 0) (v := .int (nI (c 30 0))) (C := RJx4a65c) (T := TJx4a65c) (N := 3) hx hb hts inL hown hK hP 2 (Q_l hRc) rfl 2 (by decide) (hts (.fieldLink RJx4a65c 48 "java/util/ArrayList" "size" "I") (by decide +kernel)) (fun _ h9 => h9) rfl dJx4a65c_get_915e3_2 ?_
  refine y_calli (va_runS (As := [.int (nI i), .int (nI (c 30 0))]) (rest := []) ⟨hx, hb, hml, hown, hts⟩ (k_J15_checkIndex_7cf53 l D G h0 c r o i (c 30 0) hi (by omega)) (va_cwS 2 hts gJx4a65c_get_915e3_J15_checkIndex_7cf53 rfl rfl rfl (by decide +kernel) ⟨(Nat.le_of_ble_eq_true rfl), (Nat.le_of_ble_eq_true rfl)⟩) ⟨fun a U g mk q => ⟨q.1, Pr_cg q.2⟩, fun U hU hW => ⟨rfl, Pr_mk hE hRc hRr hRo hP hD hS hU hW⟩⟩ rfl rfl hl.1 rfl (lv_room (Nat.le_of_ble_eq_true rfl)) dJx4a65c_get_915e3_5 ⟨(Nat.le_of_ble_eq_true rfl), (Nat.le_of_ble_eq_true rfl)⟩) hS (fun v9 _ H locs wl hv9 hRc hRr hRo hP hD hS => ?_)
  refine lv_pop hx hb dJx4a65c_get_915e3_8 rfl ?_
  refine lv_aload_n hx hb dJx4a65c_get_915e3_9 rfl (lv_at hl 0 rfl) ?_
  refine lv_iload_n hx hb dJx4a65c_get_915e3_10 rfl (lv_at hl 1 rfl) ?_
  refine y_callr (va_runV (As := [.int (nI i)]) (rest := []) ⟨hx, hb, hml, hown, hts⟩ (k_Jx4a65c_elementData_915e3 l D G h0 c r o i hi h1 h2) (cwV 1 hts gJx4a65c_get_915e3_Jx4a65c_elementData_915e3 rfl rfl rfl (by decide +kernel) ⟨(Nat.le_of_ble_eq_true rfl), (Nat.le_of_ble_eq_true rfl)⟩) ⟨fun a U g mk q => ⟨q.1, Pr_cg q.2⟩, va_recv (ci := 0) (q0 := 2) hK hP rfl (Q_l hRc), fun U hU hW => ⟨rfl, Pr_mk hE hRc hRr hRo hP hD hS hU hW⟩⟩ rfl rfl hl.1 rfl (lv_room (Nat.le_of_ble_eq_true rfl)) dJx4a65c_get_915e3_11 ⟨(Nat.le_of_ble_eq_true rfl), (Nat.le_of_ble_eq_true rfl)⟩) hS (fun _ H locs wl _ hRc hRr hRo hP hD hS => ?_)
  exact W.aret (v := .ref (c 34 i)) (rt := .object "java/lang/Object") hx hb hr (Or.inl ⟨_, rfl⟩) (Or.inr ⟨_, rfl⟩) (fun t ht hW => ⟨⟨(), _, rfl, trivial, rfl, Wr_mk hRc hRr hRo hP hD ht⟩, hS.F ht⟩) hS.2.2 dJx4a65c_get_915e3_14
set_option maxHeartbeats 4000000 in
set_option maxRecDepth 100000 in
theorem k_J8_newLength_cabcc (l : Launch) (D : va_G) (G : Nat → Nat) (h0 : Nat) (c r : Nat → Nat → Nat) (o : Nat) (n k : Nat) (hn : n < 2 ^ 20) (hk : k < 2 ^ 20) : Met l yJ8_newLength_cabcc wsJ8_newLength_cabcc ({ frames := 1, cells := 0, slots := 0, locals := 21 } : Room) (va_Pc [.int (nI n), .int (nI 1), .int (nI k)] (fun U => Pr D G h0 c r o U)) (va_Qi (fun (v9 : Int32) (_ : Unit) => v9 = nI (n + max 1 k)) (fun _ t => Wr D G h0 c r o t) (fun q => h0 ≤ q)) 0 0 (fun q => h0 ≤ q) := by
  refine Met.ofW (cc := cJ8_newLength_cabcc) (maxL := 4) (ret := (some .int)) (by decide) rfl ?_
  intro p e s m args below meth cd s₁ B hml hv
  obtain ⟨rfl, hE, wl, hRc, hRr, hRo, hP, hD⟩ := hv
  have hx := B.exec
  have hb := B.bytes
  have hr := B.returns
  have hts := atoms_spec (ws := wsJ8_newLength_cabcc) B.pre
  have hown : s.vm.findClass RJ8 = some m.cls := findClass_of_methodNamed B.named
  have hlocks := B.notSynchronized
  have hK := hE.2.1
  have hS : va_S (fun q => h0 ≤ q) s.heap s.heap [] := va_S.rf
  have hA : ∀ q : Nat, s.heap.size ≤ q → h0 ≤ q := fun q h => Nat.le_trans hE.1 h
  have hl := lv_entry ([.int (nI n), .int (nI 1), .int (nI k)]) (n := 4) (Nat.le_of_ble_eq_true rfl)
  rw [lg_entry_eq]
  generalize (lg_sl ([.int (nI n), .int (nI 1), .int (nI k)]) ++ List.replicate (4 - (lg_sl ([.int (nI n), .int (nI 1), .int (nI k)])).length) Slot.unset).toArray = ls at hl ⊢
  have hl : lv_has ls 4 [(0, .int (nI n)), (1, .int (nI 1)), (2, .int (nI k))] := hl
  refine lv_iload_n hx hb dJ8_newLength_cabcc_0 rfl (lv_at hl 0 rfl) ?_
  refine lv_iload_n hx hb dJ8_newLength_cabcc_1 rfl (lv_at hl 1 rfl) ?_
  refine lv_iload_n hx hb dJ8_newLength_cabcc_2 rfl (lv_at hl 2 rfl) ?_
  refine va_mmax hx hb (hml.trans hl.1.symm) hown (hts (.methodLink RJ8 194 Lib.Math.max.name) (by decide +kernel)) (hts (.static Lib.Math.max.name) (by decide +kernel)) (hts (.initialized "java/lang/Math") (by decide +kernel)) (hts (.code Lib.Math.max.name Lib.Math.max.code 2 (some .int)) (by decide +kernel)) (Nat.le_of_ble_eq_true rfl) (Nat.le_of_ble_eq_true rfl) (by first | exact (Nat.le_of_ble_eq_true rfl) | (simp only [Nat.zero_add]; omega)) (by first | exact (Nat.le_of_ble_eq_true rfl) | (show _ ≤ 2000; omega)) dJ8_newLength_cabcc_3 ?_
  refine n_top (y := .int (nI (max 1 k))) (congrArg Value.int (nI_max (by decide) (by omega))) ?_
  refine n_iadd hx hb dJ8_newLength_cabcc_6 ?_
  refine lv_istore_n (lv' := [(3, .int (nI (n + max 1 k))), (0, .int (nI n)), (1, .int (nI 1)), (2, .int (nI k))]) hx hb dJ8_newLength_cabcc_7 rfl hl (by decide) rfl (fun ls hl => ?_)
  have hm : 1 ≤ max 1 k ∧ max 1 k < 2 ^ 20 + 1 := by
    rcases Nat.le_total 1 k with z | z
    · rw [Nat.max_eq_right z]; omega
    · rw [Nat.max_eq_left z]; omega
  refine lv_iconst (v := nI 0) hx hb dJ8_newLength_cabcc_8 (by decide) ?_
  refine lv_iload_n hx hb dJ8_newLength_cabcc_9 rfl (lv_at hl 0 rfl) ?_
  refine n_icmp_ge (tgt := 21) hx hb dJ8_newLength_cabcc_10 (by decide) (by decide) (by omega) (fun c_10 => ?_) (fun c_10 => ?_)
  · exfalso; omega
  refine lv_iload_n hx hb dJ8_newLength_cabcc_13 rfl (lv_at hl 0 rfl) ?_
  refine lv_ldc (v := 2147483639) hx hb hown (hts (.constant RJ8 200 (2147483639)) (by decide +kernel)) dJ8_newLength_cabcc_14 ?_
  refine n_top (y := .int (nI 2147483639)) rfl ?_
  refine n_icmp_gt (tgt := 21) hx hb dJ8_newLength_cabcc_16 (by decide) (by omega) (by decide) (fun c_16 => ?_) (fun c_16 => ?_)
  · exfalso; omega
  refine lv_iload_n hx hb dJ8_newLength_cabcc_19 rfl (lv_at hl 0 rfl) ?_
  exact W.iret (v := nI (n + max 1 k)) hx hb hr (fun t ht hW => ⟨⟨_, (), rfl, rfl, Wr_mk hRc hRr hRo hP hD ht⟩, hS.F ht⟩) hS.2.2 dJ8_newLength_cabcc_20
set_option maxHeartbeats 4000000 in
set_option maxRecDepth 100000 in
theorem k_J7_copyOf_6403c (l : Launch) (D : va_G) (G : Nat → Nat) (h0 : Nat) (c r : Nat → Nat → Nat) (o : Nat) (N : Nat) (hN : N ≤ 2000) (h1 : c 30 0 ≤ c 36 0) (h2 : c 36 0 ≤ N) (h3 : 0 < c 36 0) : Met l yJ7_copyOf_6403c wsJ7_copyOf_6403c ({ frames := 1, cells := 1, slots := 2000, locals := 60 } : Room) (va_Pc [.ref (c 35 0), .int (nI N), .ref (G 80)] (fun U => Pr D G h0 c r o U)) (va_Qr (fun (_ : Unit) => True) (fun _ a9 t => Wq D G h0 c r o N a9 t) (fun q => h0 ≤ q)) 1 2000 (fun q => h0 ≤ q) := by
  refine Met.ofW (cc := cJ7_copyOf_6403c) (maxL := 4) (ret := (some (.array (.object "java/lang/Object")))) (by decide) rfl ?_
  intro p e s m args below meth cd s₁ B hml hv
  obtain ⟨rfl, hE, wl, hRc, hRr, hRo, hP, hD⟩ := hv
  have hx := B.exec
  have hb := B.bytes
  have hr := B.returns
  have hts := atoms_spec (ws := wsJ7_copyOf_6403c) B.pre
  have hown : s.vm.findClass RJ7 = some m.cls := findClass_of_methodNamed B.named
  have hlocks := B.notSynchronized
  have hK := hE.2.1
  have hS : va_S (fun q => h0 ≤ q) s.heap s.heap [] := va_S.rf
  have hA : ∀ q : Nat, s.heap.size ≤ q → h0 ≤ q := fun q h => Nat.le_trans hE.1 h
  have hl := lv_entry ([.ref (c 35 0), .int (nI N), .ref (G 80)]) (n := 4) (Nat.le_of_ble_eq_true rfl)
  rw [lg_entry_eq]
  generalize (lg_sl ([.ref (c 35 0), .int (nI N), .ref (G 80)]) ++ List.replicate (4 - (lg_sl ([.ref (c 35 0), .int (nI N), .ref (G 80)])).length) Slot.unset).toArray = ls at hl ⊢
  have hl : lv_has ls 4 [(0, .ref (c 35 0)), (1, .int (nI N)), (2, .ref (G 80))] := hl
  obtain ⟨k, hk, hq⟩ := Q_b hRc h3
  refine lv_aload_n hx hb dJ7_copyOf_6403c_0 rfl (lv_at hl 2 rfl) ?_
  refine va_ldcM hx hb hown (hts (.classLink RJ7 110 "[Ljava/lang/Object;") (by decide +kernel)) hE.2.2.2.2.2.2.2.1 dJ7_copyOf_6403c_1 ?_
  refine lv_acmp_ne (rx := some (G 80)) (ry := some (G 80)) (tgt := 13) hx hb dJ7_copyOf_6403c_3 (by decide) (fun c_3 => absurd rfl c_3) (fun _ => ?_)
  refine lv_iload_n hx hb dJ7_copyOf_6403c_6 rfl (lv_at hl 1 rfl) ?_
  refine va_newq (C := "java/lang/Object") (N' := N) hx hb hown (hts (.classLink RJ7 2 "java/lang/Object") (by decide +kernel)) hE.2.2.2.2.2.1 hK hP hD hS hA (nI_pos (by omega)) (nI_clamp (by omega)) (by omega) (Nat.le_of_ble_eq_true rfl) (by show 0 + N ≤ 2000; omega) dJ7_copyOf_6403c_7 (fun q cA H hK2 hP hD hS => ?_)
  have hcA := K_eq hK2
  subst hcA
  have hq2 := ws_ap (l := [(q, (.inl (G 61, N, .inr (.inr (.inr (.inr (fun _ => none))))) : va_E))]) hq
  have hqN : (wl ++ [(q, (.inl (G 61, N, .inr (.inr (.inr (.inr (fun _ => none))))) : va_E))])[wl.length]? = some (q, .inl (G 61, N, .inr (.inr (.inr (.inr (fun _ => none)))))) := by simp
  refine lv_goto (tgt := 24) hx hb dJ7_copyOf_6403c_10 (by decide) ?_
  refine lv_astore_n (lv' := [(3, .ref q), (0, .ref (c 35 0)), (1, .int (nI N)), (2, .ref (G 80))]) hx hb dJ7_copyOf_6403c_24 rfl hl (by decide) rfl (fun ls hl => ?_)
  refine lv_aload_n hx hb dJ7_copyOf_6403c_25 rfl (lv_at hl 1 rfl) ?_
  refine lv_iconst (v := nI 0) hx hb dJ7_copyOf_6403c_26 (by decide) ?_
  refine lv_aload_n hx hb dJ7_copyOf_6403c_27 rfl (lv_at hl 0 rfl) ?_
  refine lv_iconst (v := nI 0) hx hb dJ7_copyOf_6403c_28 (by decide) ?_
  refine lv_aload_n hx hb dJ7_copyOf_6403c_29 rfl (lv_at hl 1 rfl) ?_
  refine va_alen (v := nI (c 36 0)) hx hb hK hP k 1 hq2 rfl rfl dJ7_copyOf_6403c_30 ?_
  refine lv_iload_n hx hb dJ7_copyOf_6403c_31 rfl (lv_at hl 2 rfl) ?_
  refine va_mmin hx hb (hml.trans hl.1.symm) hown (hts (.methodLink RJ7 304 Lib.Math.min.name) (by decide +kernel)) (hts (.static Lib.Math.min.name) (by decide +kernel)) (hts (.initialized "java/lang/Math") (by decide +kernel)) (hts (.code Lib.Math.min.name Lib.Math.min.code 2 (some .int)) (by decide +kernel)) (Nat.le_of_ble_eq_true rfl) (Nat.le_of_ble_eq_true rfl) (by first | exact (Nat.le_of_ble_eq_true rfl) | (simp only [Nat.zero_add]; omega)) (by first | exact (Nat.le_of_ble_eq_true rfl) | (show _ ≤ 2000; omega)) dJ7_copyOf_6403c_32 ?_
  refine n_top (y := .int (nI (c 36 0))) (by rw [nI_min (by omega) (by omega), Nat.min_eq_left h2]) ?_
  have hcl : (nI (c 36 0)).toNatClampNeg = c 36 0 := nI_clamp (by omega)
  have hc0 : (nI 0).toNatClampNeg = 0 := nI_clamp (by decide)
  refine va_copyM hx hb (hml.trans hl.1.symm) hown (hts (.methodLink RJ7 150 arraycopyName) (by decide +kernel)) (hts (.native arraycopyName) (by decide +kernel)) (hts (.static arraycopyName) (by decide +kernel)) (hts (.initialized "java/lang/System") (by decide +kernel)) hK hP hD hS k wl.length 1 1 hq2 hqN rfl rfl (by rw [nI_0]; decide) (by rw [nI_0]; decide) (nI_pos (by omega)) (by rw [hcl, hc0]; omega) (by rw [hcl, hc0]; omega) (fun i hi y hy => ?_) (Nat.le_of_ble_eq_true rfl) (Nat.le_of_ble_eq_true rfl) dJ7_copyOf_6403c_35 (fun H locs hP hD hS => ?_)
  · rw [hc0, Nat.zero_add] at hy
    have hj : i < c 30 0 := by
      apply Classical.byContradiction
      intro z
      rw [if_neg z] at hy
      cases hy
    rw [if_pos hj] at hy
    obtain ⟨i2, hi2, e2⟩ := Q_w hRc hj
    cases hy
    exact va_rAny hK hP (ws_ap e2) rfl (obj_asg hE.2.2.2.2.2.2.2.2.2.1)
  rw [hcl, hc0] at hP hD
  have ef : va_cpy (fun j => if j < c 30 0 then some (c 34 j) else none) (fun _ => none) 0 0 (c 36 0) = (fun j => if j < c 30 0 then some (c 34 j) else none) := by
    funext j
    unfold va_cpy
    by_cases hj : j < c 36 0
    · rw [if_pos ⟨Nat.zero_le j, by omega⟩, Nat.zero_add, Nat.sub_zero]
    · rw [if_neg (fun z => hj (by omega)), if_neg (by omega)]
  have es : ∀ x y : Nat × va_E, (wl ++ [x]).set wl.length y = wl ++ [y] := fun x y => by simp
  rw [ef, es] at hP hD
  have hqL : (wl ++ [(q, (.inl (G 61, N, .inr (.inr (.inr (.inr (fun j => if j < c 30 0 then some (c 34 j) else none))))) : va_E))])[wl.length]? = some (q, .inl (G 61, N, .inr (.inr (.inr (.inr (fun j => if j < c 30 0 then some (c 34 j) else none)))))) := by simp
  have h40 : 27 ≤ wl.length := by
    have := (List.getElem?_eq_some_iff.mp (Q_u hRc (show 19 < 20 by decide))).1
    omega
  refine W.widen (k := 1) (n := 2000) (Nat.le_of_ble_eq_true rfl) (by omega) ?_
  refine lv_aload_n hx hb dJ7_copyOf_6403c_38 rfl (lv_at hl 0 rfl) ?_
  exact W.aret (v := .ref q) (rt := .array (.object "java/lang/Object")) hx hb hr (Or.inr ⟨_, rfl⟩) (Or.inr ⟨_, rfl⟩) (fun t ht hW => ⟨⟨(), _, rfl, trivial, _, Rc_ap hRc, Rr_ap hRr, Ro_ap hRo, by rw [ht]; exact hP, hD, _, h40, hqL⟩, hS.F ht⟩) hS.2.2 dJ7_copyOf_6403c_39
set_option maxHeartbeats 4000000 in
set_option maxRecDepth 100000 in
theorem k_J7_copyOf_1904c (l : Launch) (D : va_G) (G : Nat → Nat) (h0 : Nat) (c r : Nat → Nat → Nat) (o : Nat) (N : Nat) (hN : N ≤ 2000) (h1 : c 30 0 ≤ c 36 0) (h2 : c 36 0 ≤ N) (h3 : 0 < c 36 0) : Met l yJ7_copyOf_1904c wsJ7_copyOf_1904c ({ frames := 2, cells := 1, slots := 2000, locals := 83 } : Room) (va_Pc [.ref (c 35 0), .int (nI N)] (fun U => Pr D G h0 c r o U)) (va_Qr (fun (_ : Unit) => True) (fun _ a9 t => Wq D G h0 c r o N a9 t) (fun q => h0 ≤ q)) 1 2000 (fun q => h0 ≤ q) := by
  refine Met.ofW (cc := cJ7_copyOf_1904c) (maxL := 2) (ret := (some (.array (.object "java/lang/Object")))) (by decide) rfl ?_
  intro p e s m args below meth cd s₁ B hml hv
  obtain ⟨rfl, hE, wl, hRc, hRr, hRo, hP, hD⟩ := hv
  have hx := B.exec
  have hb := B.bytes
  have hr := B.returns
  have hts := atoms_spec (ws := wsJ7_copyOf_1904c) B.pre
  have hown : s.vm.findClass RJ7 = some m.cls := findClass_of_methodNamed B.named
  have hlocks := B.notSynchronized
  have hK := hE.2.1
  have hS : va_S (fun q => h0 ≤ q) s.heap s.heap [] := va_S.rf
  have hA : ∀ q : Nat, s.heap.size ≤ q → h0 ≤ q := fun q h => Nat.le_trans hE.1 h
  have hl := lv_entry ([.ref (c 35 0), .int (nI N)]) (n := 2) (Nat.le_of_ble_eq_true rfl)
  rw [lg_entry_eq]
  generalize (lg_sl ([.ref (c 35 0), .int (nI N)]) ++ List.replicate (2 - (lg_sl ([.ref (c 35 0), .int (nI N)])).length) Slot.unset).toArray = ls at hl ⊢
  have hl : lv_has ls 2 [(0, .ref (c 35 0)), (1, .int (nI N))] := hl
  obtain ⟨k, hk, hq⟩ := Q_b hRc h3
  refine lv_aload_n hx hb dJ7_copyOf_1904c_0 rfl (lv_at hl 0 rfl) ?_
  refine lv_iload_n hx hb dJ7_copyOf_1904c_1 rfl (lv_at hl 1 rfl) ?_
  refine lv_aload_n hx hb dJ7_copyOf_1904c_2 rfl (lv_at hl 0 rfl) ?_
  refine va_getC (C := "[Ljava/lang/Object;") hx hb (hml.trans hl.1.symm) hown (hts (.methodLink RJ7 86 ⟨"java/lang/Object", "getClass", "()Ljava/lang/Class;"⟩) (by decide +kernel)) (va_Dc.use hE.2.2.2.2.2.2.2.2.1) (hts (.selects "[Ljava/lang/Object;" ⟨"java/lang/Object", "getClass", "()Ljava/lang/Class;"⟩ ⟨"java/lang/Object", "getClass", "()Ljava/lang/Class;"⟩) (by decide +kernel)) (hts (.instanceMethod ⟨"java/lang/Object", "getClass", "()Ljava/lang/Class;"⟩) (by decide +kernel)) (hts (.native ⟨"java/lang/Object", "getClass", "()Ljava/lang/Class;"⟩) (by decide +kernel)) hE.2.2.2.2.2.2.2.1 (arr_recv hK hP hq) (Nat.le_of_ble_eq_true rfl) (Nat.le_of_ble_eq_true rfl) dJ7_copyOf_1904c_3 ?_
  refine va_callr (va_runS (As := [.ref (c 35 0), .int (nI N), .ref (G 80)]) (rest := []) ⟨hx, hb, hml, hown, hts⟩ (k_J7_copyOf_6403c l D G h0 c r o N hN h1 h2 h3) (va_cwS 3 hts gJ7_copyOf_1904c_J7_copyOf_6403c rfl rfl rfl (by decide +kernel) ⟨(Nat.le_of_ble_eq_true rfl), (Nat.le_of_ble_eq_true rfl)⟩) ⟨fun a U g mk q => ⟨q.1, Pr_cg q.2⟩, fun U hU hW => ⟨rfl, Pr_mk hE hRc hRr hRo hP hD hS hU hW⟩⟩ rfl rfl hl.1 rfl (lv_room (Nat.le_of_ble_eq_true rfl)) dJ7_copyOf_1904c_6 ⟨(Nat.le_of_ble_eq_true rfl), (Nat.le_of_ble_eq_true rfl)⟩) hS (fun _ _ h => h) (fun _ h => h) (fun _ q t H locs ht hvm _ hB _ _ hS => ?_)
  obtain ⟨wl, hRc, hRr, hRo, hP, hD, i, hi, hq⟩ := hB
  rw [ht] at hP
  exact W.aret (v := .ref q) (rt := .array (.object "java/lang/Object")) hx hb hr (Or.inr ⟨_, rfl⟩) (Or.inr ⟨_, rfl⟩) (fun t ht hW => ⟨⟨(), _, rfl, trivial, wl, hRc, hRr, hRo, by rw [ht]; exact hP, hD, i, hi, hq⟩, hS.F ht⟩) hS.2.2 dJ7_copyOf_1904c_9
