/-! CONSTRUCTORS: over any world that holds the new object -/
def Ww (D : va_G) (h0 : Nat) (wl : va_W) (U : State) : Prop := va_P D vwCl wl U.heap ∧ va_D (fun q => h0 ≤ q) wl
def Pw (D : va_G) (G : Nat → Nat) (h0 : Nat) (wl : va_W) (U : State) : Prop := Ev D G h0 U ∧ Ww D h0 wl U
theorem Pw_cg {D : va_G} {G : Nat → Nat} {h0 : Nat} {wl : va_W} {a : Array Value} {U : State} {g : JFrame} {mk : MethodId} (h : Pw D G h0 wl U) : Pw D G h0 wl (U.calling g mk a) := ⟨Ev_cg h.1, h.2⟩
theorem Pw_mk {D : va_G} {G : Nat → Nat} {h0 : Nat} {s U : State} {H : Heap} {locs : List Loc} {wl : va_W} (hE : Ev D G h0 s) (hP : va_P D vwCl wl H) (hD : va_D (fun q => h0 ≤ q) wl) (hS : va_S (fun q => h0 ≤ q) s.heap H locs) (hU : U.heap = H) (hW : s.WarmedH U.vm) : Pw D G h0 wl U := by
  subst hU
  exact ⟨Ev_mv hE hW hS, hP, hD⟩
theorem Ww_mk {D : va_G} {h0 : Nat} {U : State} {H : Heap} {wl : va_W} (hP : va_P D vwCl wl H) (hD : va_D (fun q => h0 ≤ q) wl) (hU : U.heap = H) : Ww D h0 wl U := by
  subst hU
  exact ⟨hP, hD⟩
section WV
variable {p : Program} {l : Launch} {e : Env} {R : Room} {s : State} {m : MethodId} {args : Array Value} {below : List Frame} {meth : Method} {c : Code} {H : Heap} {locs : List Loc} {cells slots mc ms : Nat} {Q : State → Prop} {pc : Nat} {ls : Array Slot} {rest st0 : List Value} {D : va_G} {h0 : Nat} {H0 : Heap} {w1 : va_W} {av : Array Value}
theorem w_callv (hr : va_Run p l e R s m args below meth c H locs cells slots mc ms (F0 m pc ls st0) rest (va_Qv (fun (_ : Unit) => True) (fun _ t => Ww D h0 w1 t) (fun q => h0 ≤ q) av) (fun q => h0 ≤ q)) (hS : va_S (fun q => h0 ≤ q) H0 H locs)
    (kk : ∀ (H1 : Heap) (locs1 : List Loc), va_P D vwCl w1 H1 → va_D (fun q => h0 ≤ q) w1 → va_S (fun q => h0 ≤ q) H0 H1 locs1 → W p l e R s m args below meth c H1 locs1 (cells + mc) (slots + ms) Q (F0 m (pc + 3) ls rest)) : W p l e R s m args below meth c H locs cells slots Q (F0 m pc ls st0) :=
  va_callv hr hS (fun _ _ h => h) (fun _ h => h) (fun _ t H1 locs1 ht _ _ hB _ _ hS1 => by
    obtain ⟨b1, b2⟩ := hB
    rw [ht] at b1
    exact kk H1 locs1 b1 b2 hS1)
end WV
set_option maxHeartbeats 4000000 in
set_option maxRecDepth 100000 in
theorem k_X0_init (l : Launch) (D : va_G) (G : Nat → Nat) (h0 : Nat) (wl : va_W) (k q u : Nat) (hq : wl[k]? = some (q, .inr (1, [.int 0, .int 0, .int 0, .int 0, .int 0, .int 0, .null, .int 0, .int 0, .int 0, .int 0, .int 0, .int 0]))) : Met l yX0_init wsX0_init ({ frames := 1, cells := 0, slots := 0, locals := 12 } : Room) (va_Pc [.ref q, .int (nI u)] (fun U => Pw D G h0 wl U)) (va_Qv (fun (_ : Unit) => True) (fun _ t => Ww D h0 (wl.set k (q, .inr (1, [.int (nI u), .int (nI 1), .int (nI 0), .int (nI 10), .int (nI 0), .int (nI 0), .null, .int (nI 0), .int (nI 0), .int (nI 0), .int (nI 0), .int (nI 0), .int (nI 0)]))) t) (fun q => h0 ≤ q)) 0 0 (fun q => h0 ≤ q) := by
  refine Met.ofW (cc := cX0_init) (maxL := 2) (ret := none) (by decide) rfl ?_
  intro p e s m args below meth cd s₁ B hml hv
  obtain ⟨rfl, hE, hP, hD⟩ := hv
  have hx := B.exec
  have hb := B.bytes
  have hr := B.returns
  have hts := atoms_spec (ws := wsX0_init) B.pre
  have hown : s.vm.findClass RX0 = some m.cls := findClass_of_methodNamed B.named
  have hlocks := B.notSynchronized
  have hK := hE.2.1
  have hin : meth.name = "<init>" := (name_of_methodNamed B.named B.method).1
  have hS : va_S (fun q => h0 ≤ q) s.heap s.heap [] := va_S.rf
  have hA : ∀ q : Nat, s.heap.size ≤ q → h0 ≤ q := fun q h => Nat.le_trans hE.1 h
  have hl := lv_entry ([.ref q, .int (nI u)]) (n := 2) (Nat.le_of_ble_eq_true rfl)
  rw [lg_entry_eq]
  generalize (lg_sl ([.ref q, .int (nI u)]) ++ List.replicate (2 - (lg_sl ([.ref q, .int (nI u)])).length) Slot.unset).toArray = ls at hl ⊢
  have hl : lv_has ls 2 [(0, .ref q), (1, .int (nI u))] := hl
  have inX0 : ∀ w ∈ wsX00, w ∈ wsX0_init := by decide +kernel
  refine lv_aload_n hx hb dX0_init_0 rfl (lv_at hl 0 rfl) ?_
  refine W.objInit hx hb hown (hts (.methodLink RX0 3 objectInit) (by decide +kernel)) (hts (.instanceMethod objectInit) (by decide +kernel)) (hts (.code objectInit ⟨#[0xb1]⟩ 1 none) (by decide +kernel)) rfl (by rw [hml]; exact hl.1) rfl dX0_init_1 (Nat.le_of_ble_eq_true rfl) (Nat.le_of_ble_eq_true rfl) ?_
  refine W.eq (g2 := F0 m 4 ls []) rfl ?_
  refine lv_aload_n hx hb dX0_init_4 rfl (lv_at hl 0 rfl) ?_
  refine lv_iconst (v := nI 1) hx hb dX0_init_5 (by decide) ?_
  refine x_put (D := D) (G := G) (ci := 1) (ty := .int) (C := RX0) (T := TX0) (N := 13) (Z := fun w => w = (wl.set k (q, .inr (1, [.int 0, .int (nI 1), .int 0, .int 0, .int 0, .int 0, .null, .int 0, .int 0, .int 0, .int 0, .int 0, .int 0])))) hx hb hts inX0 tyX0 tyX0_ok nmX0 hown hK hP hD hS k hq rfl 1 (by decide) (hts (.fieldLink RX0 9 "BootStage$Unit" "time" "I") (by decide +kernel)) (fun _ h9 => h9) rfl (by decide +kernel) rfl rfl (Nat.le_of_ble_eq_true rfl) dX0_init_6 rfl (fun H locs w9 hZ hP hD hS => ?_)
  subst hZ
  refine lv_aload_n hx hb dX0_init_9 rfl (lv_at hl 0 rfl) ?_
  refine lv_iconst (v := nI 0) hx hb dX0_init_10 (by decide) ?_
  refine x_put (D := D) (G := G) (ci := 1) (ty := .int) (C := RX0) (T := TX0) (N := 13) (Z := fun w => w = (wl.set k (q, .inr (1, [.int 0, .int (nI 1), .int (nI 0), .int 0, .int 0, .int 0, .null, .int 0, .int 0, .int 0, .int 0, .int 0, .int 0])))) hx hb hts inX0 tyX0 tyX0_ok nmX0 hown hK hP hD hS k (ws_eq hq) rfl 2 (by decide) (hts (.fieldLink RX0 15 "BootStage$Unit" "retries" "I") (by decide +kernel)) (fun _ h9 => h9) rfl (by decide +kernel) rfl rfl (Nat.le_of_ble_eq_true rfl) dX0_init_11 (List.set_set ..) (fun H locs w9 hZ hP hD hS => ?_)
  subst hZ
  refine lv_aload_n hx hb dX0_init_14 rfl (lv_at hl 0 rfl) ?_
  refine lv_bipush (v := nI 10) hx hb dX0_init_15 (by decide) ?_
  refine x_put (D := D) (G := G) (ci := 1) (ty := .int) (C := RX0) (T := TX0) (N := 13) (Z := fun w => w = (wl.set k (q, .inr (1, [.int 0, .int (nI 1), .int (nI 0), .int (nI 10), .int 0, .int 0, .null, .int 0, .int 0, .int 0, .int 0, .int 0, .int 0])))) hx hb hts inX0 tyX0 tyX0_ok nmX0 hown hK hP hD hS k (ws_eq hq) rfl 3 (by decide) (hts (.fieldLink RX0 18 "BootStage$Unit" "learned" "I") (by decide +kernel)) (fun _ h9 => h9) rfl (by decide +kernel) rfl rfl (Nat.le_of_ble_eq_true rfl) dX0_init_17 (List.set_set ..) (fun H locs w9 hZ hP hD hS => ?_)
  subst hZ
  refine lv_aload_n hx hb dX0_init_20 rfl (lv_at hl 0 rfl) ?_
  refine lv_iconst (v := nI 0) hx hb dX0_init_21 (by decide) ?_
  refine x_put (D := D) (G := G) (ci := 1) (ty := .int) (C := RX0) (T := TX0) (N := 13) (Z := fun w => w = (wl.set k (q, .inr (1, [.int 0, .int (nI 1), .int (nI 0), .int (nI 10), .int (nI 0), .int 0, .null, .int 0, .int 0, .int 0, .int 0, .int 0, .int 0])))) hx hb hts inX0 tyX0 tyX0_ok nmX0 hown hK hP hD hS k (ws_eq hq) rfl 4 (by decide) (hts (.fieldLink RX0 21 "BootStage$Unit" "faults" "I") (by decide +kernel)) (fun _ h9 => h9) rfl (by decide +kernel) rfl rfl (Nat.le_of_ble_eq_true rfl) dX0_init_22 (List.set_set ..) (fun H locs w9 hZ hP hD hS => ?_)
  subst hZ
  refine lv_aload_n hx hb dX0_init_25 rfl (lv_at hl 0 rfl) ?_
  refine lv_iconst (v := nI 0) hx hb dX0_init_26 (by decide) ?_
  refine x_put (D := D) (G := G) (ci := 1) (ty := .boolean) (C := RX0) (T := TX0) (N := 13) (Z := fun w => w = (wl.set k (q, .inr (1, [.int 0, .int (nI 1), .int (nI 0), .int (nI 10), .int (nI 0), .int (nI 0), .null, .int 0, .int 0, .int 0, .int 0, .int 0, .int 0])))) hx hb hts inX0 tyX0 tyX0_ok nmX0 hown hK hP hD hS k (ws_eq hq) rfl 5 (by decide) (hts (.fieldLink RX0 24 "BootStage$Unit" "isHeld" "Z") (by decide +kernel)) (fun _ h9 => h9) rfl (by decide +kernel) (nb_le (by decide)) (nb_ft (by decide)) (Nat.le_of_ble_eq_true rfl) dX0_init_27 (List.set_set ..) (fun H locs w9 hZ hP hD hS => ?_)
  subst hZ
  refine lv_aload_n hx hb dX0_init_30 rfl (lv_at hl 0 rfl) ?_
  refine lv_null hx hb dX0_init_31 ?_
  refine x_put (D := D) (G := G) (ci := 1) (ty := .object "BootStage$Unit") (C := RX0) (T := TX0) (N := 13) (Z := fun w => w = (wl.set k (q, .inr (1, [.int 0, .int (nI 1), .int (nI 0), .int (nI 10), .int (nI 0), .int (nI 0), .null, .int 0, .int 0, .int 0, .int 0, .int 0, .int 0])))) hx hb hts inX0 tyX0 tyX0_ok nmX0 hown hK hP hD hS k (ws_eq hq) rfl 6 (by decide) (hts (.fieldLink RX0 28 "BootStage$Unit" "substitute" "LBootStage$Unit;") (by decide +kernel)) (fun _ h9 => h9) rfl (by decide +kernel) rfl rfl (Nat.le_of_ble_eq_true rfl) dX0_init_32 (List.set_set ..) (fun H locs w9 hZ hP hD hS => ?_)
  subst hZ
  refine lv_aload_n hx hb dX0_init_35 rfl (lv_at hl 0 rfl) ?_
  refine lv_iconst (v := nI 0) hx hb dX0_init_36 (by decide) ?_
  refine x_put (D := D) (G := G) (ci := 1) (ty := .int) (C := RX0) (T := TX0) (N := 13) (Z := fun w => w = (wl.set k (q, .inr (1, [.int 0, .int (nI 1), .int (nI 0), .int (nI 10), .int (nI 0), .int (nI 0), .null, .int (nI 0), .int 0, .int 0, .int 0, .int 0, .int 0])))) hx hb hts inX0 tyX0 tyX0_ok nmX0 hown hK hP hD hS k (ws_eq hq) rfl 7 (by decide) (hts (.fieldLink RX0 32 "BootStage$Unit" "needs" "I") (by decide +kernel)) (fun _ h9 => h9) rfl (by decide +kernel) rfl rfl (Nat.le_of_ble_eq_true rfl) dX0_init_37 (List.set_set ..) (fun H locs w9 hZ hP hD hS => ?_)
  subst hZ
  refine lv_aload_n hx hb dX0_init_40 rfl (lv_at hl 0 rfl) ?_
  refine lv_iconst (v := nI 0) hx hb dX0_init_41 (by decide) ?_
  refine x_put (D := D) (G := G) (ci := 1) (ty := .int) (C := RX0) (T := TX0) (N := 13) (Z := fun w => w = (wl.set k (q, .inr (1, [.int 0, .int (nI 1), .int (nI 0), .int (nI 10), .int (nI 0), .int (nI 0), .null, .int (nI 0), .int (nI 0), .int 0, .int 0, .int 0, .int 0])))) hx hb hts inX0 tyX0 tyX0_ok nmX0 hown hK hP hD hS k (ws_eq hq) rfl 8 (by decide) (hts (.fieldLink RX0 35 "BootStage$Unit" "keptWishes" "I") (by decide +kernel)) (fun _ h9 => h9) rfl (by decide +kernel) rfl rfl (Nat.le_of_ble_eq_true rfl) dX0_init_42 (List.set_set ..) (fun H locs w9 hZ hP hD hS => ?_)
  subst hZ
  refine lv_aload_n hx hb dX0_init_45 rfl (lv_at hl 0 rfl) ?_
  refine lv_iconst (v := nI 0) hx hb dX0_init_46 (by decide) ?_
  refine x_put (D := D) (G := G) (ci := 1) (ty := .int) (C := RX0) (T := TX0) (N := 13) (Z := fun w => w = (wl.set k (q, .inr (1, [.int 0, .int (nI 1), .int (nI 0), .int (nI 10), .int (nI 0), .int (nI 0), .null, .int (nI 0), .int (nI 0), .int (nI 0), .int 0, .int 0, .int 0])))) hx hb hts inX0 tyX0 tyX0_ok nmX0 hown hK hP hD hS k (ws_eq hq) rfl 9 (by decide) (hts (.fieldLink RX0 38 "BootStage$Unit" "state" "I") (by decide +kernel)) (fun _ h9 => h9) rfl (by decide +kernel) rfl rfl (Nat.le_of_ble_eq_true rfl) dX0_init_47 (List.set_set ..) (fun H locs w9 hZ hP hD hS => ?_)
  subst hZ
  refine lv_aload_n hx hb dX0_init_50 rfl (lv_at hl 0 rfl) ?_
  refine lv_iconst (v := nI 0) hx hb dX0_init_51 (by decide) ?_
  refine x_put (D := D) (G := G) (ci := 1) (ty := .int) (C := RX0) (T := TX0) (N := 13) (Z := fun w => w = (wl.set k (q, .inr (1, [.int 0, .int (nI 1), .int (nI 0), .int (nI 10), .int (nI 0), .int (nI 0), .null, .int (nI 0), .int (nI 0), .int (nI 0), .int (nI 0), .int 0, .int 0])))) hx hb hts inX0 tyX0 tyX0_ok nmX0 hown hK hP hD hS k (ws_eq hq) rfl 10 (by decide) (hts (.fieldLink RX0 41 "BootStage$Unit" "ticksStarting" "I") (by decide +kernel)) (fun _ h9 => h9) rfl (by decide +kernel) rfl rfl (Nat.le_of_ble_eq_true rfl) dX0_init_52 (List.set_set ..) (fun H locs w9 hZ hP hD hS => ?_)
  subst hZ
  refine lv_aload_n hx hb dX0_init_55 rfl (lv_at hl 0 rfl) ?_
  refine lv_iconst (v := nI 0) hx hb dX0_init_56 (by decide) ?_
  refine x_put (D := D) (G := G) (ci := 1) (ty := .int) (C := RX0) (T := TX0) (N := 13) (Z := fun w => w = (wl.set k (q, .inr (1, [.int 0, .int (nI 1), .int (nI 0), .int (nI 10), .int (nI 0), .int (nI 0), .null, .int (nI 0), .int (nI 0), .int (nI 0), .int (nI 0), .int (nI 0), .int 0])))) hx hb hts inX0 tyX0 tyX0_ok nmX0 hown hK hP hD hS k (ws_eq hq) rfl 11 (by decide) (hts (.fieldLink RX0 44 "BootStage$Unit" "retriesUsed" "I") (by decide +kernel)) (fun _ h9 => h9) rfl (by decide +kernel) rfl rfl (Nat.le_of_ble_eq_true rfl) dX0_init_57 (List.set_set ..) (fun H locs w9 hZ hP hD hS => ?_)
  subst hZ
  refine lv_aload_n hx hb dX0_init_60 rfl (lv_at hl 0 rfl) ?_
  refine lv_iconst (v := nI 0) hx hb dX0_init_61 (by decide) ?_
  refine x_put (D := D) (G := G) (ci := 1) (ty := .int) (C := RX0) (T := TX0) (N := 13) (Z := fun w => w = (wl.set k (q, .inr (1, [.int 0, .int (nI 1), .int (nI 0), .int (nI 10), .int (nI 0), .int (nI 0), .null, .int (nI 0), .int (nI 0), .int (nI 0), .int (nI 0), .int (nI 0), .int (nI 0)])))) hx hb hts inX0 tyX0 tyX0_ok nmX0 hown hK hP hD hS k (ws_eq hq) rfl 12 (by decide) (hts (.fieldLink RX0 47 "BootStage$Unit" "learnedAtBegin" "I") (by decide +kernel)) (fun _ h9 => h9) rfl (by decide +kernel) rfl rfl (Nat.le_of_ble_eq_true rfl) dX0_init_62 (List.set_set ..) (fun H locs w9 hZ hP hD hS => ?_)
  subst hZ
  refine lv_aload_n hx hb dX0_init_65 rfl (lv_at hl 0 rfl) ?_
  refine lv_iload_n hx hb dX0_init_66 rfl (lv_at hl 1 rfl) ?_
  refine x_putF (D := D) (ci := 1) (ty := .int) (C := RX0) (T := TX0) (N := 13) (Z := fun w => w = (wl.set k (q, .inr (1, [.int (nI u), .int (nI 1), .int (nI 0), .int (nI 10), .int (nI 0), .int (nI 0), .null, .int (nI 0), .int (nI 0), .int (nI 0), .int (nI 0), .int (nI 0), .int (nI 0)])))) hx hb hts inX0 tyX0 tyX0_ok nmX0 hown hK hP hD hS k (ws_eq hq) rfl 0 (by decide) (hts (.fieldLink RX0 50 "BootStage$Unit" "number" "I") (by decide +kernel)) (fun _ h9 => h9) rfl hin rfl (by decide +kernel) rfl rfl (Nat.le_of_ble_eq_true rfl) dX0_init_67 (List.set_set ..) (fun H locs w9 hZ hP hD hS => ?_)
  subst hZ
  exact W.vret hx hb hr (fun t ht hW => ⟨⟨(), rfl, trivial, Ww_mk hP hD ht⟩, hS.F ht⟩) hS.2.2 dX0_init_70
set_option maxHeartbeats 4000000 in
set_option maxRecDepth 100000 in
theorem k_JC_init (l : Launch) (D : va_G) (G : Nat → Nat) (h0 : Nat) (wl : va_W) (q : Nat) : Met l yJxa1e45_init_da8c8 wsJxa1e45_init_da8c8 ({ frames := 1, cells := 0, slots := 0, locals := 12 } : Room) (va_Pc [.ref q] (fun U => Pw D G h0 wl U)) (va_Qv (fun (_ : Unit) => True) (fun _ t => Ww D h0 wl t) (fun q => h0 ≤ q)) 0 0 (fun q => h0 ≤ q) := by
  refine Met.ofW (cc := cJxa1e45_init_da8c8) (maxL := 1) (ret := none) (by decide) rfl ?_
  intro p e s m args below meth cd s₁ B hml hv
  obtain ⟨rfl, hE, hP, hD⟩ := hv
  have hx := B.exec
  have hb := B.bytes
  have hr := B.returns
  have hts := atoms_spec (ws := wsJxa1e45_init_da8c8) B.pre
  have hown : s.vm.findClass RJxa1e45 = some m.cls := findClass_of_methodNamed B.named
  have hlocks := B.notSynchronized
  have hK := hE.2.1
  have hin : meth.name = "<init>" := (name_of_methodNamed B.named B.method).1
  have hS : va_S (fun q => h0 ≤ q) s.heap s.heap [] := va_S.rf
  have hA : ∀ q : Nat, s.heap.size ≤ q → h0 ≤ q := fun q h => Nat.le_trans hE.1 h
  have hl := lv_entry ([.ref q]) (n := 1) (Nat.le_of_ble_eq_true rfl)
  rw [lg_entry_eq]
  generalize (lg_sl ([.ref q]) ++ List.replicate (1 - (lg_sl ([.ref q])).length) Slot.unset).toArray = ls at hl ⊢
  have hl : lv_has ls 1 [(0, .ref q)] := hl
  refine lv_aload_n hx hb dJxa1e45_init_da8c8_0 rfl (lv_at hl 0 rfl) ?_
  refine W.objInit hx hb hown (hts (.methodLink RJxa1e45 1 objectInit) (by decide +kernel)) (hts (.instanceMethod objectInit) (by decide +kernel)) (hts (.code objectInit ⟨#[0xb1]⟩ 1 none) (by decide +kernel)) rfl (by rw [hml]; exact hl.1) rfl dJxa1e45_init_da8c8_1 (Nat.le_of_ble_eq_true rfl) (Nat.le_of_ble_eq_true rfl) ?_
  refine W.eq (g2 := F0 m 4 ls []) rfl ?_
  exact W.vret hx hb hr (fun t ht hW => ⟨⟨(), rfl, trivial, Ww_mk hP hD ht⟩, hS.F ht⟩) hS.2.2 dJxa1e45_init_da8c8_4
set_option maxHeartbeats 4000000 in
set_option maxRecDepth 100000 in
theorem k_JL_init (l : Launch) (D : va_G) (G : Nat → Nat) (h0 : Nat) (wl : va_W) (k q : Nat) (hq : wl[k]? = some (q, .inr (0, [.int 0, .null, .int 0]))) : Met l yJxc12de_init_da8c8 wsJxc12de_init_da8c8 ({ frames := 2, cells := 0, slots := 0, locals := 32 } : Room) (va_Pc [.ref q] (fun U => Pw D G h0 wl U)) (va_Qv (fun (_ : Unit) => True) (fun _ t => Ww D h0 (wl.set k (q, .inr (0, [.int (nI 0), .null, .int 0]))) t) (fun q => h0 ≤ q)) 0 0 (fun q => h0 ≤ q) := by
  refine Met.ofW (cc := cJxc12de_init_da8c8) (maxL := 1) (ret := none) (by decide) rfl ?_
  intro p e s m args below meth cd s₁ B hml hv
  obtain ⟨rfl, hE, hP, hD⟩ := hv
  have hx := B.exec
  have hb := B.bytes
  have hr := B.returns
  have hts := atoms_spec (ws := wsJxc12de_init_da8c8) B.pre
  have hown : s.vm.findClass RJxc12de = some m.cls := findClass_of_methodNamed B.named
  have hlocks := B.notSynchronized
  have hK := hE.2.1
  have hin : meth.name = "<init>" := (name_of_methodNamed B.named B.method).1
  have hS : va_S (fun q => h0 ≤ q) s.heap s.heap [] := va_S.rf
  have hA : ∀ q : Nat, s.heap.size ≤ q → h0 ≤ q := fun q h => Nat.le_trans hE.1 h
  have hl := lv_entry ([.ref q]) (n := 1) (Nat.le_of_ble_eq_true rfl)
  rw [lg_entry_eq]
  generalize (lg_sl ([.ref q]) ++ List.replicate (1 - (lg_sl ([.ref q])).length) Slot.unset).toArray = ls at hl ⊢
  have hl : lv_has ls 1 [(0, .ref q)] := hl
  have inJx4a65c : ∀ w ∈ wsJx4a65c0, w ∈ wsJxc12de_init_da8c8 := by decide +kernel
  refine lv_aload_n hx hb dJxc12de_init_da8c8_0 rfl (lv_at hl 0 rfl) ?_
  refine w_callv (va_runI (As := []) (rest := []) ⟨hx, hb, hml, hown, hts⟩ (k_JC_init l D G h0 wl q) (cwI 0 hts gJxc12de_init_da8c8_Jxa1e45_init_da8c8 rfl rfl rfl (hts (.initialized RJxa1e45) (by decide +kernel)) (hts (.methodLink RJxc12de 1 yJxa1e45_init_da8c8) (by decide +kernel)) (hts (.instanceMethod yJxa1e45_init_da8c8) (by decide +kernel)) rfl (by decide +kernel) ⟨(Nat.le_of_ble_eq_true rfl), (Nat.le_of_ble_eq_true rfl)⟩) ⟨fun a U g mk q => ⟨q.1, Pw_cg q.2⟩, fun U hU hW => ⟨rfl, Pw_mk hE hP hD hS hU hW⟩⟩ rfl rfl hl.1 rfl (lv_room (Nat.le_of_ble_eq_true rfl)) dJxc12de_init_da8c8_1 ⟨(Nat.le_of_ble_eq_true rfl), (Nat.le_of_ble_eq_true rfl)⟩) hS (fun H locs hP hD hS => ?_)
  refine lv_aload_n hx hb dJxc12de_init_da8c8_4 rfl (lv_at hl 0 rfl) ?_
  refine lv_iconst (v := nI 0) hx hb dJxc12de_init_da8c8_5 (by decide) ?_
  refine x_put (D := D) (G := G) (ci := 0) (ty := .int) (C := RJx4a65c) (T := TJx4a65c) (N := 3) (Z := fun w => w = (wl.set k (q, .inr (0, [.int (nI 0), .null, .int 0])))) hx hb hts inJx4a65c tyJx4a65c tyJx4a65c_ok nmJx4a65c hown hK hP hD hS k hq rfl 0 (by decide) (hts (.fieldLink RJxc12de 7 "java/util/AbstractList" "modCount" "I") (by decide +kernel)) (fun _ h9 => h9) rfl (by decide +kernel) rfl rfl (Nat.le_of_ble_eq_true rfl) dJxc12de_init_da8c8_6 rfl (fun H locs w9 hZ hP hD hS => ?_)
  subst hZ
  exact W.vret hx hb hr (fun t ht hW => ⟨⟨(), rfl, trivial, Ww_mk hP hD ht⟩, hS.F ht⟩) hS.2.2 dJxc12de_init_da8c8_9
set_option maxHeartbeats 4000000 in
set_option maxRecDepth 100000 in
theorem k_JA_init (l : Launch) (D : va_G) (G : Nat → Nat) (h0 : Nat) (wl : va_W) (k q : Nat) (hq : wl[k]? = some (q, .inr (0, [.int 0, .null, .int 0]))) : Met l yJx4a65c_init_da8c8 wsJx4a65c_init_da8c8 ({ frames := 3, cells := 0, slots := 0, locals := 52 } : Room) (va_Pc [.ref q] (fun U => Pw D G h0 wl U)) (va_Qv (fun (_ : Unit) => True) (fun _ t => Ww D h0 (wl.set k (q, .inr (0, [.int (nI 0), .ref (G 70), .int 0]))) t) (fun q => h0 ≤ q)) 0 0 (fun q => h0 ≤ q) := by
  refine Met.ofW (cc := cJx4a65c_init_da8c8) (maxL := 1) (ret := none) (by decide) rfl ?_
  intro p e s m args below meth cd s₁ B hml hv
  obtain ⟨rfl, hE, hP, hD⟩ := hv
  have hx := B.exec
  have hb := B.bytes
  have hr := B.returns
  have hts := atoms_spec (ws := wsJx4a65c_init_da8c8) B.pre
  have hown : s.vm.findClass RJx4a65c = some m.cls := findClass_of_methodNamed B.named
  have hlocks := B.notSynchronized
  have hK := hE.2.1
  have hin : meth.name = "<init>" := (name_of_methodNamed B.named B.method).1
  have hS : va_S (fun q => h0 ≤ q) s.heap s.heap [] := va_S.rf
  have hA : ∀ q : Nat, s.heap.size ≤ q → h0 ≤ q := fun q h => Nat.le_trans hE.1 h
  have hl := lv_entry ([.ref q]) (n := 1) (Nat.le_of_ble_eq_true rfl)
  rw [lg_entry_eq]
  generalize (lg_sl ([.ref q]) ++ List.replicate (1 - (lg_sl ([.ref q])).length) Slot.unset).toArray = ls at hl ⊢
  have hl : lv_has ls 1 [(0, .ref q)] := hl
  have inJx4a65c : ∀ w ∈ wsJx4a65c0, w ∈ wsJx4a65c_init_da8c8 := by decide +kernel
  refine lv_aload_n hx hb dJx4a65c_init_da8c8_0 rfl (lv_at hl 0 rfl) ?_
  refine w_callv (va_runI (As := []) (rest := []) ⟨hx, hb, hml, hown, hts⟩ (k_JL_init l D G h0 wl k q hq) (cwI 0 hts gJx4a65c_init_da8c8_Jxc12de_init_da8c8 rfl rfl rfl (hts (.initialized RJxc12de) (by decide +kernel)) (hts (.methodLink RJx4a65c 1 yJxc12de_init_da8c8) (by decide +kernel)) (hts (.instanceMethod yJxc12de_init_da8c8) (by decide +kernel)) rfl (by decide +kernel) ⟨(Nat.le_of_ble_eq_true rfl), (Nat.le_of_ble_eq_true rfl)⟩) ⟨fun a U g mk q => ⟨q.1, Pw_cg q.2⟩, fun U hU hW => ⟨rfl, Pw_mk hE hP hD hS hU hW⟩⟩ rfl rfl hl.1 rfl (lv_room (Nat.le_of_ble_eq_true rfl)) dJx4a65c_init_da8c8_1 ⟨(Nat.le_of_ble_eq_true rfl), (Nat.le_of_ble_eq_true rfl)⟩) hS (fun H locs hP hD hS => ?_)
  refine lv_aload_n hx hb dJx4a65c_init_da8c8_4 rfl (lv_at hl 0 rfl) ?_
  refine va_gets hx hb hE.2.2.2.1 hS hown (hts (.fieldLink RJx4a65c 39 "java/util/ArrayList" "DEFAULTCAPACITY_EMPTY_ELEMENTDATA" "[Ljava/lang/Object;") (by decide +kernel)) (fun _ h9 => h9) dJx4a65c_init_da8c8_5 ?_
  refine x_put (D := D) (G := G) (ci := 0) (ty := .array (.object "java/lang/Object")) (C := RJx4a65c) (T := TJx4a65c) (N := 3) (Z := fun w => w = (wl.set k (q, .inr (0, [.int (nI 0), .ref (G 70), .int 0])))) hx hb hts inJx4a65c tyJx4a65c tyJx4a65c_ok nmJx4a65c hown hK hP hD hS k (ws_eq hq) rfl 1 (by decide) (hts (.fieldLink RJx4a65c 9 "java/util/ArrayList" "elementData" "[Ljava/lang/Object;") (by decide +kernel)) (fun _ h9 => h9) rfl (by decide +kernel) rfl rfl (Nat.le_of_ble_eq_true rfl) dJx4a65c_init_da8c8_8 (List.set_set ..) (fun H locs w9 hZ hP hD hS => ?_)
  subst hZ
  exact W.vret hx hb hr (fun t ht hW => ⟨⟨(), rfl, trivial, Ww_mk hP hD ht⟩, hS.F ht⟩) hS.2.2 dJx4a65c_init_da8c8_11
