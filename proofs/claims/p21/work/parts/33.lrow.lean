/-! ROWS for the law's methods -/
theorem bit_bN {a u : Nat} : a / 2 ^ u &&& 1 = bN (a.testBit u = true) := by
  rcases Classical.em (a.testBit u = true) with h | h
  · rw [bN_t h]; exact bit1.mpr h
  · rw [bN_f h]; exact bit0.mpr h
theorem nI_ge0 {a : Nat} (h : a < 2 ^ 31) : (0 : Int32) ≤ nI a := Int32.not_lt.mp (nI_pos h)
theorem neg_ge : ¬ (0 : Int32) ≤ -1 := by decide
section LR
variable {p : Program} {l : Launch} {e : Env} {R : Room} {s : State} {m : MethodId} {args : Array Value} {below : List Frame} {meth : Method} {cd : Code} {H : Heap} {locs : List Loc} {cells slots : Nat} {Q : State → Prop}
variable {cc : ByteArray} {pc : Nat} {ls : Array Slot} {rest : List Value} {a b : Nat} {P : Prop}
theorem n_bitt (hexec : p.tables.exec = Jvm.exec) (hb : cd.code = cc) (hdg : decode cc pc = .ok (.iand, 1)) {u : Nat} (k : W p l e R s m args below meth cd H locs cells slots Q (F0 m (pc + 1) ls (.int (nI (bN (a.testBit u = true))) :: rest))) : W p l e R s m args below meth cd H locs cells slots Q (F0 m pc ls (.int (nI 1) :: .int (nI (a / 2 ^ u)) :: rest)) :=
  n_iand hexec hb hdg (by rw [bit_bN]; exact k)
theorem n_icmpb_eq (hexec : p.tables.exec = Jvm.exec) (hb : cd.code = cc) {off : Int} {tgt : Nat} (hdg : decode cc pc = .ok (.if_icmp .eq off, 3)) (ht : (pc : Int) + off = (tgt : Int))
    (kt : P → W p l e R s m args below meth cd H locs cells slots Q (F0 m tgt ls rest)) (kf : ¬ P → W p l e R s m args below meth cd H locs cells slots Q (F0 m (pc + 3) ls rest)) : W p l e R s m args below meth cd H locs cells slots Q (F0 m pc ls (.int (nI 1) :: .int (nI (bN P)) :: rest)) :=
  n_icmp_eq hexec hb hdg ht (Nat.lt_of_le_of_lt (bN_le P) (by decide)) (by decide) (fun c => kt (bN_1.mp c)) (fun c => kf (fun z => c (bN_t z)))
theorem n_icmpb_ne (hexec : p.tables.exec = Jvm.exec) (hb : cd.code = cc) {off : Int} {tgt : Nat} (hdg : decode cc pc = .ok (.if_icmp .ne off, 3)) (ht : (pc : Int) + off = (tgt : Int))
    (kt : ¬ P → W p l e R s m args below meth cd H locs cells slots Q (F0 m tgt ls rest)) (kf : P → W p l e R s m args below meth cd H locs cells slots Q (F0 m (pc + 3) ls rest)) : W p l e R s m args below meth cd H locs cells slots Q (F0 m pc ls (.int (nI 1) :: .int (nI (bN P)) :: rest)) :=
  n_icmp_ne hexec hb hdg ht (Nat.lt_of_le_of_lt (bN_le P) (by decide)) (by decide) (fun c => kt (fun z => c (bN_t z))) (fun c => kf (bN_1.mp c))
theorem x_lcmp (hexec : p.tables.exec = Jvm.exec) (hb : cd.code = cc) {a b : Int64} (hab : a = b) (hdg : decode cc pc = .ok (.lcmp, 1)) (k : W p l e R s m args below meth cd H locs cells slots Q (F0 m (pc + 1) ls (.int 0 :: rest))) : W p l e R s m args below meth cd H locs cells slots Q (F0 m pc ls (.long b :: .long a :: rest)) := by
  subst hab
  intro T hT X
  obtain ⟨t, x, y⟩ := k T hT X
  refine ⟨t, ?_, y⟩
  jvm_step X.here [X.here.top, hexec, hb, hdg]
  simpa using x
variable {D : va_G} {G : Nat → Nat} {h0 : Nat} {c r : Nat → Nat → Nat} {o : Nat} {wl : va_W} {A : Nat → Prop} {H0 : Heap}
variable {mc ms mcc msc : Nat} {free : Addr → Prop} {st0 : List Value} {av : Array Value} {PX : String → Prop}
theorem y_calll {S : Type} {post : Int64 → S → Prop} {cf rf : S → Nat → Nat → Nat} {of : S → Nat} (hr : va_Run p l e R s m args below meth cd H locs cells slots mc ms (F0 m pc ls st0) rest (va_Ql post (fun u t => Wr D G h0 (cf u) (rf u) (of u) t) (fun q => h0 ≤ q) av) (fun q => h0 ≤ q)) (hS : va_S (fun q => h0 ≤ q) H0 H locs)
    (kk : ∀ (v : Int64) (u : S) (H1 : Heap) (locs1 : List Loc) (wl1 : va_W), post v u → Rc G (cf u) wl1 → Rr G (rf u) wl1 → Ro G (of u) wl1 → va_P D vwCl wl1 H1 → va_D (fun q => h0 ≤ q) wl1 → va_S (fun q => h0 ≤ q) H0 H1 locs1 → W p l e R s m args below meth cd H1 locs1 (cells + mc) (slots + ms) Q (F0 m (pc + 3) ls (.long v :: rest))) : W p l e R s m args below meth cd H locs cells slots Q (F0 m pc ls st0) :=
  va_calll hr hS (fun _ _ h => h) (fun _ h => h) (fun v u t H1 locs1 ht _ hp hB _ _ hS1 => by
    obtain ⟨wl1, b1, b2, b3, b4, b5⟩ := hB
    rw [ht] at b4
    exact kk v u H1 locs1 wl1 hp b1 b2 b3 b4 b5 hS1)
theorem yx_tryi {S : Type} {post : Int32 → S → Prop} {cf rf : S → Nat → Nat → Nat} {of : S → Nat} (hr : vx_Run p l e R s m args below meth cd H locs cells slots mcc msc (F0 m pc ls st0) rest (va_Qi post (fun u t => Wr D G h0 (cf u) (rf u) (of u) t) (fun q => h0 ≤ q) av) (xw D G h0 c r o PX) (fun q => h0 ≤ q)) (hS : va_S (fun q => h0 ≤ q) s.heap H locs)
    (kx : ∀ (E : String) (ce : Cell) (q9 : Addr) (H1 : Heap) (locs1 : List Loc) (wl1 : va_W), PX E → Rc G c wl1 → Rr G r wl1 → Ro G o wl1 → va_P D vwCl wl1 H1 → va_D (fun q => h0 ≤ q) wl1 → va_S (fun q => h0 ≤ q) s.heap H1 locs1 → H1[q9]? = some ce → ce.vm = .none → s.vm.findClass E = some ce.cls → vx_W p l e R s m args below meth cd H1 locs1 (cells + mcc) (slots + msc) Q (F0 m pc ls rest) q9)
    (kk : ∀ (v : Int32) (u : S) (H1 : Heap) (locs1 : List Loc) (wl1 : va_W), post v u → Rc G (cf u) wl1 → Rr G (rf u) wl1 → Ro G (of u) wl1 → va_P D vwCl wl1 H1 → va_D (fun q => h0 ≤ q) wl1 → va_S (fun q => h0 ≤ q) s.heap H1 locs1 → W p l e R s m args below meth cd H1 locs1 (cells + mcc) (slots + msc) Q (F0 m (pc + 3) ls (.int v :: rest))) : W p l e R s m args below meth cd H locs cells slots Q (F0 m pc ls st0) :=
  vx_calli hr hS (fun _ _ h => h) (fun _ h => h) (fun _ _ h => h) (fun E ce q9 u t H1 locs1 ht _ _ hB _ _ hS1 hce hcv hcl => by
    obtain ⟨hpx, wl1, b1, b2, b3, b4, b5⟩ := hB
    rw [ht] at b4
    exact kx E ce q9 H1 locs1 wl1 hpx b1 b2 b3 b4 b5 hS1 hce hcv hcl) (fun v u t H1 locs1 ht _ hp hB _ _ hS1 => by
    obtain ⟨wl1, b1, b2, b3, b4, b5⟩ := hB
    rw [ht] at b4
    exact kk v u H1 locs1 wl1 hp b1 b2 b3 b4 b5 hS1)
end LR
theorem va_SW {p : Program} {l : Launch} {e : Env} {R : Room} {s : State} {m : MethodId} {args : Array Value} {below : List Frame} {meth : Method} {c : Code} {H : Heap} {locs : List Loc} {cells slots : Nat} {y : MethodName} {bytes cc : ByteArray} {maxL nL mc ms n index : Nat} {ret : Option FieldType} {hh : List (Nat × Nat × Nat × Nat)} {ws : List Cond} {rm : Room} {Pc : Array Value → State → Prop} {Qc : Array Value → State → Outcome → State → Prop} {free : Addr → Prop} {Ts : List Cond} {own : String} {As rest : List Value} {g : JFrame}
    (hx : p.tables.exec = Jvm.exec) (hb : c.code = cc) (hml : c.maxLocals = nL) (hown : s.vm.findClass own = some m.cls) (hts : ∀ w ∈ Ts, w.before args s = true) (hM : Met l y ws rm Pc Qc mc ms free) (cw : vx_CSW R s args own index y bytes maxL ret hh ws rm mc ms n) (h1 : FrameBlind Pc) (h2 : ∀ U : State, U.heap = H → s.WarmedH U.vm → Pc As.toArray U)
    (hn : As.length = n) (hsize : g.locals.size = nL) (hstack : g.stack = As.reverse ++ rest) (hW : 2 * g.monitorRoom + (rest.map fun v => v.category).sum ≤ 8) (hdg : decode cc g.pc = .ok (.invokestatic index, 3)) (hf1 : cells + mc ≤ R.cells) (hf2 : slots + ms ≤ R.slots) (hg : g.method = m := by rfl) :
    va_Run p l e R s m args below meth c H locs cells slots mc ms g rest (Qc As.toArray) free :=
  vx_runSW ⟨hx, hb, hml, hown, hts⟩ hM cw ⟨h1, h2⟩ hg hn hsize hstack hW hdg ⟨hf1, hf2⟩
