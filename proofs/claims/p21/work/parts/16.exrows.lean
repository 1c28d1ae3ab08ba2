/-! METHODS THAT THROW -/
abbrev exN : List String := ["java/lang/RuntimeException", "java/lang/Exception"]
abbrev exB (cls : String) : List Cond := [.declares (Bundle.initS "java/lang/RuntimeException"), .declares (Bundle.initS "java/lang/Exception"), .declares (Bundle.initS Bundle.tN), .castable cls cls]
/-- what a throw leaves: the class by its name as PX has it, the world as it was -/
def xw (D : va_G) (G : Nat → Nat) (h0 : Nat) (c r : Nat → Nat → Nat) (o : Nat) (PX : String → Prop) : String → State → State → Prop := vx_X (fun _ : Unit => True) (fun E _ t => PX E ∧ Wr D G h0 c r o t) (fun q => h0 ≤ q)
section XR
variable {p : Program} {l : Launch} {e : Env} {R : Room} {s : State} {m : MethodId} {args : Array Value} {below : List Frame} {meth : Method} {cd : Code} {H : Heap} {locs : List Loc} {cells slots : Nat} {Q : State → Prop}
variable {cc : ByteArray} {pc : Nat} {ls : Array Slot} {rest : List Value}
variable {D : va_G} {G : Nat → Nat} {h0 : Nat} {c r : Nat → Nat → Nat} {o : Nat} {wl : va_W} {Qc : Array Value → State → Outcome → State → Prop} {mc ms : Nat}
theorem x_throw (hexec : p.tables.exec = Jvm.exec) (hb : cd.code = cc) (hl : l.stackTraces = false) {cls text : String} {ik is ic sa : Nat} (hown : s.vm.findClass RX2 = some m.cls) (hcls : Bundle.fit cls = true)
    (hk : (Cond.classLink RX2 ik cls).before args s = true) (hini : (Cond.initialized cls).before args s = true) (hstr : vk_R RX2 is text sa s)
    (hgw : ∀ w ∈ (vx_atS RX2 ic cls exN).filter goodWord, w.before args s = true) (hbw : ∀ w ∈ (vx_atS RX2 ic cls exN).filter (fun w => !goodWord w), w ∈ exB cls)
    (hgood : ∀ w ∈ Cond.classLink RX2 ik cls :: Cond.initialized cls :: vx_atS RX2 ic cls exN, vx_ot w = true)
    (hE : Ev D G h0 s) (hca : va_Nw (.castable cls cls) s) (hS : va_S (fun q => h0 ≤ q) s.heap H locs) (hsize : ls.size = cd.maxLocals)
    (d0 : decode cc pc = .ok (.new ik, 3)) (d3 : decode cc (pc + 3) = .ok (.dup, 1)) (d4 : decode cc (pc + 4) = .ok (.ldc is, 2)) (d6 : decode cc (pc + 6) = .ok (.invokespecial ic, 3)) (d9 : decode cc (pc + 9) = .ok (.athrow, 1))
    (hout : ∀ x ∈ cd.exceptionTable.toList, False) (hlocks : meth.locks = false) (hRf : 5 < R.frames) (hRl : (rest.map fun v => v.category).sum + 82 ≤ R.locals) (hRc1 : cells + 1 ≤ R.cells) (hRs : slots + 6 ≤ R.slots)
    (hRc : Rc G c wl) (hRr : Rr G r wl) (hRo : Ro G o wl) (hP : va_P D vwCl wl H) (hD : va_D (fun q => h0 ≤ q) wl) {PX : String → Prop} (hpx : PX cls) (hc : cells + 1 ≤ mc) (hs : slots + 6 ≤ ms) :
    W p l e R s m args below meth cd H locs cells slots (vx_MQ below Qc (xw D G h0 c r o PX) args s mc ms (fun q => h0 ≤ q)) (F0 m pc ls rest) := by
  obtain ⟨z1, z2, -, ⟨w1, w2, w3, -⟩, -⟩ := hE.2.2.1
  have hat : ∀ w ∈ vx_atS RX2 ic cls exN, w.before args s = true := vx_hat hgw hbw (vx_c (va_Nw.use rfl w1) (vx_c (va_Nw.use rfl w2) (vx_c (va_Nw.use rfl w3) (vx_c (va_Nw.use rfl hca) vx_n))))
  exact vx_throwS (A := fun q => h0 ≤ q) hexec hb hl hown hcls (by decide +kernel) hk hini hstr hat hgood z1 z2 hS hsize d0 d3 d4 d6 d9 (fun x hx => (hout x hx).elim) hRf hRl hRc1 hRs hlocks
    (fun t _ hz hq => ⟨(), trivial, ⟨hpx, wl, hRc, hRr, hRo, hP.kept (fun k q hkq => hq q.1 (hP k q hkq).lt), hD⟩, Nat.le_trans hS.1 hz, fun q h1 h2 => (hq q (Nat.lt_of_lt_of_le h1 hS.1)).trans (hS.2.1 q h1 h2)⟩) hS.2.2 hc hs
variable {mcc msc : Nat} {st0 : List Value} {av : Array Value} {PX PXc : String → Prop}
theorem yx_out (hout : ∀ x ∈ cd.exceptionTable.toList, False) (hlocks : meth.locks = false) {E : String} {ce : Cell} {q9 : Addr} {t : State} {H1 : Heap} {locs1 : List Loc} (ht : t.heap = H1) (hB : PX E ∧ Wr D G h0 c r o t) (hS1 : va_S (fun q => h0 ≤ q) s.heap H1 locs1) (hce : H1[q9]? = some ce) (hcv : ce.vm = .none) (hcl : s.vm.findClass E = some ce.cls) (hpx : ∀ E, PX E → PXc E) (hc : cells ≤ mc) (hs : slots ≤ ms) :
    vx_W p l e R s m args below meth cd H1 locs1 cells slots (vx_MQ below Qc (xw D G h0 c r o PXc) args s mc ms (fun q => h0 ≤ q)) (F0 m pc ls rest) q9 :=
  vx_out (fun x hx => (hout x hx).elim) hlocks hce hcv hcl (fun t' ht' _ => ⟨(), trivial, ⟨hpx E hB.1, by
    obtain ⟨wl1, b1, b2, b3, b4, b5⟩ := hB.2
    rw [ht] at b4
    exact Wr_mk b1 b2 b3 b4 b5 ht'⟩, hS1.F ht'⟩) hS1.2.2 hc hs
theorem yx_callv {S : Type} {post : S → Prop} {cf rf : S → Nat → Nat → Nat} {of : S → Nat} (hr : vx_Run p l e R s m args below meth cd H locs cells slots mcc msc (F0 m pc ls st0) rest (va_Qv post (fun u t => Wr D G h0 (cf u) (rf u) (of u) t) (fun q => h0 ≤ q) av) (xw D G h0 c r o PX) (fun q => h0 ≤ q)) (hS : va_S (fun q => h0 ≤ q) s.heap H locs) (hout : ∀ x ∈ cd.exceptionTable.toList, False) (hlocks : meth.locks = false) (hpx : ∀ E, PX E → PXc E) (hc : cells + mcc ≤ mc) (hs : slots + msc ≤ ms)
    (kk : ∀ (u : S) (H1 : Heap) (locs1 : List Loc) (wl1 : va_W), post u → Rc G (cf u) wl1 → Rr G (rf u) wl1 → Ro G (of u) wl1 → va_P D vwCl wl1 H1 → va_D (fun q => h0 ≤ q) wl1 → va_S (fun q => h0 ≤ q) s.heap H1 locs1 → W p l e R s m args below meth cd H1 locs1 (cells + mcc) (slots + msc) (vx_MQ below Qc (xw D G h0 c r o PXc) args s mc ms (fun q => h0 ≤ q)) (F0 m (pc + 3) ls rest)) : W p l e R s m args below meth cd H locs cells slots (vx_MQ below Qc (xw D G h0 c r o PXc) args s mc ms (fun q => h0 ≤ q)) (F0 m pc ls st0) :=
  vx_callv hr hS (fun _ _ h => h) (fun _ h => h) (fun _ _ h => h) (fun E ce q9 u t H1 locs1 ht _ _ hB _ _ hS1 hce hcv hcl => yx_out hout hlocks ht hB hS1 hce hcv hcl hpx hc hs) (fun u t H1 locs1 ht _ hp hB _ _ hS1 => by
    obtain ⟨wl1, b1, b2, b3, b4, b5⟩ := hB
    rw [ht] at b4
    exact kk u H1 locs1 wl1 hp b1 b2 b3 b4 b5 hS1)
theorem yx_callr {S : Type} {post : S → Prop} {ad : S → Nat} {cf rf : S → Nat → Nat → Nat} {of : S → Nat} (hr : vx_Run p l e R s m args below meth cd H locs cells slots mcc msc (F0 m pc ls st0) rest (va_Qr post (fun u a t => a = ad u ∧ Wr D G h0 (cf u) (rf u) (of u) t) (fun q => h0 ≤ q) av) (xw D G h0 c r o PX) (fun q => h0 ≤ q)) (hS : va_S (fun q => h0 ≤ q) s.heap H locs) (hout : ∀ x ∈ cd.exceptionTable.toList, False) (hlocks : meth.locks = false) (hpx : ∀ E, PX E → PXc E) (hc : cells + mcc ≤ mc) (hs : slots + msc ≤ ms)
    (kk : ∀ (u : S) (H1 : Heap) (locs1 : List Loc) (wl1 : va_W), post u → Rc G (cf u) wl1 → Rr G (rf u) wl1 → Ro G (of u) wl1 → va_P D vwCl wl1 H1 → va_D (fun q => h0 ≤ q) wl1 → va_S (fun q => h0 ≤ q) s.heap H1 locs1 → W p l e R s m args below meth cd H1 locs1 (cells + mcc) (slots + msc) (vx_MQ below Qc (xw D G h0 c r o PXc) args s mc ms (fun q => h0 ≤ q)) (F0 m (pc + 3) ls (.ref (ad u) :: rest))) : W p l e R s m args below meth cd H locs cells slots (vx_MQ below Qc (xw D G h0 c r o PXc) args s mc ms (fun q => h0 ≤ q)) (F0 m pc ls st0) := by
  intro T hT X
  rcases hr T hT X with ⟨v, st₀, t, T', L, h9, X', hL, e1, e2, ⟨⟨u, a, hv, hp, ha, hB⟩, hF⟩, st⟩ | ⟨q, st₀, t, T', L, E, ce, h9, X', hL, e1, e2, ⟨u, hp, hB, hF⟩, hce, hcv, hcl, st⟩
  · cases hv
    subst ha
    obtain ⟨wl1, b1, b2, b3, b4, b5⟩ := hB
    rw [← e1] at b4
    obtain ⟨k1, k2, k3⟩ := vx_keep h9 e1 hS (fun _ _ h => h) (fun _ h => h) hL hF
    obtain ⟨t2, a1, q1⟩ := kk u T'.heap (locs ++ L) wl1 hp b1 b2 b3 b4 b5 k3 T' rfl X'
    exact ⟨t2, st t2 a1, q1⟩
  · obtain ⟨k1, k2, k3⟩ := vx_keep h9 e1 hS (fun _ _ h => h) (fun _ h => h) hL hF
    obtain ⟨t2, a1, q1⟩ := yx_out (Qc := Qc) (mc := mc) (ms := ms) (PXc := PXc) (pc := pc) (ls := ls) (rest := rest) hout hlocks e1.symm hB k3 (by rw [e1]; exact hce) hcv hcl hpx hc hs T' rfl X'
    exact ⟨t2, st.trans a1, q1⟩
end XR
def inR (x : Int32) (lo hi : Nat) : Prop := ¬ x < nI lo ∧ x ≤ nI hi
theorem inR_nI {x : Int32} {lo hi : Nat} (h : inR x lo hi) (h1 : lo < 2 ^ 31) (h2 : hi < 2 ^ 31) : ∃ t, (lo ≤ t ∧ t ≤ hi) ∧ x = nI t := by
  obtain ⟨a, b⟩ := h
  have a1 : (nI lo).toInt ≤ x.toInt := by
    rw [Int32.lt_iff_toInt_lt] at a
    omega
  rw [nI_toInt h1] at a1
  obtain ⟨j, hj, e⟩ := nI_of (x := x) (by rw [Int32.lt_iff_toInt_lt]; show ¬ x.toInt < 0; omega)
  subst e
  rw [nI_toInt hj] at a1
  exact ⟨j, ⟨by omega, (nI_leI hj h2).mp b⟩, rfl⟩
theorem inR_of {t lo hi : Nat} (h1 : lo ≤ t) (h2 : t ≤ hi) (h : hi < 2 ^ 31) : inR (nI t) lo hi := ⟨nI_nlt h1 (by omega), nI_le h2 h⟩
def okU (c : Nat → Nat → Nat) (x : Int32) : Prop := ∃ j, j < c 20 1 ∧ x = nI j
