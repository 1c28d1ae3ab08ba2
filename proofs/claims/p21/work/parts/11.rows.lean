/-! ROWS OVER NUMBERS THAT ARE nI OF SOMETHING, and over the system's cells -/
theorem k_shc : ∀ n, n < 32 → ((nI n &&& 31).toBitVec.smod 32).toNat = n := by decide +kernel
theorem k_bit {u : Nat} (h : u < 31) : nI 1 <<< (nI u &&& 31) = nI (2 ^ u) := by
  have hp : 2 ^ u < 2 ^ 31 := Nat.pow_lt_pow_right (by decide) h
  have e := pk_shlN (n := 1) (nI u &&& 31) u (k_shc u (by omega)) (by rw [Nat.one_mul]; exact Nat.lt_trans hp (by decide))
  rw [Nat.one_mul] at e
  exact e
theorem k_shr {a u : Nat} (ha : a < 2 ^ 31) (h : u < 32) : nI a >>> (nI u &&& 31) = nI (a / 2 ^ u) := pk_shrN ha (nI u &&& 31) u (k_shc u h)
theorem k_or (a b : Nat) : nI a ||| nI b = nI (a ||| b) := by
  apply Int32.toBitVec_inj.mp
  show BitVec.ofNat 32 a ||| BitVec.ofNat 32 b = BitVec.ofNat 32 (a ||| b)
  apply BitVec.eq_of_toNat_eq
  simp only [BitVec.toNat_or, BitVec.toNat_ofNat]
  exact (Nat.or_mod_two_pow ..).symm
theorem k_and (a b : Nat) : nI a &&& nI b = nI (a &&& b) := by
  apply Int32.toBitVec_inj.mp
  show BitVec.ofNat 32 a &&& BitVec.ofNat 32 b = BitVec.ofNat 32 (a &&& b)
  apply BitVec.eq_of_toNat_eq
  simp only [BitVec.toNat_and, BitVec.toNat_ofNat]
  exact (Nat.and_mod_two_pow ..).symm
theorem k_xor (a b : Nat) : nI a ^^^ nI b = nI (a ^^^ b) := by
  apply Int32.toBitVec_inj.mp
  show BitVec.ofNat 32 a ^^^ BitVec.ofNat 32 b = BitVec.ofNat 32 (a ^^^ b)
  apply BitVec.eq_of_toNat_eq
  simp only [BitVec.toNat_xor, BitVec.toNat_ofNat]
  exact (Nat.xor_mod_two_pow ..).symm
/-- a without the bits of b -/
def anN (a b : Nat) : Nat := a ^^^ (a &&& b)
theorem anN_0 {a b : Nat} : anN a b = 0 ↔ ∀ i, a.testBit i = true → b.testBit i = true := by
  constructor
  · intro h i hi
    have h2 : (anN a b).testBit i = false := by rw [h]; exact Nat.zero_testBit i
    rw [anN, Nat.testBit_xor, Nat.testBit_and, hi] at h2
    cases hb : b.testBit i
    · rw [hb] at h2; simp at h2
    · rfl
  · intro h
    apply Nat.eq_of_testBit_eq
    intro i
    rw [Nat.zero_testBit, anN, Nat.testBit_xor, Nat.testBit_and]
    cases ha : a.testBit i
    · simp
    · rw [h i ha]; simp
theorem anN_lt {a b : Nat} (ha : a < 2 ^ 20) : anN a b < 2 ^ 20 := Nat.xor_lt_two_pow ha (Nat.lt_of_le_of_lt Nat.and_le_left ha)
theorem k_nand (a b : Nat) : nI a &&& (nI b ^^^ (-1)) = nI (anN a b) := by
  apply Int32.toBitVec_inj.mp
  show BitVec.ofNat 32 a &&& (BitVec.ofNat 32 b ^^^ (-1 : Int32).toBitVec) = BitVec.ofNat 32 (anN a b)
  have e : (-1 : Int32).toBitVec = BitVec.allOnes 32 := by decide
  rw [e]
  apply BitVec.eq_of_getLsbD_eq
  intro i hi
  simp only [BitVec.getLsbD_and, BitVec.getLsbD_xor, BitVec.getLsbD_ofNat, BitVec.getLsbD_allOnes, anN, Nat.testBit_xor, Nat.testBit_and, hi, decide_true, Bool.true_and, Bool.and_true]
  cases a.testBit i <;> cases b.testBit i <;> rfl
section NR
variable {p : Program} {l : Launch} {e : Env} {R : Room} {s : State} {m : MethodId} {args : Array Value} {below : List Frame} {meth : Method} {cd : Code} {H : Heap} {locs : List Loc} {cells slots : Nat} {Q : State → Prop}
variable {cc : ByteArray} {pc : Nat} {ls : Array Slot} {rest : List Value} {a b : Nat}
theorem n_icmp_lt (hexec : p.tables.exec = Jvm.exec) (hb : cd.code = cc) {off : Int} {tgt : Nat} (hdg : decode cc pc = .ok (.if_icmp .lt off, 3)) (ht : (pc : Int) + off = (tgt : Int)) (h1 : a < 2 ^ 31) (h2 : b < 2 ^ 31)
    (kt : a < b → W p l e R s m args below meth cd H locs cells slots Q (F0 m tgt ls rest)) (kf : b ≤ a → W p l e R s m args below meth cd H locs cells slots Q (F0 m (pc + 3) ls rest)) : W p l e R s m args below meth cd H locs cells slots Q (F0 m pc ls (.int (nI b) :: .int (nI a) :: rest)) :=
  lv_icmp_lt hexec hb hdg ht (fun c => kt ((nI_ltI h1 h2).mp c)) (fun c => kf (Nat.not_lt.mp (fun z => c ((nI_ltI h1 h2).mpr z))))
theorem n_icmp_ge (hexec : p.tables.exec = Jvm.exec) (hb : cd.code = cc) {off : Int} {tgt : Nat} (hdg : decode cc pc = .ok (.if_icmp .ge off, 3)) (ht : (pc : Int) + off = (tgt : Int)) (h1 : a < 2 ^ 31) (h2 : b < 2 ^ 31)
    (kt : b ≤ a → W p l e R s m args below meth cd H locs cells slots Q (F0 m tgt ls rest)) (kf : a < b → W p l e R s m args below meth cd H locs cells slots Q (F0 m (pc + 3) ls rest)) : W p l e R s m args below meth cd H locs cells slots Q (F0 m pc ls (.int (nI b) :: .int (nI a) :: rest)) :=
  lv_icmp_ge hexec hb hdg ht (fun c => kt ((nI_leI h2 h1).mp c)) (fun c => kf (Nat.not_le.mp (fun z => c ((nI_leI h2 h1).mpr z))))
theorem n_icmp_gt (hexec : p.tables.exec = Jvm.exec) (hb : cd.code = cc) {off : Int} {tgt : Nat} (hdg : decode cc pc = .ok (.if_icmp .gt off, 3)) (ht : (pc : Int) + off = (tgt : Int)) (h1 : a < 2 ^ 31) (h2 : b < 2 ^ 31)
    (kt : b < a → W p l e R s m args below meth cd H locs cells slots Q (F0 m tgt ls rest)) (kf : a ≤ b → W p l e R s m args below meth cd H locs cells slots Q (F0 m (pc + 3) ls rest)) : W p l e R s m args below meth cd H locs cells slots Q (F0 m pc ls (.int (nI b) :: .int (nI a) :: rest)) :=
  lv_icmp_gt hexec hb hdg ht (fun c => kt ((nI_ltI h2 h1).mp c)) (fun c => kf (Nat.not_lt.mp (fun z => c ((nI_ltI h2 h1).mpr z))))
theorem n_icmp_le (hexec : p.tables.exec = Jvm.exec) (hb : cd.code = cc) {off : Int} {tgt : Nat} (hdg : decode cc pc = .ok (.if_icmp .le off, 3)) (ht : (pc : Int) + off = (tgt : Int)) (h1 : a < 2 ^ 31) (h2 : b < 2 ^ 31)
    (kt : a ≤ b → W p l e R s m args below meth cd H locs cells slots Q (F0 m tgt ls rest)) (kf : b < a → W p l e R s m args below meth cd H locs cells slots Q (F0 m (pc + 3) ls rest)) : W p l e R s m args below meth cd H locs cells slots Q (F0 m pc ls (.int (nI b) :: .int (nI a) :: rest)) :=
  lv_icmp_le hexec hb hdg ht (fun c => kt ((nI_leI h1 h2).mp c)) (fun c => kf (Nat.not_le.mp (fun z => c ((nI_leI h1 h2).mpr z))))
theorem n_icmp_eq (hexec : p.tables.exec = Jvm.exec) (hb : cd.code = cc) {off : Int} {tgt : Nat} (hdg : decode cc pc = .ok (.if_icmp .eq off, 3)) (ht : (pc : Int) + off = (tgt : Int)) (h1 : a < 2 ^ 31) (h2 : b < 2 ^ 31)
    (kt : a = b → W p l e R s m args below meth cd H locs cells slots Q (F0 m tgt ls rest)) (kf : a ≠ b → W p l e R s m args below meth cd H locs cells slots Q (F0 m (pc + 3) ls rest)) : W p l e R s m args below meth cd H locs cells slots Q (F0 m pc ls (.int (nI b) :: .int (nI a) :: rest)) :=
  lv_icmp_eq hexec hb hdg ht (fun c => kt ((nI_eq h1 h2).mp c)) (fun c => kf (fun z => c ((nI_eq h1 h2).mpr z)))
theorem n_icmp_ne (hexec : p.tables.exec = Jvm.exec) (hb : cd.code = cc) {off : Int} {tgt : Nat} (hdg : decode cc pc = .ok (.if_icmp .ne off, 3)) (ht : (pc : Int) + off = (tgt : Int)) (h1 : a < 2 ^ 31) (h2 : b < 2 ^ 31)
    (kt : a ≠ b → W p l e R s m args below meth cd H locs cells slots Q (F0 m tgt ls rest)) (kf : a = b → W p l e R s m args below meth cd H locs cells slots Q (F0 m (pc + 3) ls rest)) : W p l e R s m args below meth cd H locs cells slots Q (F0 m pc ls (.int (nI b) :: .int (nI a) :: rest)) :=
  lv_icmp_ne hexec hb hdg ht (fun c => kt (fun z => c ((nI_eq h1 h2).mpr z))) (fun c => kf ((nI_eq h1 h2).mp c))
theorem n_z {a : Nat} (h : a < 2 ^ 31) : nI a = 0 ↔ a = 0 := ⟨fun c => (nI_eq h (by decide)).mp (c.trans nI_0.symm), fun c => by rw [c]; exact nI_0⟩
theorem n_p {a : Nat} (h : a < 2 ^ 31) : 0 < nI a ↔ 0 < a := by
  rw [← nI_0]
  exact nI_ltI (by decide) h
theorem n_if_eq (hexec : p.tables.exec = Jvm.exec) (hb : cd.code = cc) {off : Int} {tgt : Nat} (hdg : decode cc pc = .ok (.ifCond .eq off, 3)) (ht : (pc : Int) + off = (tgt : Int)) (h1 : a < 2 ^ 31)
    (kt : a = 0 → W p l e R s m args below meth cd H locs cells slots Q (F0 m tgt ls rest)) (kf : 0 < a → W p l e R s m args below meth cd H locs cells slots Q (F0 m (pc + 3) ls rest)) : W p l e R s m args below meth cd H locs cells slots Q (F0 m pc ls (.int (nI a) :: rest)) :=
  lv_if_eq hexec hb hdg ht (fun c => kt ((n_z h1).mp c)) (fun c => kf (Nat.pos_of_ne_zero (fun z => c ((n_z h1).mpr z))))
theorem n_if_ne (hexec : p.tables.exec = Jvm.exec) (hb : cd.code = cc) {off : Int} {tgt : Nat} (hdg : decode cc pc = .ok (.ifCond .ne off, 3)) (ht : (pc : Int) + off = (tgt : Int)) (h1 : a < 2 ^ 31)
    (kt : 0 < a → W p l e R s m args below meth cd H locs cells slots Q (F0 m tgt ls rest)) (kf : a = 0 → W p l e R s m args below meth cd H locs cells slots Q (F0 m (pc + 3) ls rest)) : W p l e R s m args below meth cd H locs cells slots Q (F0 m pc ls (.int (nI a) :: rest)) :=
  lv_if_ne hexec hb hdg ht (fun c => kt (Nat.pos_of_ne_zero (fun z => c ((n_z h1).mpr z)))) (fun c => kf ((n_z h1).mp c))
theorem n_if_gt (hexec : p.tables.exec = Jvm.exec) (hb : cd.code = cc) {off : Int} {tgt : Nat} (hdg : decode cc pc = .ok (.ifCond .gt off, 3)) (ht : (pc : Int) + off = (tgt : Int)) (h1 : a < 2 ^ 31)
    (kt : 0 < a → W p l e R s m args below meth cd H locs cells slots Q (F0 m tgt ls rest)) (kf : a = 0 → W p l e R s m args below meth cd H locs cells slots Q (F0 m (pc + 3) ls rest)) : W p l e R s m args below meth cd H locs cells slots Q (F0 m pc ls (.int (nI a) :: rest)) :=
  lv_if_gt hexec hb hdg ht (fun c => kt ((n_p h1).mp c)) (fun c => kf (Nat.eq_zero_of_not_pos (fun z => c ((n_p h1).mpr z))))
theorem n_if_le (hexec : p.tables.exec = Jvm.exec) (hb : cd.code = cc) {off : Int} {tgt : Nat} (hdg : decode cc pc = .ok (.ifCond .le off, 3)) (ht : (pc : Int) + off = (tgt : Int)) (h1 : a < 2 ^ 31)
    (kt : a = 0 → W p l e R s m args below meth cd H locs cells slots Q (F0 m tgt ls rest)) (kf : 0 < a → W p l e R s m args below meth cd H locs cells slots Q (F0 m (pc + 3) ls rest)) : W p l e R s m args below meth cd H locs cells slots Q (F0 m pc ls (.int (nI a) :: rest)) :=
  lv_if_le hexec hb hdg ht (fun c => kt (Nat.eq_zero_of_not_pos (fun z => by have h9 := (n_p h1).mpr z; rw [Int32.lt_iff_toInt_lt] at h9; rw [Int32.le_iff_toInt_le] at c; omega))) (fun c => kf (Nat.pos_of_ne_zero (fun z => c (by rw [z]; decide))))
theorem n_ifb_eq {P : Prop} (hexec : p.tables.exec = Jvm.exec) (hb : cd.code = cc) {off : Int} {tgt : Nat} (hdg : decode cc pc = .ok (.ifCond .eq off, 3)) (ht : (pc : Int) + off = (tgt : Int))
    (kt : ¬ P → W p l e R s m args below meth cd H locs cells slots Q (F0 m tgt ls rest)) (kf : P → W p l e R s m args below meth cd H locs cells slots Q (F0 m (pc + 3) ls rest)) : W p l e R s m args below meth cd H locs cells slots Q (F0 m pc ls (.int (nI (bN P)) :: rest)) :=
  n_if_eq hexec hb hdg ht (Nat.lt_of_le_of_lt (bN_le P) (by decide)) (fun c => kt (bN_0.mp c)) (fun c => kf (bN_1.mp (Nat.le_antisymm (bN_le P) c)))
theorem n_ifb_ne {P : Prop} (hexec : p.tables.exec = Jvm.exec) (hb : cd.code = cc) {off : Int} {tgt : Nat} (hdg : decode cc pc = .ok (.ifCond .ne off, 3)) (ht : (pc : Int) + off = (tgt : Int))
    (kt : P → W p l e R s m args below meth cd H locs cells slots Q (F0 m tgt ls rest)) (kf : ¬ P → W p l e R s m args below meth cd H locs cells slots Q (F0 m (pc + 3) ls rest)) : W p l e R s m args below meth cd H locs cells slots Q (F0 m pc ls (.int (nI (bN P)) :: rest)) :=
  n_if_ne hexec hb hdg ht (Nat.lt_of_le_of_lt (bN_le P) (by decide)) (fun c => kt (bN_1.mp (Nat.le_antisymm (bN_le P) c))) (fun c => kf (bN_0.mp c))
theorem n_iadd (hexec : p.tables.exec = Jvm.exec) (hb : cd.code = cc) (hdg : decode cc pc = .ok (.iadd, 1)) (k : W p l e R s m args below meth cd H locs cells slots Q (F0 m (pc + 1) ls (.int (nI (a + b)) :: rest))) : W p l e R s m args below meth cd H locs cells slots Q (F0 m pc ls (.int (nI b) :: .int (nI a) :: rest)) :=
  lv_iadd hexec hb hdg (by rw [nI_add]; exact k)
theorem n_isub (hexec : p.tables.exec = Jvm.exec) (hb : cd.code = cc) (hdg : decode cc pc = .ok (.isub, 1)) (h : b ≤ a) (k : W p l e R s m args below meth cd H locs cells slots Q (F0 m (pc + 1) ls (.int (nI (a - b)) :: rest))) : W p l e R s m args below meth cd H locs cells slots Q (F0 m pc ls (.int (nI b) :: .int (nI a) :: rest)) :=
  lv_isub hexec hb hdg (by rw [pk_sub h]; exact k)
theorem n_imul (hexec : p.tables.exec = Jvm.exec) (hb : cd.code = cc) (hdg : decode cc pc = .ok (.imul, 1)) (k : W p l e R s m args below meth cd H locs cells slots Q (F0 m (pc + 1) ls (.int (nI (a * b)) :: rest))) : W p l e R s m args below meth cd H locs cells slots Q (F0 m pc ls (.int (nI b) :: .int (nI a) :: rest)) :=
  lv_imul hexec hb hdg (by rw [pk_mul]; exact k)
theorem n_idiv (hexec : p.tables.exec = Jvm.exec) (hb : cd.code = cc) (hdg : decode cc pc = .ok (.idiv, 1)) (h1 : a < 2 ^ 31) (h0 : 0 < b) (h2 : b < 2 ^ 31) (k : W p l e R s m args below meth cd H locs cells slots Q (F0 m (pc + 1) ls (.int (nI (a / b)) :: rest))) : W p l e R s m args below meth cd H locs cells slots Q (F0 m pc ls (.int (nI b) :: .int (nI a) :: rest)) :=
  lv_idiv hexec hb hdg (nI_ne0 h0 h2) (by rw [pk_div h1 h0 h2]; exact k)
theorem n_irem (hexec : p.tables.exec = Jvm.exec) (hb : cd.code = cc) (hdg : decode cc pc = .ok (.irem, 1)) (h1 : a < 2 ^ 31) (h0 : 0 < b) (h2 : b < 2 ^ 31) (k : W p l e R s m args below meth cd H locs cells slots Q (F0 m (pc + 1) ls (.int (nI (a % b)) :: rest))) : W p l e R s m args below meth cd H locs cells slots Q (F0 m pc ls (.int (nI b) :: .int (nI a) :: rest)) :=
  lv_irem hexec hb hdg (nI_ne0 h0 h2) (by rw [pk_rem h1 h0 h2]; exact k)
theorem n_ior (hexec : p.tables.exec = Jvm.exec) (hb : cd.code = cc) (hdg : decode cc pc = .ok (.ior, 1)) (k : W p l e R s m args below meth cd H locs cells slots Q (F0 m (pc + 1) ls (.int (nI (a ||| b)) :: rest))) : W p l e R s m args below meth cd H locs cells slots Q (F0 m pc ls (.int (nI b) :: .int (nI a) :: rest)) :=
  lv_ior hexec hb hdg (by rw [k_or]; exact k)
theorem n_iand (hexec : p.tables.exec = Jvm.exec) (hb : cd.code = cc) (hdg : decode cc pc = .ok (.iand, 1)) (k : W p l e R s m args below meth cd H locs cells slots Q (F0 m (pc + 1) ls (.int (nI (a &&& b)) :: rest))) : W p l e R s m args below meth cd H locs cells slots Q (F0 m pc ls (.int (nI b) :: .int (nI a) :: rest)) :=
  lv_iand hexec hb hdg (by rw [k_and]; exact k)
theorem n_nand (hexec : p.tables.exec = Jvm.exec) (hb : cd.code = cc) (hdg : decode cc pc = .ok (.iand, 1)) (k : W p l e R s m args below meth cd H locs cells slots Q (F0 m (pc + 1) ls (.int (nI (anN a b)) :: rest))) : W p l e R s m args below meth cd H locs cells slots Q (F0 m pc ls (.int (nI b ^^^ (-1)) :: .int (nI a) :: rest)) :=
  lv_iand hexec hb hdg (by rw [k_nand]; exact k)
theorem n_bit (hexec : p.tables.exec = Jvm.exec) (hb : cd.code = cc) (hdg : decode cc pc = .ok (.ishl, 1)) (h : b < 31) (k : W p l e R s m args below meth cd H locs cells slots Q (F0 m (pc + 1) ls (.int (nI (2 ^ b)) :: rest))) : W p l e R s m args below meth cd H locs cells slots Q (F0 m pc ls (.int (nI b) :: .int (nI 1) :: rest)) :=
  lv_ishl hexec hb hdg (by rw [k_bit h]; exact k)
theorem n_ishr (hexec : p.tables.exec = Jvm.exec) (hb : cd.code = cc) (hdg : decode cc pc = .ok (.ishr, 1)) (h1 : a < 2 ^ 31) (h : b < 32) (k : W p l e R s m args below meth cd H locs cells slots Q (F0 m (pc + 1) ls (.int (nI (a / 2 ^ b)) :: rest))) : W p l e R s m args below meth cd H locs cells slots Q (F0 m pc ls (.int (nI b) :: .int (nI a) :: rest)) :=
  lv_ishr hexec hb hdg (by rw [k_shr h1 h]; exact k)
/-- a value on top by another name -/
theorem n_top {x y : Value} (h : x = y) (k : W p l e R s m args below meth cd H locs cells slots Q (F0 m pc ls (y :: rest))) : W p l e R s m args below meth cd H locs cells slots Q (F0 m pc ls (x :: rest)) := by
  subst h
  exact k
variable {D : va_G} {G : Nat → Nat} {h0 : Nat} {c r : Nat → Nat → Nat} {o : Nat} {wl : va_W} {A : Nat → Prop} {H0 : Heap}
theorem x_put (hexec : p.tables.exec = Jvm.exec) (hb : cd.code = cc) {own ref C : String} {T : u_T} {N ci index ad : Nat} {Ts : List Cond} (hts : ∀ w ∈ Ts, w.before args s = true) (hin : ∀ w ∈ u_ws C T N, w ∈ Ts) (ty0 : Nat → FieldType) (hty : ∀ k, k < N → parseFieldDescriptor (T k).2.2.1 = some (ty0 k)) (hnm : ∀ a, a < N → ∀ b, b < N → a ≠ b → (T a).2.1 ≠ (T b).2.1) (hown : s.vm.findClass own = some m.cls) (hK : va_K D vwCl (tyL G) s) (hP : va_P D vwCl wl H) (hD : va_D A wl) (hS0 : va_S A H0 H locs) (q0 : Nat) {fs : List Value} (he : wl[q0]? = some (ad, .inr (ci, fs))) (hc : vwCl[ci]? = some (C, T, N)) (k : Nat) (hk : k < N) (hlink : (Cond.fieldLink own index ref (T k).2.1 (T k).2.2.1).before args s = true) (hsame : ∀ x, s.fieldFound? (T k).1 (T k).2.1 (T k).2.2.1 = some x → s.fieldFound? ref (T k).2.1 (T k).2.2.1 = some x) (hfin : (T k).2.2.2 = false) {ty : FieldType} {v : Value} (hd : parseFieldDescriptor (T k).2.2.1 = some ty) (hn : narrow ty v = v) (hfit : fits ty v = true) (hl : k < fs.length) (hdg : decode cc pc = .ok (.putfield index, 3))
    {Z : va_W → Prop} (hZ : Z (wl.set q0 (ad, .inr (ci, fs.set k v)))) (kk : ∀ (H1 : Heap) (locs1 : List Loc) (wl1 : va_W), Z wl1 → va_P D vwCl wl1 H1 → va_D A wl1 → va_S A H0 H1 locs1 → W p l e R s m args below meth cd H1 locs1 cells slots Q (F0 m (pc + 3) ls rest)) : W p l e R s m args below meth cd H locs cells slots Q (F0 m pc ls (v :: .ref ad :: rest)) :=
  va_put hexec hb hts hin ty0 hty hnm hown hK hP hD hS0 q0 he hc k hk hlink hsame hfin hd hn hfit hl hdg (fun H1 locs1 h1 h2 h3 => kk H1 locs1 _ hZ h1 h2 h3)
theorem x_iald (hexec : p.tables.exec = Jvm.exec) (hb : cd.code = cc) (hK : va_K D vwCl (tyL G) s) (hP : va_P D vwCl wl H) (q0 : Nat) {n ad i : Nat} {f : Nat → Int32} (he : wl[q0]? = some (ad, .inl (G 62, n, .inl f))) (hi : i < n) (hn : n < 2 ^ 31) (hdg : decode cc pc = .ok (.iaload, 1)) {v : Int32} (hv : f i = v)
    (kk : W p l e R s m args below meth cd H locs cells slots Q (F0 m (pc + 1) ls (.int v :: rest))) : W p l e R s m args below meth cd H locs cells slots Q (F0 m pc ls (.int (nI i) :: .ref ad :: rest)) :=
  va_iald hexec hb hK hP q0 2 he rfl (vp_in_nI hi hn) hdg (by rw [nI_clamp (Nat.lt_trans hi hn), hv]; exact kk)
theorem x_iast (hexec : p.tables.exec = Jvm.exec) (hb : cd.code = cc) (hK : va_K D vwCl (tyL G) s) (hP : va_P D vwCl wl H) (hD : va_D A wl) (hS : va_S A H0 H locs) (q0 : Nat) {n ad i : Nat} {x : Int32} {f : Nat → Int32} (he : wl[q0]? = some (ad, .inl (G 62, n, .inl f))) (hi : i < n) (hn : n < 2 ^ 31) (hdg : decode cc pc = .ok (.iastore, 1))
    {Z : va_W → Prop} (hZ : Z (wl.set q0 (ad, .inl (G 62, n, .inl (upd f (nI i).toNatClampNeg x))))) (kk : ∀ (H1 : Heap) (locs1 : List Loc) (wl1 : va_W), Z wl1 → va_P D vwCl wl1 H1 → va_D A wl1 → va_S A H0 H1 locs1 → W p l e R s m args below meth cd H1 locs1 cells slots Q (F0 m (pc + 1) ls rest)) : W p l e R s m args below meth cd H locs cells slots Q (F0 m pc ls (.int x :: .int (nI i) :: .ref ad :: rest)) :=
  va_iast hexec hb hK hP hD hS q0 2 he rfl (vp_in_nI hi hn) hdg (fun H1 locs1 h1 h2 h3 => kk H1 locs1 _ hZ h1 h2 h3)
/-- rows[u] -/
theorem x_row (hexec : p.tables.exec = Jvm.exec) (hb : cd.code = cc) (hK : va_K D vwCl (tyL G) s) (hP : va_P D vwCl wl H) (hR : Rc G c wl) {u : Nat} (hu : u < 20) (hdg : decode cc pc = .ok (.aaload, 1))
    (kk : W p l e R s m args below meth cd H locs cells slots Q (F0 m (pc + 1) ls (.ref (G (20 + u)) :: rest))) : W p l e R s m args below meth cd H locs cells slots Q (F0 m pc ls (.int (nI u) :: .ref (G 1) :: rest)) :=
  va_aldq hexec hb hK hP 1 0 (Q_r hR) rfl (vp_in_nI hu (by decide)) hdg (by rw [nI_clamp (by omega)]; exact kk)
variable {mc ms : Nat} {free : Addr → Prop} {st0 : List Value} {av : Array Value}
theorem y_calli {S : Type} {post : Int32 → S → Prop} {cf rf : S → Nat → Nat → Nat} {of : S → Nat} (hr : va_Run p l e R s m args below meth cd H locs cells slots mc ms (F0 m pc ls st0) rest (va_Qi post (fun u t => Wr D G h0 (cf u) (rf u) (of u) t) (fun q => h0 ≤ q) av) (fun q => h0 ≤ q)) (hS : va_S (fun q => h0 ≤ q) H0 H locs)
    (kk : ∀ (v : Int32) (u : S) (H1 : Heap) (locs1 : List Loc) (wl1 : va_W), post v u → Rc G (cf u) wl1 → Rr G (rf u) wl1 → Ro G (of u) wl1 → va_P D vwCl wl1 H1 → va_D (fun q => h0 ≤ q) wl1 → va_S (fun q => h0 ≤ q) H0 H1 locs1 → W p l e R s m args below meth cd H1 locs1 (cells + mc) (slots + ms) Q (F0 m (pc + 3) ls (.int v :: rest))) : W p l e R s m args below meth cd H locs cells slots Q (F0 m pc ls st0) :=
  va_calli hr hS (fun _ _ h => h) (fun _ h => h) (fun v u t H1 locs1 ht _ hp hB _ _ hS1 => by
    obtain ⟨wl1, b1, b2, b3, b4, b5⟩ := hB
    rw [ht] at b4
    exact kk v u H1 locs1 wl1 hp b1 b2 b3 b4 b5 hS1)
theorem y_callv {S : Type} {post : S → Prop} {cf rf : S → Nat → Nat → Nat} {of : S → Nat} (hr : va_Run p l e R s m args below meth cd H locs cells slots mc ms (F0 m pc ls st0) rest (va_Qv post (fun u t => Wr D G h0 (cf u) (rf u) (of u) t) (fun q => h0 ≤ q) av) (fun q => h0 ≤ q)) (hS : va_S (fun q => h0 ≤ q) H0 H locs)
    (kk : ∀ (u : S) (H1 : Heap) (locs1 : List Loc) (wl1 : va_W), post u → Rc G (cf u) wl1 → Rr G (rf u) wl1 → Ro G (of u) wl1 → va_P D vwCl wl1 H1 → va_D (fun q => h0 ≤ q) wl1 → va_S (fun q => h0 ≤ q) H0 H1 locs1 → W p l e R s m args below meth cd H1 locs1 (cells + mc) (slots + ms) Q (F0 m (pc + 3) ls rest)) : W p l e R s m args below meth cd H locs cells slots Q (F0 m pc ls st0) :=
  va_callv hr hS (fun _ _ h => h) (fun _ h => h) (fun u t H1 locs1 ht _ hp hB _ _ hS1 => by
    obtain ⟨wl1, b1, b2, b3, b4, b5⟩ := hB
    rw [ht] at b4
    exact kk u H1 locs1 wl1 hp b1 b2 b3 b4 b5 hS1)
end NR
