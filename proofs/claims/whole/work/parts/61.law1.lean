/-! THE CLAIM OUT OF ONE WALK OF THE LAW'S BODY. Your part is whole_start (and what it stands on); all else here is the same for every law, but numbers. -/
def R_law : String := "BootStageLaw"
def lw_P (b : Addr) (xs : List Int32) (args : Array Value) (s : State) : Prop := args = #[.ref b] ∧ s.IntsAt b xs ∧ xs.length ≤ 2048 ∧ (Jvm.Cond.and given_1 narrow_1).before args s = true
def lw_Q (_ : Array Value) (s : State) (o : Outcome) (t : State) : Prop := o = .returned (some (.int 1)) ∧ Framed s o t [] 601024 7293033
def lw_Z (below : List Frame) (a : Array Value) (s : State) : State → Prop := fun t => ∃ o, t.status = .running ∧ Ended t below o ∧ lw_Q a s o t
/-- the law's own end, with 1 on the stack, nothing written that was there before, its room as the claim has it -/
theorem lw_ret {p : Program} {l : Launch} {e : Env} {s : State} {m : MethodId} {below : List Frame} {meth : Method} {c : Code} {b : Nat} (hx : p.tables.exec = Jvm.exec) (hb : c.code = code) (hr : meth.sig.returnType = ret) (hlocks : meth.locks = false) {pc : Nat} {H : Heap} {ls : Array Slot} (hdg : decode code pc = .ok (.ireturn, 1)) : W p l e room_1 s m #[Value.ref b] below meth c H [] 601024 7293033 (lw_Z below #[Value.ref b] s) (F0 m pc ls [.int 1]) := by
  intro T hT X
  obtain ⟨fs, hret, hrun, hended, hW, hframe⟩ := X.leave (v := some (.int 1)) (hlocks := hlocks) (fun h => by rw [hr] at h; cases h)
  have hmeth' : T.vm.method? m = some meth := X.method'
  refine ⟨T.setFrames fs, ?_, .returned (some (.int 1)), hrun, hended, rfl, ⟨_, rfl⟩, hW, hframe⟩
  jvm_step X.here [X.here.top, hx, hb, hdg, hmeth', hr, ret, narrow_b1]
  (try refine ⟨rfl, ?_⟩); (try refine ⟨rfl, ?_⟩)
  first | (intro acts; rw [hret _ acts rfl rfl rfl]) | rw [hret _ _ rfl rfl rfl]
  exact Steps.refl _
/-- what holds at the law's entry: the machine, the code, the tables' words (any of lw_tbl by 'hts w (by decide +kernel)'), the script of L ints xs at the cell b, what the Statement gives of the start (any of its parts by flat_of_before) -/
def lw_At (p : Program) (s : State) (m : MethodId) (meth : Method) (c : Code) (b L : Nat) (xs : Nat → Int32) : Prop :=
  p.tables.exec = Jvm.exec ∧ c.code = code ∧ meth.sig.returnType = ret ∧ c.maxLocals = 7 ∧ s.vm.findClass R_law = some m.cls ∧ (∀ w ∈ lw_tbl, w.before #[Value.ref b] s = true) ∧ va_X b L xs s s.heap ∧ b < s.heap.size ∧ meth.locks = false ∧ (Jvm.Cond.and given_1 narrow_1).before #[Value.ref b] s = true
theorem nz0 {k : Int32} (h : k = 0) : k = nI 0 := h.trans nI_0.symm
theorem va_SW {p : Program} {l : Launch} {e : Env} {R : Room} {s : State} {m : MethodId} {args : Array Value} {below : List Frame} {meth : Method} {c : Code} {H : Heap} {locs : List Loc} {cells slots : Nat} {y : MethodName} {bytes cc : ByteArray} {maxL nL mc ms n index : Nat} {ret : Option FieldType} {hh : List (Nat × Nat × Nat × Nat)} {ws : List Cond} {rm : Room} {Pc : Array Value → State → Prop} {Qc : Array Value → State → Outcome → State → Prop} {free : Addr → Prop} {Ts : List Cond} {own : String} {As rest : List Value} {g : JFrame}
    (hx : p.tables.exec = Jvm.exec) (hb : c.code = cc) (hml : c.maxLocals = nL) (hown : s.vm.findClass own = some m.cls) (hts : ∀ w ∈ Ts, w.before args s = true) (hM : Met l y ws rm Pc Qc mc ms free) (cw : vx_CSW R s args own index y bytes maxL ret hh ws rm mc ms n) (h1 : FrameBlind Pc) (h2 : ∀ U : State, U.heap = H → s.WarmedH U.vm → Pc As.toArray U)
    (hn : As.length = n) (hsize : g.locals.size = nL) (hstack : g.stack = As.reverse ++ rest) (hW : 2 * g.monitorRoom + (rest.map fun v => v.category).sum ≤ 8) (hdg : decode cc g.pc = .ok (.invokestatic index, 3)) (hf1 : cells + mc ≤ R.cells) (hf2 : slots + ms ≤ R.slots) (hg : g.method = m := by rfl) :
    va_Run p l e R s m args below meth c H locs cells slots mc ms g rest (Qc As.toArray) free :=
  vx_runSW ⟨hx, hb, hml, hown, hts⟩ hM cw ⟨h1, h2⟩ hg hn hsize hstack hW hdg ⟨hf1, hf2⟩
set_option maxHeartbeats 16000000 in
set_option maxRecDepth 100000 in
theorem law_loop {p : Program} {l : Launch} (hlt : l.stackTraces = false) {e : Env} {s : State} {m : MethodId} {below : List Frame} {meth : Method} {cd : Code} {D : va_G} {G : Nat → Nat} {h0 b L : Nat} {xs : Nat → Int32} (hL : L ≤ 2048) (hh0 : h0 = s.heap.size) (hx : p.tables.exec = Jvm.exec) (hb : cd.code = cL_law) (hr : meth.sig.returnType = ret) (hml : cd.maxLocals = 7) (hown : s.vm.findClass RL = some m.cls) (hts : ∀ w ∈ wsL_law, w.before #[Value.ref b] s = true) (hX : va_X b L xs s s.heap) (hbl : b < s.heap.size) (hlocks : meth.locks = false) (hE : Ev D G h0 s) :
    ∀ (n i : Nat) (c r : Nat → Nat → Nat) (o : Nat), i ≤ 512 → 512 < i + n → Inv c r i → ∀ (H : Heap) (locs : List Loc) (wl : va_W) (ls : Array Slot), Rc G c wl → Rr G r wl → Ro G o wl → va_P D vwCl wl H → va_D (fun q => h0 ≤ q) wl → va_S (fun q => h0 ≤ q) s.heap H locs → lv_has ls 7 [(4, .int (nI (4 * i))), (0, .ref b), (1, .ref (G 0)), (2, .ref (G 3)), (3, .ref (G 4))] → W p l e room_1 s m #[Value.ref b] below meth cd H locs (1000 + 7 * i) (10000 + 2033 * i) (lw_Z below #[Value.ref b] s) (F0 m 23 ls []) := by
  have hbA : ¬ h0 ≤ b := by omega
  have hK := hE.2.1
  intro n
  induction n with
  | zero =>
    intro i c r o h1 h2
    exact absurd h2 (by omega)
  | succ n ih =>
    intro i c r o hi hin hV H locs wl ls hRc hRr hRo hP hD hS hl
    have hW5 : c 30 0 ≤ 512 := Nat.le_trans hV.2.2.2 hi
    have hg3 : c 20 3 ≤ 1 := (IC_o hV.1).1
    have hg12 : r 30 12 ≤ 1 := (IR_O hV.2.1).2.2.1
    have hg13 : r 30 13 ≤ 1 := (IR_O hV.2.1).2.2.2.1
    refine lv_iload hx hb dL_law_23 (lv_at hl 0 rfl) ?_
    refine lv_aload_n hx hb dL_law_25 rfl (lv_at hl 1 rfl) ?_
    refine va_slen hx hb hX hbl hbA hS dL_law_26 ?_
    refine lv_iconst (v := nI 4) hx hb dL_law_27 (by decide) ?_
    refine lv_isub hx hb dL_law_28 ?_
    refine lv_icmp_gt (tgt := 1049) hx hb dL_law_29 (by decide) (fun c_29 => ?_) (fun c_29 => ?_)
    · refine lv_iconst (v := 1) hx hb dL_law_1049 (by decide) ?_
      refine va_forget (fun q hq => by rw [← hh0]; exact hS.2.2 q hq) ?_
      refine W.widen (k := 601024) (n := 7293033) (by omega) (by omega) ?_
      exact lw_ret hx hb hr hlocks dL_law_1050
    · have hlt4 : 4 * i + 4 ≤ L := Nat.not_lt.mp (fun z => c_29 ((len4 hL hi).mpr z))
      have hi2 : i + 1 ≤ 512 := by omega
      refine lv_aload_n hx hb dL_law_32 rfl (lv_at hl 1 rfl) ?_
      refine lv_iload hx hb dL_law_33 (lv_at hl 0 rfl) ?_
      refine va_sld hx hb hX hbl hbA hS (vp_in_nI (by omega) (by omega)) dL_law_35 ?_
      refine lv_bipush (v := nI 31) hx hb dL_law_36 (by decide) ?_
      refine lv_iand hx hb dL_law_38 ?_
      obtain ⟨t, ht, hxt⟩ := and31 (xs (nI (4 * i)).toNatClampNeg)
      refine n_top (y := .int (nI t)) (congrArg Value.int hxt) ?_
      have htI : (nI t).toInt = (t : Int) := nI_toInt (by omega)
      rcases (show t = 0 ∨ t = 1 ∨ t = 2 ∨ t = 3 ∨ t = 4 ∨ t = 5 ∨ t = 6 ∨ t = 7 ∨ t = 8 ∨ t = 9 ∨ t = 10 ∨ t = 11 ∨ t = 12 ∨ t = 13 ∨ t = 14 ∨ t = 15 ∨ t = 16 ∨ t = 17 ∨ 18 ≤ t from by omega) with rfl | rfl | rfl | rfl | rfl | rfl | rfl | rfl | rfl | rfl | rfl | rfl | rfl | rfl | rfl | rfl | rfl | rfl | h18
      · refine lv_tableIn (off := 85) (tgt := 124) hx hb dL_law_39 (by rw [htI]; decide) (by rw [htI]; decide) (by rw [htI]; rfl) (by decide) ?_
        refine lv_aload_n hx hb dL_law_124 rfl (lv_at hl 2 rfl) ?_
        refine lv_aload_n hx hb dL_law_125 rfl (lv_at hl 1 rfl) ?_
        refine lv_iload hx hb dL_law_126 (lv_at hl 0 rfl) ?_
        refine lv_iconst (v := nI 1) hx hb dL_law_128 (by decide) ?_
        refine n_iadd hx hb dL_law_129 ?_
        refine va_sld hx hb hX hbl hbA hS (vp_in_nI (by omega) (by omega)) dL_law_130 ?_
        refine lv_aload_n hx hb dL_law_131 rfl (lv_at hl 1 rfl) ?_
        refine lv_iload hx hb dL_law_132 (lv_at hl 0 rfl) ?_
        refine lv_iconst (v := nI 2) hx hb dL_law_134 (by decide) ?_
        refine n_iadd hx hb dL_law_135 ?_
        refine va_sld hx hb hX hbl hbA hS (vp_in_nI (by omega) (by omega)) dL_law_136 ?_
        refine lv_aload_n hx hb dL_law_137 rfl (lv_at hl 4 rfl) ?_
        refine y_calli (va_SW (As := [.ref (G 0), .int (xs (nI (4 * i + 1)).toNatClampNeg), .int (xs (nI (4 * i + 2)).toNatClampNeg), .ref (G 4)]) (rest := []) hx hb hml hown hts (k_L_add l hlt D G h0 c r o (xs (nI (4 * i + 1)).toNatClampNeg) (xs (nI (4 * i + 2)).toNatClampNeg) hV.1) (vx_cwSW 4 hts gL_law_L_add rfl rfl rfl (by decide +kernel) ⟨(Nat.le_of_ble_eq_true rfl), (Nat.le_of_ble_eq_true rfl)⟩) (fun a U g mk q => ⟨q.1, Pr_cg q.2⟩) (fun U hU hW => ⟨rfl, Pr_mk hE hRc hRr hRo hP hD hS hU hW⟩) rfl hl.1 rfl (lv_room (Nat.le_of_ble_eq_true rfl)) dL_law_138 (show 1000 + 7 * i + 3 ≤ 601024 by omega) (show 10000 + 2033 * i + 18 ≤ 7293033 by omega)) hS (fun k9 z9 H locs wl hk9 hRc hRr hRo hP hD hS => ?_)
        refine lv_istore (lv' := [(5, .int k9), (4, .int (nI (4 * i))), (0, .ref b), (1, .ref (G 0)), (2, .ref (G 3)), (3, .ref (G 4))]) hx hb dL_law_141 hl (by decide) rfl (fun ls hl => ?_)
        refine lv_aload_n hx hb dL_law_143 rfl (lv_at hl 4 rfl) ?_
        refine lv_aload_n hx hb dL_law_144 rfl (lv_at hl 2 rfl) ?_
        refine lv_iload hx hb dL_law_145 (lv_at hl 1 rfl) ?_
        refine lv_iconst (v := nI 1) hx hb dL_law_147 (by decide) ?_
        refine n_iadd hx hb dL_law_148 ?_
        refine va_sld hx hb hX hbl hbA hS (vp_in_nI (by omega) (by omega)) dL_law_149 ?_
        refine lv_aload_n hx hb dL_law_150 rfl (lv_at hl 2 rfl) ?_
        refine lv_iload hx hb dL_law_151 (lv_at hl 1 rfl) ?_
        refine lv_iconst (v := nI 2) hx hb dL_law_153 (by decide) ?_
        refine n_iadd hx hb dL_law_154 ?_
        refine va_sld hx hb hX hbl hbA hS (vp_in_nI (by omega) (by omega)) dL_law_155 ?_
        refine y_calli (va_runV (As := [.int (xs (nI (4 * i + 1)).toNatClampNeg), .int (xs (nI (4 * i + 2)).toNatClampNeg)]) (rest := []) ⟨hx, hb, hml, hown, hts⟩ (k_X3_add l D G h0 z9.1 r z9.2 (xs (nI (4 * i + 1)).toNatClampNeg) (xs (nI (4 * i + 2)).toNatClampNeg) hV.2.1) (cwV 2 hts gL_law_X3_add rfl rfl rfl (by decide +kernel) ⟨(Nat.le_of_ble_eq_true rfl), (Nat.le_of_ble_eq_true rfl)⟩) ⟨fun a U g mk q => ⟨q.1, Pr_cg q.2⟩, va_recv (ci := 4) (q0 := 3) hK hP rfl (Q_m hRr), fun U hU hW => ⟨rfl, Pr_mk hE hRc hRr hRo hP hD hS hU hW⟩⟩ rfl rfl hl.1 rfl (lv_room (Nat.le_of_ble_eq_true rfl)) dL_law_156 ⟨(show _ ≤ 601024 by omega), (show _ ≤ 7293033 by omega)⟩) hS (fun v9 u9 H locs wl hv9 hRc hRr hRo hP hD hS => ?_)
        obtain ⟨ho1, ho2, hV2⟩ := T_add hV hk9 hv9
        refine lv_istore (lv' := [(6, .int v9), (5, .int k9), (4, .int (nI (4 * i))), (0, .ref b), (1, .ref (G 0)), (2, .ref (G 3)), (3, .ref (G 4))]) hx hb dL_law_159 hl (by decide) rfl (fun ls hl => ?_)
        refine lv_aload_n hx hb dL_law_161 rfl (lv_at hl 5 rfl) ?_
        refine y_calli (va_runV (As := []) (rest := []) ⟨hx, hb, hml, hown, hts⟩ (k_X3_thrown l D G h0 z9.1 u9 z9.2) (cwV 0 hts gL_law_X3_thrown rfl rfl rfl (by decide +kernel) ⟨(Nat.le_of_ble_eq_true rfl), (Nat.le_of_ble_eq_true rfl)⟩) ⟨fun a U g mk q => ⟨q.1, Pr_cg q.2⟩, va_recv (ci := 4) (q0 := 3) hK hP rfl (Q_m hRr), fun U hU hW => ⟨rfl, Pr_mk hE hRc hRr hRo hP hD hS hU hW⟩⟩ rfl rfl hl.1 rfl (lv_room (Nat.le_of_ble_eq_true rfl)) dL_law_162 ⟨(show _ ≤ 601024 by omega), (show _ ≤ 7293033 by omega)⟩) hS (fun t9 _ H locs wl ht9 hRc hRr hRo hP hD hS => ?_)
        refine n_top (y := .int (nI (u9 30 22))) (congrArg Value.int ht9) ?_
        refine lv_iload hx hb dL_law_165 (lv_at hl 1 rfl) ?_
        refine lv_icmp_eq (tgt := 172) hx hb dL_law_167 (by decide) (fun _ => ?_) (fun z => absurd ho1.symm z)
        refine lv_iload hx hb dL_law_172 (lv_at hl 1 rfl) ?_
        refine lv_if_ne (tgt := 189) hx hb dL_law_174 (by decide) (fun c0 => ?_) (fun c0 => ?_)
        · skip
          refine lv_goto (tgt := 1043) hx hb dL_law_189 (by decide) ?_
          refine lv_iinc (v := nI (4 * (i + 1))) (lv' := [(4, .int (nI (4 * (i + 1)))), (6, .int v9), (5, .int k9), (0, .ref b), (1, .ref (G 0)), (2, .ref (G 3)), (3, .ref (G 4))]) hx hb dL_law_1043 hl (k := 2) rfl ((nI_add (4 * i) 4).trans (congrArg nI (show 4 * i + 4 = 4 * (i + 1) by omega))) (by decide) rfl (fun ls hl => ?_)
          refine lv_goto (tgt := 23) hx hb dL_law_1046 (by decide) ?_
          refine W.widen (k := 1000 + 7 * (i + 1)) (n := 10000 + 2033 * (i + 1)) (by omega) (by omega) ?_
          exact ih (i + 1) z9.1 u9 z9.2 (by omega) (by omega) hV2 H locs wl ls hRc hRr hRo hP hD hS (lv_sub hl [0, 3, 4, 5, 6] rfl)
        · have k0 : k9 = nI 0 := nz0 c0
          refine lv_aload_n hx hb dL_law_177 rfl (lv_at hl 6 rfl) ?_
          refine lv_iconst (v := nI 0) hx hb dL_law_178 (by decide) ?_
          refine va_lald hx hb hK hP 4 4 hRo rfl (vp_in_nI (by decide) (by decide)) dL_law_179 ?_
          refine lv_iload hx hb dL_law_180 (lv_at hl 0 rfl) ?_
          refine lv_i2l (v := v9.toInt64) hx hb dL_law_182 rfl ?_
          refine x_lcmp hx hb (ho2 k0).symm dL_law_183 ?_
          refine lv_if_eq (tgt := 189) hx hb dL_law_184 (by decide) (fun _ => ?_) (fun z => absurd rfl z)
          refine lv_goto (tgt := 1043) hx hb dL_law_189 (by decide) ?_
          refine lv_iinc (v := nI (4 * (i + 1))) (lv' := [(4, .int (nI (4 * (i + 1)))), (6, .int v9), (5, .int k9), (0, .ref b), (1, .ref (G 0)), (2, .ref (G 3)), (3, .ref (G 4))]) hx hb dL_law_1043 hl (k := 2) rfl ((nI_add (4 * i) 4).trans (congrArg nI (show 4 * i + 4 = 4 * (i + 1) by omega))) (by decide) rfl (fun ls hl => ?_)
          refine lv_goto (tgt := 23) hx hb dL_law_1046 (by decide) ?_
          refine W.widen (k := 1000 + 7 * (i + 1)) (n := 10000 + 2033 * (i + 1)) (by omega) (by omega) ?_
          exact ih (i + 1) z9.1 u9 z9.2 (by omega) (by omega) hV2 H locs wl ls hRc hRr hRo hP hD hS (lv_sub hl [0, 3, 4, 5, 6] rfl)
      · refine lv_tableIn (off := 153) (tgt := 192) hx hb dL_law_39 (by rw [htI]; decide) (by rw [htI]; decide) (by rw [htI]; rfl) (by decide) ?_
        refine lv_aload_n hx hb dL_law_192 rfl (lv_at hl 2 rfl) ?_
        refine lv_aload_n hx hb dL_law_193 rfl (lv_at hl 1 rfl) ?_
        refine lv_iload hx hb dL_law_194 (lv_at hl 0 rfl) ?_
        refine lv_iconst (v := nI 1) hx hb dL_law_196 (by decide) ?_
        refine n_iadd hx hb dL_law_197 ?_
        refine va_sld hx hb hX hbl hbA hS (vp_in_nI (by omega) (by omega)) dL_law_198 ?_
        refine lv_aload_n hx hb dL_law_199 rfl (lv_at hl 1 rfl) ?_
        refine lv_iload hx hb dL_law_200 (lv_at hl 0 rfl) ?_
        refine lv_iconst (v := nI 2) hx hb dL_law_202 (by decide) ?_
        refine n_iadd hx hb dL_law_203 ?_
        refine va_sld hx hb hX hbl hbA hS (vp_in_nI (by omega) (by omega)) dL_law_204 ?_
        refine lv_aload_n hx hb dL_law_205 rfl (lv_at hl 4 rfl) ?_
        refine y_calli (va_SW (As := [.ref (G 0), .int (xs (nI (4 * i + 1)).toNatClampNeg), .int (xs (nI (4 * i + 2)).toNatClampNeg), .ref (G 4)]) (rest := []) hx hb hml hown hts (k_L_need l hlt D G h0 c r o (xs (nI (4 * i + 1)).toNatClampNeg) (xs (nI (4 * i + 2)).toNatClampNeg) hV.1) (vx_cwSW 4 hts gL_law_L_need rfl rfl rfl (by decide +kernel) ⟨(Nat.le_of_ble_eq_true rfl), (Nat.le_of_ble_eq_true rfl)⟩) (fun a U g mk q => ⟨q.1, Pr_cg q.2⟩) (fun U hU hW => ⟨rfl, Pr_mk hE hRc hRr hRo hP hD hS hU hW⟩) rfl hl.1 rfl (lv_room (Nat.le_of_ble_eq_true rfl)) dL_law_206 (show 1000 + 7 * i + 3 ≤ 601024 by omega) (show 10000 + 2033 * i + 18 ≤ 7293033 by omega)) hS (fun k9 z9 H locs wl hk9 hRc hRr hRo hP hD hS => ?_)
        refine lv_istore (lv' := [(5, .int k9), (4, .int (nI (4 * i))), (0, .ref b), (1, .ref (G 0)), (2, .ref (G 3)), (3, .ref (G 4))]) hx hb dL_law_209 hl (by decide) rfl (fun ls hl => ?_)
        refine lv_aload_n hx hb dL_law_211 rfl (lv_at hl 4 rfl) ?_
        refine lv_aload_n hx hb dL_law_212 rfl (lv_at hl 2 rfl) ?_
        refine lv_iload hx hb dL_law_213 (lv_at hl 1 rfl) ?_
        refine lv_iconst (v := nI 1) hx hb dL_law_215 (by decide) ?_
        refine n_iadd hx hb dL_law_216 ?_
        refine va_sld hx hb hX hbl hbA hS (vp_in_nI (by omega) (by omega)) dL_law_217 ?_
        refine lv_aload_n hx hb dL_law_218 rfl (lv_at hl 2 rfl) ?_
        refine lv_iload hx hb dL_law_219 (lv_at hl 1 rfl) ?_
        refine lv_iconst (v := nI 2) hx hb dL_law_221 (by decide) ?_
        refine n_iadd hx hb dL_law_222 ?_
        refine va_sld hx hb hX hbl hbA hS (vp_in_nI (by omega) (by omega)) dL_law_223 ?_
        refine y_calli (va_runV (As := [.int (xs (nI (4 * i + 1)).toNatClampNeg), .int (xs (nI (4 * i + 2)).toNatClampNeg)]) (rest := []) ⟨hx, hb, hml, hown, hts⟩ (k_X3_need l D G h0 z9.1 r z9.2 (xs (nI (4 * i + 1)).toNatClampNeg) (xs (nI (4 * i + 2)).toNatClampNeg) hV.2.1) (cwV 2 hts gL_law_X3_need rfl rfl rfl (by decide +kernel) ⟨(Nat.le_of_ble_eq_true rfl), (Nat.le_of_ble_eq_true rfl)⟩) ⟨fun a U g mk q => ⟨q.1, Pr_cg q.2⟩, va_recv (ci := 4) (q0 := 3) hK hP rfl (Q_m hRr), fun U hU hW => ⟨rfl, Pr_mk hE hRc hRr hRo hP hD hS hU hW⟩⟩ rfl rfl hl.1 rfl (lv_room (Nat.le_of_ble_eq_true rfl)) dL_law_224 ⟨(show _ ≤ 601024 by omega), (show _ ≤ 7293033 by omega)⟩) hS (fun v9 u9 H locs wl hv9 hRc hRr hRo hP hD hS => ?_)
        obtain ⟨ho1, ho2, hV2⟩ := T_need hV hk9 hv9
        refine lv_istore (lv' := [(6, .int v9), (5, .int k9), (4, .int (nI (4 * i))), (0, .ref b), (1, .ref (G 0)), (2, .ref (G 3)), (3, .ref (G 4))]) hx hb dL_law_227 hl (by decide) rfl (fun ls hl => ?_)
        refine lv_aload_n hx hb dL_law_229 rfl (lv_at hl 5 rfl) ?_
        refine y_calli (va_runV (As := []) (rest := []) ⟨hx, hb, hml, hown, hts⟩ (k_X3_thrown l D G h0 z9.1 u9 z9.2) (cwV 0 hts gL_law_X3_thrown rfl rfl rfl (by decide +kernel) ⟨(Nat.le_of_ble_eq_true rfl), (Nat.le_of_ble_eq_true rfl)⟩) ⟨fun a U g mk q => ⟨q.1, Pr_cg q.2⟩, va_recv (ci := 4) (q0 := 3) hK hP rfl (Q_m hRr), fun U hU hW => ⟨rfl, Pr_mk hE hRc hRr hRo hP hD hS hU hW⟩⟩ rfl rfl hl.1 rfl (lv_room (Nat.le_of_ble_eq_true rfl)) dL_law_230 ⟨(show _ ≤ 601024 by omega), (show _ ≤ 7293033 by omega)⟩) hS (fun t9 _ H locs wl ht9 hRc hRr hRo hP hD hS => ?_)
        refine n_top (y := .int (nI (u9 30 22))) (congrArg Value.int ht9) ?_
        refine lv_iload hx hb dL_law_233 (lv_at hl 1 rfl) ?_
        refine lv_icmp_eq (tgt := 240) hx hb dL_law_235 (by decide) (fun _ => ?_) (fun z => absurd ho1.symm z)
        refine lv_iload hx hb dL_law_240 (lv_at hl 1 rfl) ?_
        refine lv_if_ne (tgt := 264) hx hb dL_law_242 (by decide) (fun c0 => ?_) (fun c0 => ?_)
        · skip
          refine lv_goto (tgt := 1043) hx hb dL_law_264 (by decide) ?_
          refine lv_iinc (v := nI (4 * (i + 1))) (lv' := [(4, .int (nI (4 * (i + 1)))), (6, .int v9), (5, .int k9), (0, .ref b), (1, .ref (G 0)), (2, .ref (G 3)), (3, .ref (G 4))]) hx hb dL_law_1043 hl (k := 2) rfl ((nI_add (4 * i) 4).trans (congrArg nI (show 4 * i + 4 = 4 * (i + 1) by omega))) (by decide) rfl (fun ls hl => ?_)
          refine lv_goto (tgt := 23) hx hb dL_law_1046 (by decide) ?_
          refine W.widen (k := 1000 + 7 * (i + 1)) (n := 10000 + 2033 * (i + 1)) (by omega) (by omega) ?_
          exact ih (i + 1) z9.1 u9 z9.2 (by omega) (by omega) hV2 H locs wl ls hRc hRr hRo hP hD hS (lv_sub hl [0, 3, 4, 5, 6] rfl)
        · have k0 : k9 = nI 0 := nz0 c0
          refine lv_aload_n hx hb dL_law_245 rfl (lv_at hl 6 rfl) ?_
          refine lv_iconst (v := nI 0) hx hb dL_law_246 (by decide) ?_
          refine va_lald hx hb hK hP 4 4 hRo rfl (vp_in_nI (by decide) (by decide)) dL_law_247 ?_
          refine lv_iload hx hb dL_law_248 (lv_at hl 0 rfl) ?_
          have J250 : W p l e room_1 s m #[Value.ref b] below meth cd H locs (1000 + 7 * i + 3) (10000 + 2033 * i + 18) (lw_Z below #[Value.ref b] s) (F0 m 258 ls (.long (if v9 = 0 then 0 else 1) :: [.long (lE z9.2)])) → W p l e room_1 s m #[Value.ref b] below meth cd H locs (1000 + 7 * i + 3) (10000 + 2033 * i + 18) (lw_Z below #[Value.ref b] s) (F0 m 250 ls (.int v9 :: [.long (lE z9.2)])) := by
            intro hk
            refine lv_if_eq (tgt := 257) hx hb dL_law_250 (by decide) (fun cz => ?_) (fun cz => ?_)
            · refine lv_lconst (n := 0) (v := 0) hx hb dL_law_257 rfl ?_
              rw [if_pos cz] at hk; exact hk
            · refine lv_lconst (n := 1) (v := 1) hx hb dL_law_253 rfl ?_
              refine lv_goto (tgt := 258) hx hb dL_law_254 (by decide) ?_
              rw [if_neg cz] at hk; exact hk
          refine J250 ?_
          refine x_lcmp hx hb (by rw [ho2 k0]; split <;> decide) dL_law_258 ?_
          refine lv_if_eq (tgt := 264) hx hb dL_law_259 (by decide) (fun _ => ?_) (fun z => absurd rfl z)
          refine lv_goto (tgt := 1043) hx hb dL_law_264 (by decide) ?_
          refine lv_iinc (v := nI (4 * (i + 1))) (lv' := [(4, .int (nI (4 * (i + 1)))), (6, .int v9), (5, .int k9), (0, .ref b), (1, .ref (G 0)), (2, .ref (G 3)), (3, .ref (G 4))]) hx hb dL_law_1043 hl (k := 2) rfl ((nI_add (4 * i) 4).trans (congrArg nI (show 4 * i + 4 = 4 * (i + 1) by omega))) (by decide) rfl (fun ls hl => ?_)
          refine lv_goto (tgt := 23) hx hb dL_law_1046 (by decide) ?_
          refine W.widen (k := 1000 + 7 * (i + 1)) (n := 10000 + 2033 * (i + 1)) (by omega) (by omega) ?_
          exact ih (i + 1) z9.1 u9 z9.2 (by omega) (by omega) hV2 H locs wl ls hRc hRr hRo hP hD hS (lv_sub hl [0, 3, 4, 5, 6] rfl)
      · refine lv_tableIn (off := 228) (tgt := 267) hx hb dL_law_39 (by rw [htI]; decide) (by rw [htI]; decide) (by rw [htI]; rfl) (by decide) ?_
        refine lv_aload_n hx hb dL_law_267 rfl (lv_at hl 2 rfl) ?_
        refine lv_aload_n hx hb dL_law_268 rfl (lv_at hl 1 rfl) ?_
        refine lv_iload hx hb dL_law_269 (lv_at hl 0 rfl) ?_
        refine lv_iconst (v := nI 1) hx hb dL_law_271 (by decide) ?_
        refine n_iadd hx hb dL_law_272 ?_
        refine va_sld hx hb hX hbl hbA hS (vp_in_nI (by omega) (by omega)) dL_law_273 ?_
        refine lv_aload_n hx hb dL_law_274 rfl (lv_at hl 1 rfl) ?_
        refine lv_iload hx hb dL_law_275 (lv_at hl 0 rfl) ?_
        refine lv_iconst (v := nI 2) hx hb dL_law_277 (by decide) ?_
        refine n_iadd hx hb dL_law_278 ?_
        refine va_sld hx hb hX hbl hbA hS (vp_in_nI (by omega) (by omega)) dL_law_279 ?_
        refine lv_aload_n hx hb dL_law_280 rfl (lv_at hl 1 rfl) ?_
        refine lv_iload hx hb dL_law_281 (lv_at hl 0 rfl) ?_
        refine lv_iconst (v := nI 3) hx hb dL_law_283 (by decide) ?_
        refine n_iadd hx hb dL_law_284 ?_
        refine va_sld hx hb hX hbl hbA hS (vp_in_nI (by omega) (by omega)) dL_law_285 ?_
        refine lv_aload_n hx hb dL_law_286 rfl (lv_at hl 4 rfl) ?_
        refine y_calli (va_SW (As := [.ref (G 0), .int (xs (nI (4 * i + 1)).toNatClampNeg), .int (xs (nI (4 * i + 2)).toNatClampNeg), .int (xs (nI (4 * i + 3)).toNatClampNeg), .ref (G 4)]) (rest := []) hx hb hml hown hts (k_L_wish l hlt D G h0 c r o (xs (nI (4 * i + 1)).toNatClampNeg) (xs (nI (4 * i + 2)).toNatClampNeg) (xs (nI (4 * i + 3)).toNatClampNeg) hV.1 hW5) (vx_cwSW 5 hts gL_law_L_wish rfl rfl rfl (by decide +kernel) ⟨(Nat.le_of_ble_eq_true rfl), (Nat.le_of_ble_eq_true rfl)⟩) (fun a U g mk q => ⟨q.1, Pr_cg q.2⟩) (fun U hU hW => ⟨rfl, Pr_mk hE hRc hRr hRo hP hD hS hU hW⟩) rfl hl.1 rfl (lv_room (Nat.le_of_ble_eq_true rfl)) dL_law_287 (show 1000 + 7 * i + 7 ≤ 601024 by omega) (show 10000 + 2033 * i + 2033 ≤ 7293033 by omega)) hS (fun k9 z9 H locs wl hk9 hRc hRr hRo hP hD hS => ?_)
        refine lv_istore (lv' := [(5, .int k9), (4, .int (nI (4 * i))), (0, .ref b), (1, .ref (G 0)), (2, .ref (G 3)), (3, .ref (G 4))]) hx hb dL_law_290 hl (by decide) rfl (fun ls hl => ?_)
        refine lv_aload_n hx hb dL_law_292 rfl (lv_at hl 4 rfl) ?_
        refine lv_aload_n hx hb dL_law_293 rfl (lv_at hl 2 rfl) ?_
        refine lv_iload hx hb dL_law_294 (lv_at hl 1 rfl) ?_
        refine lv_iconst (v := nI 1) hx hb dL_law_296 (by decide) ?_
        refine n_iadd hx hb dL_law_297 ?_
        refine va_sld hx hb hX hbl hbA hS (vp_in_nI (by omega) (by omega)) dL_law_298 ?_
        refine lv_aload_n hx hb dL_law_299 rfl (lv_at hl 2 rfl) ?_
        refine lv_iload hx hb dL_law_300 (lv_at hl 1 rfl) ?_
        refine lv_iconst (v := nI 2) hx hb dL_law_302 (by decide) ?_
        refine n_iadd hx hb dL_law_303 ?_
        refine va_sld hx hb hX hbl hbA hS (vp_in_nI (by omega) (by omega)) dL_law_304 ?_
        refine lv_aload_n hx hb dL_law_305 rfl (lv_at hl 2 rfl) ?_
        refine lv_iload hx hb dL_law_306 (lv_at hl 1 rfl) ?_
        refine lv_iconst (v := nI 3) hx hb dL_law_308 (by decide) ?_
        refine n_iadd hx hb dL_law_309 ?_
        refine va_sld hx hb hX hbl hbA hS (vp_in_nI (by omega) (by omega)) dL_law_310 ?_
        refine y_calli (va_runV (As := [.int (xs (nI (4 * i + 1)).toNatClampNeg), .int (xs (nI (4 * i + 2)).toNatClampNeg), .int (xs (nI (4 * i + 3)).toNatClampNeg)]) (rest := []) ⟨hx, hb, hml, hown, hts⟩ (k_X3_wish l D G h0 z9.1 r z9.2 (xs (nI (4 * i + 1)).toNatClampNeg) (xs (nI (4 * i + 2)).toNatClampNeg) (xs (nI (4 * i + 3)).toNatClampNeg) hV.2.1) (cwV 3 hts gL_law_X3_wish rfl rfl rfl (by decide +kernel) ⟨(Nat.le_of_ble_eq_true rfl), (Nat.le_of_ble_eq_true rfl)⟩) ⟨fun a U g mk q => ⟨q.1, Pr_cg q.2⟩, va_recv (ci := 4) (q0 := 3) hK hP rfl (Q_m hRr), fun U hU hW => ⟨rfl, Pr_mk hE hRc hRr hRo hP hD hS hU hW⟩⟩ rfl rfl hl.1 rfl (lv_room (Nat.le_of_ble_eq_true rfl)) dL_law_311 ⟨(show _ ≤ 601024 by omega), (show _ ≤ 7293033 by omega)⟩) hS (fun v9 u9 H locs wl hv9 hRc hRr hRo hP hD hS => ?_)
        obtain ⟨ho1, ho2, hV2⟩ := T_wish hV (by omega) hk9 hv9
        refine lv_istore (lv' := [(6, .int v9), (5, .int k9), (4, .int (nI (4 * i))), (0, .ref b), (1, .ref (G 0)), (2, .ref (G 3)), (3, .ref (G 4))]) hx hb dL_law_314 hl (by decide) rfl (fun ls hl => ?_)
        refine lv_aload_n hx hb dL_law_316 rfl (lv_at hl 5 rfl) ?_
        refine y_calli (va_runV (As := []) (rest := []) ⟨hx, hb, hml, hown, hts⟩ (k_X3_thrown l D G h0 z9.1 u9 z9.2) (cwV 0 hts gL_law_X3_thrown rfl rfl rfl (by decide +kernel) ⟨(Nat.le_of_ble_eq_true rfl), (Nat.le_of_ble_eq_true rfl)⟩) ⟨fun a U g mk q => ⟨q.1, Pr_cg q.2⟩, va_recv (ci := 4) (q0 := 3) hK hP rfl (Q_m hRr), fun U hU hW => ⟨rfl, Pr_mk hE hRc hRr hRo hP hD hS hU hW⟩⟩ rfl rfl hl.1 rfl (lv_room (Nat.le_of_ble_eq_true rfl)) dL_law_317 ⟨(show _ ≤ 601024 by omega), (show _ ≤ 7293033 by omega)⟩) hS (fun t9 _ H locs wl ht9 hRc hRr hRo hP hD hS => ?_)
        refine n_top (y := .int (nI (u9 30 22))) (congrArg Value.int ht9) ?_
        refine lv_iload hx hb dL_law_320 (lv_at hl 1 rfl) ?_
        refine lv_icmp_eq (tgt := 327) hx hb dL_law_322 (by decide) (fun _ => ?_) (fun z => absurd ho1.symm z)
        refine lv_iload hx hb dL_law_327 (lv_at hl 1 rfl) ?_
        refine lv_if_ne (tgt := 344) hx hb dL_law_329 (by decide) (fun c0 => ?_) (fun c0 => ?_)
        · skip
          refine lv_goto (tgt := 1043) hx hb dL_law_344 (by decide) ?_
          refine lv_iinc (v := nI (4 * (i + 1))) (lv' := [(4, .int (nI (4 * (i + 1)))), (6, .int v9), (5, .int k9), (0, .ref b), (1, .ref (G 0)), (2, .ref (G 3)), (3, .ref (G 4))]) hx hb dL_law_1043 hl (k := 2) rfl ((nI_add (4 * i) 4).trans (congrArg nI (show 4 * i + 4 = 4 * (i + 1) by omega))) (by decide) rfl (fun ls hl => ?_)
          refine lv_goto (tgt := 23) hx hb dL_law_1046 (by decide) ?_
          refine W.widen (k := 1000 + 7 * (i + 1)) (n := 10000 + 2033 * (i + 1)) (by omega) (by omega) ?_
          exact ih (i + 1) z9.1 u9 z9.2 (by omega) (by omega) hV2 H locs wl ls hRc hRr hRo hP hD hS (lv_sub hl [0, 3, 4, 5, 6] rfl)
        · have k0 : k9 = nI 0 := nz0 c0
          refine lv_aload_n hx hb dL_law_332 rfl (lv_at hl 6 rfl) ?_
          refine lv_iconst (v := nI 0) hx hb dL_law_333 (by decide) ?_
          refine va_lald hx hb hK hP 4 4 hRo rfl (vp_in_nI (by decide) (by decide)) dL_law_334 ?_
          refine lv_iload hx hb dL_law_335 (lv_at hl 0 rfl) ?_
          refine lv_i2l (v := v9.toInt64) hx hb dL_law_337 rfl ?_
          refine x_lcmp hx hb (ho2 k0).symm dL_law_338 ?_
          refine lv_if_eq (tgt := 344) hx hb dL_law_339 (by decide) (fun _ => ?_) (fun z => absurd rfl z)
          refine lv_goto (tgt := 1043) hx hb dL_law_344 (by decide) ?_
          refine lv_iinc (v := nI (4 * (i + 1))) (lv' := [(4, .int (nI (4 * (i + 1)))), (6, .int v9), (5, .int k9), (0, .ref b), (1, .ref (G 0)), (2, .ref (G 3)), (3, .ref (G 4))]) hx hb dL_law_1043 hl (k := 2) rfl ((nI_add (4 * i) 4).trans (congrArg nI (show 4 * i + 4 = 4 * (i + 1) by omega))) (by decide) rfl (fun ls hl => ?_)
          refine lv_goto (tgt := 23) hx hb dL_law_1046 (by decide) ?_
          refine W.widen (k := 1000 + 7 * (i + 1)) (n := 10000 + 2033 * (i + 1)) (by omega) (by omega) ?_
          exact ih (i + 1) z9.1 u9 z9.2 (by omega) (by omega) hV2 H locs wl ls hRc hRr hRo hP hD hS (lv_sub hl [0, 3, 4, 5, 6] rfl)
      · refine lv_tableIn (off := 308) (tgt := 347) hx hb dL_law_39 (by rw [htI]; decide) (by rw [htI]; decide) (by rw [htI]; rfl) (by decide) ?_
        refine lv_aload_n hx hb dL_law_347 rfl (lv_at hl 2 rfl) ?_
        refine lv_aload_n hx hb dL_law_348 rfl (lv_at hl 1 rfl) ?_
        refine lv_iload hx hb dL_law_349 (lv_at hl 0 rfl) ?_
        refine lv_iconst (v := nI 1) hx hb dL_law_351 (by decide) ?_
        refine n_iadd hx hb dL_law_352 ?_
        refine va_sld hx hb hX hbl hbA hS (vp_in_nI (by omega) (by omega)) dL_law_353 ?_
        refine lv_aload_n hx hb dL_law_354 rfl (lv_at hl 1 rfl) ?_
        refine lv_iload hx hb dL_law_355 (lv_at hl 0 rfl) ?_
        refine lv_iconst (v := nI 2) hx hb dL_law_357 (by decide) ?_
        refine n_iadd hx hb dL_law_358 ?_
        refine va_sld hx hb hX hbl hbA hS (vp_in_nI (by omega) (by omega)) dL_law_359 ?_
        refine lv_aload_n hx hb dL_law_360 rfl (lv_at hl 4 rfl) ?_
        refine y_calli (va_SW (As := [.ref (G 0), .int (xs (nI (4 * i + 1)).toNatClampNeg), .int (xs (nI (4 * i + 2)).toNatClampNeg), .ref (G 4)]) (rest := []) hx hb hml hown hts (k_L_standIn l hlt D G h0 c r o (xs (nI (4 * i + 1)).toNatClampNeg) (xs (nI (4 * i + 2)).toNatClampNeg) hV.1) (vx_cwSW 4 hts gL_law_L_standIn rfl rfl rfl (by decide +kernel) ⟨(Nat.le_of_ble_eq_true rfl), (Nat.le_of_ble_eq_true rfl)⟩) (fun a U g mk q => ⟨q.1, Pr_cg q.2⟩) (fun U hU hW => ⟨rfl, Pr_mk hE hRc hRr hRo hP hD hS hU hW⟩) rfl hl.1 rfl (lv_room (Nat.le_of_ble_eq_true rfl)) dL_law_361 (show 1000 + 7 * i + 4 ≤ 601024 by omega) (show 10000 + 2033 * i + 24 ≤ 7293033 by omega)) hS (fun k9 z9 H locs wl hk9 hRc hRr hRo hP hD hS => ?_)
        refine lv_istore (lv' := [(5, .int k9), (4, .int (nI (4 * i))), (0, .ref b), (1, .ref (G 0)), (2, .ref (G 3)), (3, .ref (G 4))]) hx hb dL_law_364 hl (by decide) rfl (fun ls hl => ?_)
        refine lv_aload_n hx hb dL_law_366 rfl (lv_at hl 4 rfl) ?_
        refine lv_aload_n hx hb dL_law_367 rfl (lv_at hl 2 rfl) ?_
        refine lv_iload hx hb dL_law_368 (lv_at hl 1 rfl) ?_
        refine lv_iconst (v := nI 1) hx hb dL_law_370 (by decide) ?_
        refine n_iadd hx hb dL_law_371 ?_
        refine va_sld hx hb hX hbl hbA hS (vp_in_nI (by omega) (by omega)) dL_law_372 ?_
        refine lv_aload_n hx hb dL_law_373 rfl (lv_at hl 2 rfl) ?_
        refine lv_iload hx hb dL_law_374 (lv_at hl 1 rfl) ?_
        refine lv_iconst (v := nI 2) hx hb dL_law_376 (by decide) ?_
        refine n_iadd hx hb dL_law_377 ?_
        refine va_sld hx hb hX hbl hbA hS (vp_in_nI (by omega) (by omega)) dL_law_378 ?_
        refine y_calli (va_runV (As := [.int (xs (nI (4 * i + 1)).toNatClampNeg), .int (xs (nI (4 * i + 2)).toNatClampNeg)]) (rest := []) ⟨hx, hb, hml, hown, hts⟩ (k_X3_standIn l D G h0 z9.1 r z9.2 (xs (nI (4 * i + 1)).toNatClampNeg) (xs (nI (4 * i + 2)).toNatClampNeg) hV.2.1) (cwV 2 hts gL_law_X3_standIn rfl rfl rfl (by decide +kernel) ⟨(Nat.le_of_ble_eq_true rfl), (Nat.le_of_ble_eq_true rfl)⟩) ⟨fun a U g mk q => ⟨q.1, Pr_cg q.2⟩, va_recv (ci := 4) (q0 := 3) hK hP rfl (Q_m hRr), fun U hU hW => ⟨rfl, Pr_mk hE hRc hRr hRo hP hD hS hU hW⟩⟩ rfl rfl hl.1 rfl (lv_room (Nat.le_of_ble_eq_true rfl)) dL_law_379 ⟨(show _ ≤ 601024 by omega), (show _ ≤ 7293033 by omega)⟩) hS (fun v9 u9 H locs wl hv9 hRc hRr hRo hP hD hS => ?_)
        obtain ⟨ho1, ho2, hV2⟩ := T_standIn hV hk9 hv9
        refine lv_istore (lv' := [(6, .int v9), (5, .int k9), (4, .int (nI (4 * i))), (0, .ref b), (1, .ref (G 0)), (2, .ref (G 3)), (3, .ref (G 4))]) hx hb dL_law_382 hl (by decide) rfl (fun ls hl => ?_)
        refine lv_aload_n hx hb dL_law_384 rfl (lv_at hl 5 rfl) ?_
        refine y_calli (va_runV (As := []) (rest := []) ⟨hx, hb, hml, hown, hts⟩ (k_X3_thrown l D G h0 z9.1 u9 z9.2) (cwV 0 hts gL_law_X3_thrown rfl rfl rfl (by decide +kernel) ⟨(Nat.le_of_ble_eq_true rfl), (Nat.le_of_ble_eq_true rfl)⟩) ⟨fun a U g mk q => ⟨q.1, Pr_cg q.2⟩, va_recv (ci := 4) (q0 := 3) hK hP rfl (Q_m hRr), fun U hU hW => ⟨rfl, Pr_mk hE hRc hRr hRo hP hD hS hU hW⟩⟩ rfl rfl hl.1 rfl (lv_room (Nat.le_of_ble_eq_true rfl)) dL_law_385 ⟨(show _ ≤ 601024 by omega), (show _ ≤ 7293033 by omega)⟩) hS (fun t9 _ H locs wl ht9 hRc hRr hRo hP hD hS => ?_)
        refine n_top (y := .int (nI (u9 30 22))) (congrArg Value.int ht9) ?_
        refine lv_iload hx hb dL_law_388 (lv_at hl 1 rfl) ?_
        refine lv_icmp_eq (tgt := 395) hx hb dL_law_390 (by decide) (fun _ => ?_) (fun z => absurd ho1.symm z)
        refine lv_iload hx hb dL_law_395 (lv_at hl 1 rfl) ?_
        refine lv_if_ne (tgt := 412) hx hb dL_law_397 (by decide) (fun c0 => ?_) (fun c0 => ?_)
        · skip
          refine lv_goto (tgt := 1043) hx hb dL_law_412 (by decide) ?_
          refine lv_iinc (v := nI (4 * (i + 1))) (lv' := [(4, .int (nI (4 * (i + 1)))), (6, .int v9), (5, .int k9), (0, .ref b), (1, .ref (G 0)), (2, .ref (G 3)), (3, .ref (G 4))]) hx hb dL_law_1043 hl (k := 2) rfl ((nI_add (4 * i) 4).trans (congrArg nI (show 4 * i + 4 = 4 * (i + 1) by omega))) (by decide) rfl (fun ls hl => ?_)
          refine lv_goto (tgt := 23) hx hb dL_law_1046 (by decide) ?_
          refine W.widen (k := 1000 + 7 * (i + 1)) (n := 10000 + 2033 * (i + 1)) (by omega) (by omega) ?_
          exact ih (i + 1) z9.1 u9 z9.2 (by omega) (by omega) hV2 H locs wl ls hRc hRr hRo hP hD hS (lv_sub hl [0, 3, 4, 5, 6] rfl)
        · have k0 : k9 = nI 0 := nz0 c0
          refine lv_aload_n hx hb dL_law_400 rfl (lv_at hl 6 rfl) ?_
          refine lv_iconst (v := nI 0) hx hb dL_law_401 (by decide) ?_
          refine va_lald hx hb hK hP 4 4 hRo rfl (vp_in_nI (by decide) (by decide)) dL_law_402 ?_
          refine lv_iload hx hb dL_law_403 (lv_at hl 0 rfl) ?_
          refine lv_i2l (v := v9.toInt64) hx hb dL_law_405 rfl ?_
          refine x_lcmp hx hb (ho2 k0).symm dL_law_406 ?_
          refine lv_if_eq (tgt := 412) hx hb dL_law_407 (by decide) (fun _ => ?_) (fun z => absurd rfl z)
          refine lv_goto (tgt := 1043) hx hb dL_law_412 (by decide) ?_
          refine lv_iinc (v := nI (4 * (i + 1))) (lv' := [(4, .int (nI (4 * (i + 1)))), (6, .int v9), (5, .int k9), (0, .ref b), (1, .ref (G 0)), (2, .ref (G 3)), (3, .ref (G 4))]) hx hb dL_law_1043 hl (k := 2) rfl ((nI_add (4 * i) 4).trans (congrArg nI (show 4 * i + 4 = 4 * (i + 1) by omega))) (by decide) rfl (fun ls hl => ?_)
          refine lv_goto (tgt := 23) hx hb dL_law_1046 (by decide) ?_
          refine W.widen (k := 1000 + 7 * (i + 1)) (n := 10000 + 2033 * (i + 1)) (by omega) (by omega) ?_
          exact ih (i + 1) z9.1 u9 z9.2 (by omega) (by omega) hV2 H locs wl ls hRc hRr hRo hP hD hS (lv_sub hl [0, 3, 4, 5, 6] rfl)
      · refine lv_tableIn (off := 376) (tgt := 415) hx hb dL_law_39 (by rw [htI]; decide) (by rw [htI]; decide) (by rw [htI]; rfl) (by decide) ?_
        refine lv_aload_n hx hb dL_law_415 rfl (lv_at hl 2 rfl) ?_
        refine lv_aload_n hx hb dL_law_416 rfl (lv_at hl 1 rfl) ?_
        refine lv_iload hx hb dL_law_417 (lv_at hl 0 rfl) ?_
        refine lv_iconst (v := nI 1) hx hb dL_law_419 (by decide) ?_
        refine n_iadd hx hb dL_law_420 ?_
        refine va_sld hx hb hX hbl hbA hS (vp_in_nI (by omega) (by omega)) dL_law_421 ?_
        refine lv_aload_n hx hb dL_law_422 rfl (lv_at hl 1 rfl) ?_
        refine lv_iload hx hb dL_law_423 (lv_at hl 0 rfl) ?_
        refine lv_iconst (v := nI 2) hx hb dL_law_425 (by decide) ?_
        refine n_iadd hx hb dL_law_426 ?_
        refine va_sld hx hb hX hbl hbA hS (vp_in_nI (by omega) (by omega)) dL_law_427 ?_
        have J428 : W p l e room_1 s m #[Value.ref b] below meth cd H locs (1000 + 7 * i) (10000 + 2033 * i) (lw_Z below #[Value.ref b] s) (F0 m 436 ls (.int (nI (bN (¬ (xs (nI (4 * i + 2)).toNatClampNeg) = 0))) :: [.int (xs (nI (4 * i + 1)).toNatClampNeg), .ref (G 0)])) → W p l e room_1 s m #[Value.ref b] below meth cd H locs (1000 + 7 * i) (10000 + 2033 * i) (lw_Z below #[Value.ref b] s) (F0 m 428 ls (.int (xs (nI (4 * i + 2)).toNatClampNeg) :: [.int (xs (nI (4 * i + 1)).toNatClampNeg), .ref (G 0)])) := by
          intro hk
          refine lv_if_eq (tgt := 435) hx hb dL_law_428 (by decide) (fun cz_428 => ?_) (fun cz_428 => ?_)
          · refine lv_iconst (v := nI 0) hx hb dL_law_435 (by decide) ?_
            rw [bN_f (fun z => z cz_428)] at hk; exact hk
          · refine lv_iconst (v := nI 1) hx hb dL_law_431 (by decide) ?_
            refine lv_goto (tgt := 436) hx hb dL_law_432 (by decide) ?_
            rw [bN_t cz_428] at hk; exact hk
        refine J428 ?_
        refine lv_aload_n hx hb dL_law_436 rfl (lv_at hl 4 rfl) ?_
        refine y_calli (va_SW (As := [.ref (G 0), .int (xs (nI (4 * i + 1)).toNatClampNeg), .int (nI (bN (¬ (xs (nI (4 * i + 2)).toNatClampNeg) = 0))), .ref (G 4)]) (rest := []) hx hb hml hown hts (k_L_hold l hlt D G h0 c r o (xs (nI (4 * i + 1)).toNatClampNeg) (bN (¬ (xs (nI (4 * i + 2)).toNatClampNeg) = 0)) (bN_le _) hV.1) (vx_cwSW 4 hts gL_law_L_hold rfl rfl rfl (by decide +kernel) ⟨(Nat.le_of_ble_eq_true rfl), (Nat.le_of_ble_eq_true rfl)⟩) (fun a U g mk q => ⟨q.1, Pr_cg q.2⟩) (fun U hU hW => ⟨rfl, Pr_mk hE hRc hRr hRo hP hD hS hU hW⟩) rfl hl.1 rfl (lv_room (Nat.le_of_ble_eq_true rfl)) dL_law_437 (show 1000 + 7 * i + 2 ≤ 601024 by omega) (show 10000 + 2033 * i + 12 ≤ 7293033 by omega)) hS (fun k9 z9 H locs wl hk9 hRc hRr hRo hP hD hS => ?_)
        refine lv_istore (lv' := [(5, .int k9), (4, .int (nI (4 * i))), (0, .ref b), (1, .ref (G 0)), (2, .ref (G 3)), (3, .ref (G 4))]) hx hb dL_law_440 hl (by decide) rfl (fun ls hl => ?_)
        refine lv_aload_n hx hb dL_law_442 rfl (lv_at hl 4 rfl) ?_
        refine lv_aload_n hx hb dL_law_443 rfl (lv_at hl 2 rfl) ?_
        refine lv_iload hx hb dL_law_444 (lv_at hl 1 rfl) ?_
        refine lv_iconst (v := nI 1) hx hb dL_law_446 (by decide) ?_
        refine n_iadd hx hb dL_law_447 ?_
        refine va_sld hx hb hX hbl hbA hS (vp_in_nI (by omega) (by omega)) dL_law_448 ?_
        refine lv_aload_n hx hb dL_law_449 rfl (lv_at hl 2 rfl) ?_
        refine lv_iload hx hb dL_law_450 (lv_at hl 1 rfl) ?_
        refine lv_iconst (v := nI 2) hx hb dL_law_452 (by decide) ?_
        refine n_iadd hx hb dL_law_453 ?_
        refine va_sld hx hb hX hbl hbA hS (vp_in_nI (by omega) (by omega)) dL_law_454 ?_
        have J455 : W p l e room_1 s m #[Value.ref b] below meth cd H locs (1000 + 7 * i + 2) (10000 + 2033 * i + 12) (lw_Z below #[Value.ref b] s) (F0 m 463 ls (.int (nI (bN (¬ (xs (nI (4 * i + 2)).toNatClampNeg) = 0))) :: [.int (xs (nI (4 * i + 1)).toNatClampNeg), .ref (G 3)])) → W p l e room_1 s m #[Value.ref b] below meth cd H locs (1000 + 7 * i + 2) (10000 + 2033 * i + 12) (lw_Z below #[Value.ref b] s) (F0 m 455 ls (.int (xs (nI (4 * i + 2)).toNatClampNeg) :: [.int (xs (nI (4 * i + 1)).toNatClampNeg), .ref (G 3)])) := by
          intro hk
          refine lv_if_eq (tgt := 462) hx hb dL_law_455 (by decide) (fun cz_455 => ?_) (fun cz_455 => ?_)
          · refine lv_iconst (v := nI 0) hx hb dL_law_462 (by decide) ?_
            rw [bN_f (fun z => z cz_455)] at hk; exact hk
          · refine lv_iconst (v := nI 1) hx hb dL_law_458 (by decide) ?_
            refine lv_goto (tgt := 463) hx hb dL_law_459 (by decide) ?_
            rw [bN_t cz_455] at hk; exact hk
        refine J455 ?_
        refine y_calli (va_runV (As := [.int (xs (nI (4 * i + 1)).toNatClampNeg), .int (nI (bN (¬ (xs (nI (4 * i + 2)).toNatClampNeg) = 0)))]) (rest := []) ⟨hx, hb, hml, hown, hts⟩ (k_X3_hold l D G h0 z9.1 r z9.2 (xs (nI (4 * i + 1)).toNatClampNeg) (bN (¬ (xs (nI (4 * i + 2)).toNatClampNeg) = 0)) (bN_le _) hV.2.1) (cwV 2 hts gL_law_X3_hold rfl rfl rfl (by decide +kernel) ⟨(Nat.le_of_ble_eq_true rfl), (Nat.le_of_ble_eq_true rfl)⟩) ⟨fun a U g mk q => ⟨q.1, Pr_cg q.2⟩, va_recv (ci := 4) (q0 := 3) hK hP rfl (Q_m hRr), fun U hU hW => ⟨rfl, Pr_mk hE hRc hRr hRo hP hD hS hU hW⟩⟩ rfl rfl hl.1 rfl (lv_room (Nat.le_of_ble_eq_true rfl)) dL_law_463 ⟨(show _ ≤ 601024 by omega), (show _ ≤ 7293033 by omega)⟩) hS (fun v9 u9 H locs wl hv9 hRc hRr hRo hP hD hS => ?_)
        obtain ⟨ho1, ho2, hV2⟩ := T_hold hV (bN_le _) hk9 hv9
        refine lv_istore (lv' := [(6, .int v9), (5, .int k9), (4, .int (nI (4 * i))), (0, .ref b), (1, .ref (G 0)), (2, .ref (G 3)), (3, .ref (G 4))]) hx hb dL_law_466 hl (by decide) rfl (fun ls hl => ?_)
        refine lv_aload_n hx hb dL_law_468 rfl (lv_at hl 5 rfl) ?_
        refine y_calli (va_runV (As := []) (rest := []) ⟨hx, hb, hml, hown, hts⟩ (k_X3_thrown l D G h0 z9.1 u9 z9.2) (cwV 0 hts gL_law_X3_thrown rfl rfl rfl (by decide +kernel) ⟨(Nat.le_of_ble_eq_true rfl), (Nat.le_of_ble_eq_true rfl)⟩) ⟨fun a U g mk q => ⟨q.1, Pr_cg q.2⟩, va_recv (ci := 4) (q0 := 3) hK hP rfl (Q_m hRr), fun U hU hW => ⟨rfl, Pr_mk hE hRc hRr hRo hP hD hS hU hW⟩⟩ rfl rfl hl.1 rfl (lv_room (Nat.le_of_ble_eq_true rfl)) dL_law_469 ⟨(show _ ≤ 601024 by omega), (show _ ≤ 7293033 by omega)⟩) hS (fun t9 _ H locs wl ht9 hRc hRr hRo hP hD hS => ?_)
        refine n_top (y := .int (nI (u9 30 22))) (congrArg Value.int ht9) ?_
        refine lv_iload hx hb dL_law_472 (lv_at hl 1 rfl) ?_
        refine lv_icmp_eq (tgt := 479) hx hb dL_law_474 (by decide) (fun _ => ?_) (fun z => absurd ho1.symm z)
        refine lv_iload hx hb dL_law_479 (lv_at hl 1 rfl) ?_
        refine lv_if_ne (tgt := 503) hx hb dL_law_481 (by decide) (fun c0 => ?_) (fun c0 => ?_)
        · skip
          refine lv_goto (tgt := 1043) hx hb dL_law_503 (by decide) ?_
          refine lv_iinc (v := nI (4 * (i + 1))) (lv' := [(4, .int (nI (4 * (i + 1)))), (6, .int v9), (5, .int k9), (0, .ref b), (1, .ref (G 0)), (2, .ref (G 3)), (3, .ref (G 4))]) hx hb dL_law_1043 hl (k := 2) rfl ((nI_add (4 * i) 4).trans (congrArg nI (show 4 * i + 4 = 4 * (i + 1) by omega))) (by decide) rfl (fun ls hl => ?_)
          refine lv_goto (tgt := 23) hx hb dL_law_1046 (by decide) ?_
          refine W.widen (k := 1000 + 7 * (i + 1)) (n := 10000 + 2033 * (i + 1)) (by omega) (by omega) ?_
          exact ih (i + 1) z9.1 u9 z9.2 (by omega) (by omega) hV2 H locs wl ls hRc hRr hRo hP hD hS (lv_sub hl [0, 3, 4, 5, 6] rfl)
        · have k0 : k9 = nI 0 := nz0 c0
          refine lv_aload_n hx hb dL_law_484 rfl (lv_at hl 6 rfl) ?_
          refine lv_iconst (v := nI 0) hx hb dL_law_485 (by decide) ?_
          refine va_lald hx hb hK hP 4 4 hRo rfl (vp_in_nI (by decide) (by decide)) dL_law_486 ?_
          refine lv_iload hx hb dL_law_487 (lv_at hl 0 rfl) ?_
          have J489 : W p l e room_1 s m #[Value.ref b] below meth cd H locs (1000 + 7 * i + 2) (10000 + 2033 * i + 12) (lw_Z below #[Value.ref b] s) (F0 m 497 ls (.long (if v9 = 0 then 0 else 1) :: [.long (lE z9.2)])) → W p l e room_1 s m #[Value.ref b] below meth cd H locs (1000 + 7 * i + 2) (10000 + 2033 * i + 12) (lw_Z below #[Value.ref b] s) (F0 m 489 ls (.int v9 :: [.long (lE z9.2)])) := by
            intro hk
            refine lv_if_eq (tgt := 496) hx hb dL_law_489 (by decide) (fun cz => ?_) (fun cz => ?_)
            · refine lv_lconst (n := 0) (v := 0) hx hb dL_law_496 rfl ?_
              rw [if_pos cz] at hk; exact hk
            · refine lv_lconst (n := 1) (v := 1) hx hb dL_law_492 rfl ?_
              refine lv_goto (tgt := 497) hx hb dL_law_493 (by decide) ?_
              rw [if_neg cz] at hk; exact hk
          refine J489 ?_
          refine x_lcmp hx hb (by rw [ho2 k0]; split <;> decide) dL_law_497 ?_
          refine lv_if_eq (tgt := 503) hx hb dL_law_498 (by decide) (fun _ => ?_) (fun z => absurd rfl z)
          refine lv_goto (tgt := 1043) hx hb dL_law_503 (by decide) ?_
          refine lv_iinc (v := nI (4 * (i + 1))) (lv' := [(4, .int (nI (4 * (i + 1)))), (6, .int v9), (5, .int k9), (0, .ref b), (1, .ref (G 0)), (2, .ref (G 3)), (3, .ref (G 4))]) hx hb dL_law_1043 hl (k := 2) rfl ((nI_add (4 * i) 4).trans (congrArg nI (show 4 * i + 4 = 4 * (i + 1) by omega))) (by decide) rfl (fun ls hl => ?_)
          refine lv_goto (tgt := 23) hx hb dL_law_1046 (by decide) ?_
          refine W.widen (k := 1000 + 7 * (i + 1)) (n := 10000 + 2033 * (i + 1)) (by omega) (by omega) ?_
          exact ih (i + 1) z9.1 u9 z9.2 (by omega) (by omega) hV2 H locs wl ls hRc hRr hRo hP hD hS (lv_sub hl [0, 3, 4, 5, 6] rfl)
      · refine lv_tableIn (off := 467) (tgt := 506) hx hb dL_law_39 (by rw [htI]; decide) (by rw [htI]; decide) (by rw [htI]; rfl) (by decide) ?_
        refine lv_aload_n hx hb dL_law_506 rfl (lv_at hl 2 rfl) ?_
        refine lv_aload_n hx hb dL_law_507 rfl (lv_at hl 1 rfl) ?_
        refine lv_iload hx hb dL_law_508 (lv_at hl 0 rfl) ?_
        refine lv_iconst (v := nI 1) hx hb dL_law_510 (by decide) ?_
        refine n_iadd hx hb dL_law_511 ?_
        refine va_sld hx hb hX hbl hbA hS (vp_in_nI (by omega) (by omega)) dL_law_512 ?_
        refine lv_aload_n hx hb dL_law_513 rfl (lv_at hl 1 rfl) ?_
        refine lv_iload hx hb dL_law_514 (lv_at hl 0 rfl) ?_
        refine lv_iconst (v := nI 2) hx hb dL_law_516 (by decide) ?_
        refine n_iadd hx hb dL_law_517 ?_
        refine va_sld hx hb hX hbl hbA hS (vp_in_nI (by omega) (by omega)) dL_law_518 ?_
        refine lv_aload_n hx hb dL_law_519 rfl (lv_at hl 4 rfl) ?_
        refine y_calli (va_SW (As := [.ref (G 0), .int (xs (nI (4 * i + 1)).toNatClampNeg), .int (xs (nI (4 * i + 2)).toNatClampNeg), .ref (G 4)]) (rest := []) hx hb hml hown hts (k_L_setFaults l hlt D G h0 c r o (xs (nI (4 * i + 1)).toNatClampNeg) (xs (nI (4 * i + 2)).toNatClampNeg) hV.1) (vx_cwSW 4 hts gL_law_L_setFaults rfl rfl rfl (by decide +kernel) ⟨(Nat.le_of_ble_eq_true rfl), (Nat.le_of_ble_eq_true rfl)⟩) (fun a U g mk q => ⟨q.1, Pr_cg q.2⟩) (fun U hU hW => ⟨rfl, Pr_mk hE hRc hRr hRo hP hD hS hU hW⟩) rfl hl.1 rfl (lv_room (Nat.le_of_ble_eq_true rfl)) dL_law_520 (show 1000 + 7 * i + 2 ≤ 601024 by omega) (show 10000 + 2033 * i + 12 ≤ 7293033 by omega)) hS (fun k9 z9 H locs wl hk9 hRc hRr hRo hP hD hS => ?_)
        refine lv_istore (lv' := [(5, .int k9), (4, .int (nI (4 * i))), (0, .ref b), (1, .ref (G 0)), (2, .ref (G 3)), (3, .ref (G 4))]) hx hb dL_law_523 hl (by decide) rfl (fun ls hl => ?_)
        refine lv_aload_n hx hb dL_law_525 rfl (lv_at hl 4 rfl) ?_
        refine lv_aload_n hx hb dL_law_526 rfl (lv_at hl 2 rfl) ?_
        refine lv_iload hx hb dL_law_527 (lv_at hl 1 rfl) ?_
        refine lv_iconst (v := nI 1) hx hb dL_law_529 (by decide) ?_
        refine n_iadd hx hb dL_law_530 ?_
        refine va_sld hx hb hX hbl hbA hS (vp_in_nI (by omega) (by omega)) dL_law_531 ?_
        refine lv_aload_n hx hb dL_law_532 rfl (lv_at hl 2 rfl) ?_
        refine lv_iload hx hb dL_law_533 (lv_at hl 1 rfl) ?_
        refine lv_iconst (v := nI 2) hx hb dL_law_535 (by decide) ?_
        refine n_iadd hx hb dL_law_536 ?_
        refine va_sld hx hb hX hbl hbA hS (vp_in_nI (by omega) (by omega)) dL_law_537 ?_
        refine y_calli (va_runV (As := [.int (xs (nI (4 * i + 1)).toNatClampNeg), .int (xs (nI (4 * i + 2)).toNatClampNeg)]) (rest := []) ⟨hx, hb, hml, hown, hts⟩ (k_X3_setFaults l D G h0 z9.1 r z9.2 (xs (nI (4 * i + 1)).toNatClampNeg) (xs (nI (4 * i + 2)).toNatClampNeg) hV.2.1) (cwV 2 hts gL_law_X3_setFaults rfl rfl rfl (by decide +kernel) ⟨(Nat.le_of_ble_eq_true rfl), (Nat.le_of_ble_eq_true rfl)⟩) ⟨fun a U g mk q => ⟨q.1, Pr_cg q.2⟩, va_recv (ci := 4) (q0 := 3) hK hP rfl (Q_m hRr), fun U hU hW => ⟨rfl, Pr_mk hE hRc hRr hRo hP hD hS hU hW⟩⟩ rfl rfl hl.1 rfl (lv_room (Nat.le_of_ble_eq_true rfl)) dL_law_538 ⟨(show _ ≤ 601024 by omega), (show _ ≤ 7293033 by omega)⟩) hS (fun v9 u9 H locs wl hv9 hRc hRr hRo hP hD hS => ?_)
        obtain ⟨ho1, ho2, hV2⟩ := T_setFaults hV hk9 hv9
        refine lv_istore (lv' := [(6, .int v9), (5, .int k9), (4, .int (nI (4 * i))), (0, .ref b), (1, .ref (G 0)), (2, .ref (G 3)), (3, .ref (G 4))]) hx hb dL_law_541 hl (by decide) rfl (fun ls hl => ?_)
        refine lv_aload_n hx hb dL_law_543 rfl (lv_at hl 5 rfl) ?_
        refine y_calli (va_runV (As := []) (rest := []) ⟨hx, hb, hml, hown, hts⟩ (k_X3_thrown l D G h0 z9.1 u9 z9.2) (cwV 0 hts gL_law_X3_thrown rfl rfl rfl (by decide +kernel) ⟨(Nat.le_of_ble_eq_true rfl), (Nat.le_of_ble_eq_true rfl)⟩) ⟨fun a U g mk q => ⟨q.1, Pr_cg q.2⟩, va_recv (ci := 4) (q0 := 3) hK hP rfl (Q_m hRr), fun U hU hW => ⟨rfl, Pr_mk hE hRc hRr hRo hP hD hS hU hW⟩⟩ rfl rfl hl.1 rfl (lv_room (Nat.le_of_ble_eq_true rfl)) dL_law_544 ⟨(show _ ≤ 601024 by omega), (show _ ≤ 7293033 by omega)⟩) hS (fun t9 _ H locs wl ht9 hRc hRr hRo hP hD hS => ?_)
        refine n_top (y := .int (nI (u9 30 22))) (congrArg Value.int ht9) ?_
        refine lv_iload hx hb dL_law_547 (lv_at hl 1 rfl) ?_
        refine lv_icmp_eq (tgt := 554) hx hb dL_law_549 (by decide) (fun _ => ?_) (fun z => absurd ho1.symm z)
        refine lv_iload hx hb dL_law_554 (lv_at hl 1 rfl) ?_
        refine lv_if_ne (tgt := 571) hx hb dL_law_556 (by decide) (fun c0 => ?_) (fun c0 => ?_)
        · skip
          refine lv_goto (tgt := 1043) hx hb dL_law_571 (by decide) ?_
          refine lv_iinc (v := nI (4 * (i + 1))) (lv' := [(4, .int (nI (4 * (i + 1)))), (6, .int v9), (5, .int k9), (0, .ref b), (1, .ref (G 0)), (2, .ref (G 3)), (3, .ref (G 4))]) hx hb dL_law_1043 hl (k := 2) rfl ((nI_add (4 * i) 4).trans (congrArg nI (show 4 * i + 4 = 4 * (i + 1) by omega))) (by decide) rfl (fun ls hl => ?_)
          refine lv_goto (tgt := 23) hx hb dL_law_1046 (by decide) ?_
          refine W.widen (k := 1000 + 7 * (i + 1)) (n := 10000 + 2033 * (i + 1)) (by omega) (by omega) ?_
          exact ih (i + 1) z9.1 u9 z9.2 (by omega) (by omega) hV2 H locs wl ls hRc hRr hRo hP hD hS (lv_sub hl [0, 3, 4, 5, 6] rfl)
        · have k0 : k9 = nI 0 := nz0 c0
          refine lv_aload_n hx hb dL_law_559 rfl (lv_at hl 6 rfl) ?_
          refine lv_iconst (v := nI 0) hx hb dL_law_560 (by decide) ?_
          refine va_lald hx hb hK hP 4 4 hRo rfl (vp_in_nI (by decide) (by decide)) dL_law_561 ?_
          refine lv_iload hx hb dL_law_562 (lv_at hl 0 rfl) ?_
          refine lv_i2l (v := v9.toInt64) hx hb dL_law_564 rfl ?_
          refine x_lcmp hx hb (ho2 k0).symm dL_law_565 ?_
          refine lv_if_eq (tgt := 571) hx hb dL_law_566 (by decide) (fun _ => ?_) (fun z => absurd rfl z)
          refine lv_goto (tgt := 1043) hx hb dL_law_571 (by decide) ?_
          refine lv_iinc (v := nI (4 * (i + 1))) (lv' := [(4, .int (nI (4 * (i + 1)))), (6, .int v9), (5, .int k9), (0, .ref b), (1, .ref (G 0)), (2, .ref (G 3)), (3, .ref (G 4))]) hx hb dL_law_1043 hl (k := 2) rfl ((nI_add (4 * i) 4).trans (congrArg nI (show 4 * i + 4 = 4 * (i + 1) by omega))) (by decide) rfl (fun ls hl => ?_)
          refine lv_goto (tgt := 23) hx hb dL_law_1046 (by decide) ?_
          refine W.widen (k := 1000 + 7 * (i + 1)) (n := 10000 + 2033 * (i + 1)) (by omega) (by omega) ?_
          exact ih (i + 1) z9.1 u9 z9.2 (by omega) (by omega) hV2 H locs wl ls hRc hRr hRo hP hD hS (lv_sub hl [0, 3, 4, 5, 6] rfl)
      · refine lv_tableIn (off := 535) (tgt := 574) hx hb dL_law_39 (by rw [htI]; decide) (by rw [htI]; decide) (by rw [htI]; rfl) (by decide) ?_
        refine lv_aload_n hx hb dL_law_574 rfl (lv_at hl 2 rfl) ?_
        refine lv_aload_n hx hb dL_law_575 rfl (lv_at hl 1 rfl) ?_
        refine lv_iload hx hb dL_law_576 (lv_at hl 0 rfl) ?_
        refine lv_iconst (v := nI 1) hx hb dL_law_578 (by decide) ?_
        refine n_iadd hx hb dL_law_579 ?_
        refine va_sld hx hb hX hbl hbA hS (vp_in_nI (by omega) (by omega)) dL_law_580 ?_
        refine lv_aload_n hx hb dL_law_581 rfl (lv_at hl 1 rfl) ?_
        refine lv_iload hx hb dL_law_582 (lv_at hl 0 rfl) ?_
        refine lv_iconst (v := nI 2) hx hb dL_law_584 (by decide) ?_
        refine n_iadd hx hb dL_law_585 ?_
        refine va_sld hx hb hX hbl hbA hS (vp_in_nI (by omega) (by omega)) dL_law_586 ?_
        refine lv_aload_n hx hb dL_law_587 rfl (lv_at hl 4 rfl) ?_
        refine y_calli (va_SW (As := [.ref (G 0), .int (xs (nI (4 * i + 1)).toNatClampNeg), .int (xs (nI (4 * i + 2)).toNatClampNeg), .ref (G 4)]) (rest := []) hx hb hml hown hts (k_L_setTime l hlt D G h0 c r o (xs (nI (4 * i + 1)).toNatClampNeg) (xs (nI (4 * i + 2)).toNatClampNeg) hV.1) (vx_cwSW 4 hts gL_law_L_setTime rfl rfl rfl (by decide +kernel) ⟨(Nat.le_of_ble_eq_true rfl), (Nat.le_of_ble_eq_true rfl)⟩) (fun a U g mk q => ⟨q.1, Pr_cg q.2⟩) (fun U hU hW => ⟨rfl, Pr_mk hE hRc hRr hRo hP hD hS hU hW⟩) rfl hl.1 rfl (lv_room (Nat.le_of_ble_eq_true rfl)) dL_law_588 (show 1000 + 7 * i + 2 ≤ 601024 by omega) (show 10000 + 2033 * i + 12 ≤ 7293033 by omega)) hS (fun k9 z9 H locs wl hk9 hRc hRr hRo hP hD hS => ?_)
        refine lv_istore (lv' := [(5, .int k9), (4, .int (nI (4 * i))), (0, .ref b), (1, .ref (G 0)), (2, .ref (G 3)), (3, .ref (G 4))]) hx hb dL_law_591 hl (by decide) rfl (fun ls hl => ?_)
        refine lv_aload_n hx hb dL_law_593 rfl (lv_at hl 4 rfl) ?_
        refine lv_aload_n hx hb dL_law_594 rfl (lv_at hl 2 rfl) ?_
        refine lv_iload hx hb dL_law_595 (lv_at hl 1 rfl) ?_
        refine lv_iconst (v := nI 1) hx hb dL_law_597 (by decide) ?_
        refine n_iadd hx hb dL_law_598 ?_
        refine va_sld hx hb hX hbl hbA hS (vp_in_nI (by omega) (by omega)) dL_law_599 ?_
        refine lv_aload_n hx hb dL_law_600 rfl (lv_at hl 2 rfl) ?_
        refine lv_iload hx hb dL_law_601 (lv_at hl 1 rfl) ?_
        refine lv_iconst (v := nI 2) hx hb dL_law_603 (by decide) ?_
        refine n_iadd hx hb dL_law_604 ?_
        refine va_sld hx hb hX hbl hbA hS (vp_in_nI (by omega) (by omega)) dL_law_605 ?_
        refine y_calli (va_runV (As := [.int (xs (nI (4 * i + 1)).toNatClampNeg), .int (xs (nI (4 * i + 2)).toNatClampNeg)]) (rest := []) ⟨hx, hb, hml, hown, hts⟩ (k_X3_setTime l D G h0 z9.1 r z9.2 (xs (nI (4 * i + 1)).toNatClampNeg) (xs (nI (4 * i + 2)).toNatClampNeg) hV.2.1) (cwV 2 hts gL_law_X3_setTime rfl rfl rfl (by decide +kernel) ⟨(Nat.le_of_ble_eq_true rfl), (Nat.le_of_ble_eq_true rfl)⟩) ⟨fun a U g mk q => ⟨q.1, Pr_cg q.2⟩, va_recv (ci := 4) (q0 := 3) hK hP rfl (Q_m hRr), fun U hU hW => ⟨rfl, Pr_mk hE hRc hRr hRo hP hD hS hU hW⟩⟩ rfl rfl hl.1 rfl (lv_room (Nat.le_of_ble_eq_true rfl)) dL_law_606 ⟨(show _ ≤ 601024 by omega), (show _ ≤ 7293033 by omega)⟩) hS (fun v9 u9 H locs wl hv9 hRc hRr hRo hP hD hS => ?_)
        obtain ⟨ho1, ho2, hV2⟩ := T_setTime hV hk9 hv9
        refine lv_istore (lv' := [(6, .int v9), (5, .int k9), (4, .int (nI (4 * i))), (0, .ref b), (1, .ref (G 0)), (2, .ref (G 3)), (3, .ref (G 4))]) hx hb dL_law_609 hl (by decide) rfl (fun ls hl => ?_)
        refine lv_aload_n hx hb dL_law_611 rfl (lv_at hl 5 rfl) ?_
        refine y_calli (va_runV (As := []) (rest := []) ⟨hx, hb, hml, hown, hts⟩ (k_X3_thrown l D G h0 z9.1 u9 z9.2) (cwV 0 hts gL_law_X3_thrown rfl rfl rfl (by decide +kernel) ⟨(Nat.le_of_ble_eq_true rfl), (Nat.le_of_ble_eq_true rfl)⟩) ⟨fun a U g mk q => ⟨q.1, Pr_cg q.2⟩, va_recv (ci := 4) (q0 := 3) hK hP rfl (Q_m hRr), fun U hU hW => ⟨rfl, Pr_mk hE hRc hRr hRo hP hD hS hU hW⟩⟩ rfl rfl hl.1 rfl (lv_room (Nat.le_of_ble_eq_true rfl)) dL_law_612 ⟨(show _ ≤ 601024 by omega), (show _ ≤ 7293033 by omega)⟩) hS (fun t9 _ H locs wl ht9 hRc hRr hRo hP hD hS => ?_)
        refine n_top (y := .int (nI (u9 30 22))) (congrArg Value.int ht9) ?_
        refine lv_iload hx hb dL_law_615 (lv_at hl 1 rfl) ?_
        refine lv_icmp_eq (tgt := 622) hx hb dL_law_617 (by decide) (fun _ => ?_) (fun z => absurd ho1.symm z)
        refine lv_iload hx hb dL_law_622 (lv_at hl 1 rfl) ?_
        refine lv_if_ne (tgt := 639) hx hb dL_law_624 (by decide) (fun c0 => ?_) (fun c0 => ?_)
        · skip
          refine lv_goto (tgt := 1043) hx hb dL_law_639 (by decide) ?_
          refine lv_iinc (v := nI (4 * (i + 1))) (lv' := [(4, .int (nI (4 * (i + 1)))), (6, .int v9), (5, .int k9), (0, .ref b), (1, .ref (G 0)), (2, .ref (G 3)), (3, .ref (G 4))]) hx hb dL_law_1043 hl (k := 2) rfl ((nI_add (4 * i) 4).trans (congrArg nI (show 4 * i + 4 = 4 * (i + 1) by omega))) (by decide) rfl (fun ls hl => ?_)
          refine lv_goto (tgt := 23) hx hb dL_law_1046 (by decide) ?_
          refine W.widen (k := 1000 + 7 * (i + 1)) (n := 10000 + 2033 * (i + 1)) (by omega) (by omega) ?_
          exact ih (i + 1) z9.1 u9 z9.2 (by omega) (by omega) hV2 H locs wl ls hRc hRr hRo hP hD hS (lv_sub hl [0, 3, 4, 5, 6] rfl)
        · have k0 : k9 = nI 0 := nz0 c0
          refine lv_aload_n hx hb dL_law_627 rfl (lv_at hl 6 rfl) ?_
          refine lv_iconst (v := nI 0) hx hb dL_law_628 (by decide) ?_
          refine va_lald hx hb hK hP 4 4 hRo rfl (vp_in_nI (by decide) (by decide)) dL_law_629 ?_
          refine lv_iload hx hb dL_law_630 (lv_at hl 0 rfl) ?_
          refine lv_i2l (v := v9.toInt64) hx hb dL_law_632 rfl ?_
          refine x_lcmp hx hb (ho2 k0).symm dL_law_633 ?_
          refine lv_if_eq (tgt := 639) hx hb dL_law_634 (by decide) (fun _ => ?_) (fun z => absurd rfl z)
          refine lv_goto (tgt := 1043) hx hb dL_law_639 (by decide) ?_
          refine lv_iinc (v := nI (4 * (i + 1))) (lv' := [(4, .int (nI (4 * (i + 1)))), (6, .int v9), (5, .int k9), (0, .ref b), (1, .ref (G 0)), (2, .ref (G 3)), (3, .ref (G 4))]) hx hb dL_law_1043 hl (k := 2) rfl ((nI_add (4 * i) 4).trans (congrArg nI (show 4 * i + 4 = 4 * (i + 1) by omega))) (by decide) rfl (fun ls hl => ?_)
          refine lv_goto (tgt := 23) hx hb dL_law_1046 (by decide) ?_
          refine W.widen (k := 1000 + 7 * (i + 1)) (n := 10000 + 2033 * (i + 1)) (by omega) (by omega) ?_
          exact ih (i + 1) z9.1 u9 z9.2 (by omega) (by omega) hV2 H locs wl ls hRc hRr hRo hP hD hS (lv_sub hl [0, 3, 4, 5, 6] rfl)
      · refine lv_tableIn (off := 603) (tgt := 642) hx hb dL_law_39 (by rw [htI]; decide) (by rw [htI]; decide) (by rw [htI]; rfl) (by decide) ?_
        refine lv_aload_n hx hb dL_law_642 rfl (lv_at hl 2 rfl) ?_
        refine y_calli (va_runV (As := []) (rest := []) ⟨hx, hb, hml, hown, hts⟩ (k_X2_units l D G h0 c r o ) (cwV 0 hts gL_law_X2_units rfl rfl rfl (by decide +kernel) ⟨(Nat.le_of_ble_eq_true rfl), (Nat.le_of_ble_eq_true rfl)⟩) ⟨fun a U g mk q => ⟨q.1, Pr_cg q.2⟩, va_recv (ci := 3) (q0 := 0) hK hP rfl (Q_o hRc), fun U hU hW => ⟨rfl, Pr_mk hE hRc hRr hRo hP hD hS hU hW⟩⟩ rfl rfl hl.1 rfl (lv_room (Nat.le_of_ble_eq_true rfl)) dL_law_643 ⟨(show _ ≤ 601024 by omega), (show _ ≤ 7293033 by omega)⟩) hS (fun k9 _ H locs wl hk9 hRc hRr hRo hP hD hS => ?_)
        refine lv_aload_n hx hb dL_law_646 rfl (lv_at hl 3 rfl) ?_
        refine y_calli (va_runV (As := []) (rest := [.int k9]) ⟨hx, hb, hml, hown, hts⟩ (k_X3_units l D G h0 c r o ) (cwV 0 hts gL_law_X3_units rfl rfl rfl (by decide +kernel) ⟨(Nat.le_of_ble_eq_true rfl), (Nat.le_of_ble_eq_true rfl)⟩) ⟨fun a U g mk q => ⟨q.1, Pr_cg q.2⟩, va_recv (ci := 4) (q0 := 3) hK hP rfl (Q_m hRr), fun U hU hW => ⟨rfl, Pr_mk hE hRc hRr hRo hP hD hS hU hW⟩⟩ rfl rfl hl.1 rfl (lv_room (Nat.le_of_ble_eq_true rfl)) dL_law_647 ⟨(show _ ≤ 601024 by omega), (show _ ≤ 7293033 by omega)⟩) hS (fun v9 _ H locs wl hv9 hRc hRr hRo hP hD hS => ?_)
        refine lv_icmp_eq (tgt := 1043) hx hb dL_law_650 (by decide) (fun _ => ?_) (fun z => absurd (hk9.trans ((congrArg nI (T_units hV)).trans hv9.symm)) z)
        refine lv_iinc (v := nI (4 * (i + 1))) (lv' := [(4, .int (nI (4 * (i + 1)))), (0, .ref b), (1, .ref (G 0)), (2, .ref (G 3)), (3, .ref (G 4))]) hx hb dL_law_1043 hl (k := 0) rfl ((nI_add (4 * i) 4).trans (congrArg nI (show 4 * i + 4 = 4 * (i + 1) by omega))) (by decide) rfl (fun ls hl => ?_)
        refine lv_goto (tgt := 23) hx hb dL_law_1046 (by decide) ?_
        refine W.widen (k := 1000 + 7 * (i + 1)) (n := 10000 + 2033 * (i + 1)) (by omega) (by omega) ?_
        exact ih (i + 1) c (up2 r 30 22 0) o (by omega) (by omega) (Inv_thr hV (Nat.zero_le _)) H locs wl ls hRc hRr hRo hP hD hS (lv_sub hl [0, 1, 2, 3, 4] rfl)
      · refine lv_tableIn (off := 616) (tgt := 655) hx hb dL_law_39 (by rw [htI]; decide) (by rw [htI]; decide) (by rw [htI]; rfl) (by decide) ?_
        refine lv_aload_n hx hb dL_law_655 rfl (lv_at hl 2 rfl) ?_
        refine lv_aload_n hx hb dL_law_656 rfl (lv_at hl 1 rfl) ?_
        refine lv_iload hx hb dL_law_657 (lv_at hl 0 rfl) ?_
        refine lv_iconst (v := nI 1) hx hb dL_law_659 (by decide) ?_
        refine n_iadd hx hb dL_law_660 ?_
        refine va_sld hx hb hX hbl hbA hS (vp_in_nI (by omega) (by omega)) dL_law_661 ?_
        refine lv_aload_n hx hb dL_law_662 rfl (lv_at hl 4 rfl) ?_
        refine y_calli (va_SW (As := [.ref (G 0), .int (xs (nI (4 * i + 1)).toNatClampNeg), .ref (G 4)]) (rest := []) hx hb hml hown hts (k_L_learned l hlt D G h0 c r o (xs (nI (4 * i + 1)).toNatClampNeg) hV.1) (vx_cwSW 3 hts gL_law_L_learned rfl rfl rfl (by decide +kernel) ⟨(Nat.le_of_ble_eq_true rfl), (Nat.le_of_ble_eq_true rfl)⟩) (fun a U g mk q => ⟨q.1, Pr_cg q.2⟩) (fun U hU hW => ⟨rfl, Pr_mk hE hRc hRr hRo hP hD hS hU hW⟩) rfl hl.1 rfl (lv_room (Nat.le_of_ble_eq_true rfl)) dL_law_663 (show 1000 + 7 * i + 1 ≤ 601024 by omega) (show 10000 + 2033 * i + 6 ≤ 7293033 by omega)) hS (fun k9 z9 H locs wl hk9 hRc hRr hRo hP hD hS => ?_)
        refine lv_istore (lv' := [(5, .int k9), (4, .int (nI (4 * i))), (0, .ref b), (1, .ref (G 0)), (2, .ref (G 3)), (3, .ref (G 4))]) hx hb dL_law_666 hl (by decide) rfl (fun ls hl => ?_)
        refine lv_aload_n hx hb dL_law_668 rfl (lv_at hl 4 rfl) ?_
        refine lv_aload_n hx hb dL_law_669 rfl (lv_at hl 2 rfl) ?_
        refine lv_iload hx hb dL_law_670 (lv_at hl 1 rfl) ?_
        refine lv_iconst (v := nI 1) hx hb dL_law_672 (by decide) ?_
        refine n_iadd hx hb dL_law_673 ?_
        refine va_sld hx hb hX hbl hbA hS (vp_in_nI (by omega) (by omega)) dL_law_674 ?_
        refine y_calli (va_runV (As := [.int (xs (nI (4 * i + 1)).toNatClampNeg)]) (rest := []) ⟨hx, hb, hml, hown, hts⟩ (k_X3_learned l D G h0 z9.1 r z9.2 (xs (nI (4 * i + 1)).toNatClampNeg) hV.2.1) (cwV 1 hts gL_law_X3_learned rfl rfl rfl (by decide +kernel) ⟨(Nat.le_of_ble_eq_true rfl), (Nat.le_of_ble_eq_true rfl)⟩) ⟨fun a U g mk q => ⟨q.1, Pr_cg q.2⟩, va_recv (ci := 4) (q0 := 3) hK hP rfl (Q_m hRr), fun U hU hW => ⟨rfl, Pr_mk hE hRc hRr hRo hP hD hS hU hW⟩⟩ rfl rfl hl.1 rfl (lv_room (Nat.le_of_ble_eq_true rfl)) dL_law_675 ⟨(show _ ≤ 601024 by omega), (show _ ≤ 7293033 by omega)⟩) hS (fun v9 u9 H locs wl hv9 hRc hRr hRo hP hD hS => ?_)
        obtain ⟨ho1, ho2, hV2⟩ := T_learned hV hk9 hv9
        refine lv_istore (lv' := [(6, .int v9), (5, .int k9), (4, .int (nI (4 * i))), (0, .ref b), (1, .ref (G 0)), (2, .ref (G 3)), (3, .ref (G 4))]) hx hb dL_law_678 hl (by decide) rfl (fun ls hl => ?_)
        refine lv_aload_n hx hb dL_law_680 rfl (lv_at hl 5 rfl) ?_
        refine y_calli (va_runV (As := []) (rest := []) ⟨hx, hb, hml, hown, hts⟩ (k_X3_thrown l D G h0 z9.1 u9 z9.2) (cwV 0 hts gL_law_X3_thrown rfl rfl rfl (by decide +kernel) ⟨(Nat.le_of_ble_eq_true rfl), (Nat.le_of_ble_eq_true rfl)⟩) ⟨fun a U g mk q => ⟨q.1, Pr_cg q.2⟩, va_recv (ci := 4) (q0 := 3) hK hP rfl (Q_m hRr), fun U hU hW => ⟨rfl, Pr_mk hE hRc hRr hRo hP hD hS hU hW⟩⟩ rfl rfl hl.1 rfl (lv_room (Nat.le_of_ble_eq_true rfl)) dL_law_681 ⟨(show _ ≤ 601024 by omega), (show _ ≤ 7293033 by omega)⟩) hS (fun t9 _ H locs wl ht9 hRc hRr hRo hP hD hS => ?_)
        refine n_top (y := .int (nI (u9 30 22))) (congrArg Value.int ht9) ?_
        refine lv_iload hx hb dL_law_684 (lv_at hl 1 rfl) ?_
        refine lv_icmp_eq (tgt := 691) hx hb dL_law_686 (by decide) (fun _ => ?_) (fun z => absurd ho1.symm z)
        refine lv_iload hx hb dL_law_691 (lv_at hl 1 rfl) ?_
        refine lv_if_ne (tgt := 708) hx hb dL_law_693 (by decide) (fun c0 => ?_) (fun c0 => ?_)
        · skip
          refine lv_goto (tgt := 1043) hx hb dL_law_708 (by decide) ?_
          refine lv_iinc (v := nI (4 * (i + 1))) (lv' := [(4, .int (nI (4 * (i + 1)))), (6, .int v9), (5, .int k9), (0, .ref b), (1, .ref (G 0)), (2, .ref (G 3)), (3, .ref (G 4))]) hx hb dL_law_1043 hl (k := 2) rfl ((nI_add (4 * i) 4).trans (congrArg nI (show 4 * i + 4 = 4 * (i + 1) by omega))) (by decide) rfl (fun ls hl => ?_)
          refine lv_goto (tgt := 23) hx hb dL_law_1046 (by decide) ?_
          refine W.widen (k := 1000 + 7 * (i + 1)) (n := 10000 + 2033 * (i + 1)) (by omega) (by omega) ?_
          exact ih (i + 1) z9.1 u9 z9.2 (by omega) (by omega) hV2 H locs wl ls hRc hRr hRo hP hD hS (lv_sub hl [0, 3, 4, 5, 6] rfl)
        · have k0 : k9 = nI 0 := nz0 c0
          refine lv_aload_n hx hb dL_law_696 rfl (lv_at hl 6 rfl) ?_
          refine lv_iconst (v := nI 0) hx hb dL_law_697 (by decide) ?_
          refine va_lald hx hb hK hP 4 4 hRo rfl (vp_in_nI (by decide) (by decide)) dL_law_698 ?_
          refine lv_iload hx hb dL_law_699 (lv_at hl 0 rfl) ?_
          refine lv_i2l (v := v9.toInt64) hx hb dL_law_701 rfl ?_
          refine x_lcmp hx hb (ho2 k0).symm dL_law_702 ?_
          refine lv_if_eq (tgt := 708) hx hb dL_law_703 (by decide) (fun _ => ?_) (fun z => absurd rfl z)
          refine lv_goto (tgt := 1043) hx hb dL_law_708 (by decide) ?_
          refine lv_iinc (v := nI (4 * (i + 1))) (lv' := [(4, .int (nI (4 * (i + 1)))), (6, .int v9), (5, .int k9), (0, .ref b), (1, .ref (G 0)), (2, .ref (G 3)), (3, .ref (G 4))]) hx hb dL_law_1043 hl (k := 2) rfl ((nI_add (4 * i) 4).trans (congrArg nI (show 4 * i + 4 = 4 * (i + 1) by omega))) (by decide) rfl (fun ls hl => ?_)
          refine lv_goto (tgt := 23) hx hb dL_law_1046 (by decide) ?_
          refine W.widen (k := 1000 + 7 * (i + 1)) (n := 10000 + 2033 * (i + 1)) (by omega) (by omega) ?_
          exact ih (i + 1) z9.1 u9 z9.2 (by omega) (by omega) hV2 H locs wl ls hRc hRr hRo hP hD hS (lv_sub hl [0, 3, 4, 5, 6] rfl)
      · refine lv_tableIn (off := 672) (tgt := 711) hx hb dL_law_39 (by rw [htI]; decide) (by rw [htI]; decide) (by rw [htI]; rfl) (by decide) ?_
        refine lv_aload_n hx hb dL_law_711 rfl (lv_at hl 2 rfl) ?_
        refine lv_aload_n hx hb dL_law_712 rfl (lv_at hl 1 rfl) ?_
        refine lv_iload hx hb dL_law_713 (lv_at hl 0 rfl) ?_
        refine lv_iconst (v := nI 1) hx hb dL_law_715 (by decide) ?_
        refine n_iadd hx hb dL_law_716 ?_
        refine va_sld hx hb hX hbl hbA hS (vp_in_nI (by omega) (by omega)) dL_law_717 ?_
        refine lv_aload_n hx hb dL_law_718 rfl (lv_at hl 4 rfl) ?_
        refine y_calli (va_SW (As := [.ref (G 0), .int (xs (nI (4 * i + 1)).toNatClampNeg), .ref (G 4)]) (rest := []) hx hb hml hown hts (k_L_faults l hlt D G h0 c r o (xs (nI (4 * i + 1)).toNatClampNeg) hV.1) (vx_cwSW 3 hts gL_law_L_faults rfl rfl rfl (by decide +kernel) ⟨(Nat.le_of_ble_eq_true rfl), (Nat.le_of_ble_eq_true rfl)⟩) (fun a U g mk q => ⟨q.1, Pr_cg q.2⟩) (fun U hU hW => ⟨rfl, Pr_mk hE hRc hRr hRo hP hD hS hU hW⟩) rfl hl.1 rfl (lv_room (Nat.le_of_ble_eq_true rfl)) dL_law_719 (show 1000 + 7 * i + 1 ≤ 601024 by omega) (show 10000 + 2033 * i + 6 ≤ 7293033 by omega)) hS (fun k9 z9 H locs wl hk9 hRc hRr hRo hP hD hS => ?_)
        refine lv_istore (lv' := [(5, .int k9), (4, .int (nI (4 * i))), (0, .ref b), (1, .ref (G 0)), (2, .ref (G 3)), (3, .ref (G 4))]) hx hb dL_law_722 hl (by decide) rfl (fun ls hl => ?_)
        refine lv_aload_n hx hb dL_law_724 rfl (lv_at hl 4 rfl) ?_
        refine lv_aload_n hx hb dL_law_725 rfl (lv_at hl 2 rfl) ?_
        refine lv_iload hx hb dL_law_726 (lv_at hl 1 rfl) ?_
        refine lv_iconst (v := nI 1) hx hb dL_law_728 (by decide) ?_
        refine n_iadd hx hb dL_law_729 ?_
        refine va_sld hx hb hX hbl hbA hS (vp_in_nI (by omega) (by omega)) dL_law_730 ?_
        refine y_calli (va_runV (As := [.int (xs (nI (4 * i + 1)).toNatClampNeg)]) (rest := []) ⟨hx, hb, hml, hown, hts⟩ (k_X3_faults l D G h0 z9.1 r z9.2 (xs (nI (4 * i + 1)).toNatClampNeg) hV.2.1) (cwV 1 hts gL_law_X3_faults rfl rfl rfl (by decide +kernel) ⟨(Nat.le_of_ble_eq_true rfl), (Nat.le_of_ble_eq_true rfl)⟩) ⟨fun a U g mk q => ⟨q.1, Pr_cg q.2⟩, va_recv (ci := 4) (q0 := 3) hK hP rfl (Q_m hRr), fun U hU hW => ⟨rfl, Pr_mk hE hRc hRr hRo hP hD hS hU hW⟩⟩ rfl rfl hl.1 rfl (lv_room (Nat.le_of_ble_eq_true rfl)) dL_law_731 ⟨(show _ ≤ 601024 by omega), (show _ ≤ 7293033 by omega)⟩) hS (fun v9 u9 H locs wl hv9 hRc hRr hRo hP hD hS => ?_)
        obtain ⟨ho1, ho2, hV2⟩ := T_faults hV hk9 hv9
        refine lv_istore (lv' := [(6, .int v9), (5, .int k9), (4, .int (nI (4 * i))), (0, .ref b), (1, .ref (G 0)), (2, .ref (G 3)), (3, .ref (G 4))]) hx hb dL_law_734 hl (by decide) rfl (fun ls hl => ?_)
        refine lv_aload_n hx hb dL_law_736 rfl (lv_at hl 5 rfl) ?_
        refine y_calli (va_runV (As := []) (rest := []) ⟨hx, hb, hml, hown, hts⟩ (k_X3_thrown l D G h0 z9.1 u9 z9.2) (cwV 0 hts gL_law_X3_thrown rfl rfl rfl (by decide +kernel) ⟨(Nat.le_of_ble_eq_true rfl), (Nat.le_of_ble_eq_true rfl)⟩) ⟨fun a U g mk q => ⟨q.1, Pr_cg q.2⟩, va_recv (ci := 4) (q0 := 3) hK hP rfl (Q_m hRr), fun U hU hW => ⟨rfl, Pr_mk hE hRc hRr hRo hP hD hS hU hW⟩⟩ rfl rfl hl.1 rfl (lv_room (Nat.le_of_ble_eq_true rfl)) dL_law_737 ⟨(show _ ≤ 601024 by omega), (show _ ≤ 7293033 by omega)⟩) hS (fun t9 _ H locs wl ht9 hRc hRr hRo hP hD hS => ?_)
        refine n_top (y := .int (nI (u9 30 22))) (congrArg Value.int ht9) ?_
        refine lv_iload hx hb dL_law_740 (lv_at hl 1 rfl) ?_
        refine lv_icmp_eq (tgt := 747) hx hb dL_law_742 (by decide) (fun _ => ?_) (fun z => absurd ho1.symm z)
        refine lv_iload hx hb dL_law_747 (lv_at hl 1 rfl) ?_
        refine lv_if_ne (tgt := 764) hx hb dL_law_749 (by decide) (fun c0 => ?_) (fun c0 => ?_)
        · skip
          refine lv_goto (tgt := 1043) hx hb dL_law_764 (by decide) ?_
          refine lv_iinc (v := nI (4 * (i + 1))) (lv' := [(4, .int (nI (4 * (i + 1)))), (6, .int v9), (5, .int k9), (0, .ref b), (1, .ref (G 0)), (2, .ref (G 3)), (3, .ref (G 4))]) hx hb dL_law_1043 hl (k := 2) rfl ((nI_add (4 * i) 4).trans (congrArg nI (show 4 * i + 4 = 4 * (i + 1) by omega))) (by decide) rfl (fun ls hl => ?_)
          refine lv_goto (tgt := 23) hx hb dL_law_1046 (by decide) ?_
          refine W.widen (k := 1000 + 7 * (i + 1)) (n := 10000 + 2033 * (i + 1)) (by omega) (by omega) ?_
          exact ih (i + 1) z9.1 u9 z9.2 (by omega) (by omega) hV2 H locs wl ls hRc hRr hRo hP hD hS (lv_sub hl [0, 3, 4, 5, 6] rfl)
        · have k0 : k9 = nI 0 := nz0 c0
          refine lv_aload_n hx hb dL_law_752 rfl (lv_at hl 6 rfl) ?_
          refine lv_iconst (v := nI 0) hx hb dL_law_753 (by decide) ?_
          refine va_lald hx hb hK hP 4 4 hRo rfl (vp_in_nI (by decide) (by decide)) dL_law_754 ?_
          refine lv_iload hx hb dL_law_755 (lv_at hl 0 rfl) ?_
          refine lv_i2l (v := v9.toInt64) hx hb dL_law_757 rfl ?_
          refine x_lcmp hx hb (ho2 k0).symm dL_law_758 ?_
          refine lv_if_eq (tgt := 764) hx hb dL_law_759 (by decide) (fun _ => ?_) (fun z => absurd rfl z)
          refine lv_goto (tgt := 1043) hx hb dL_law_764 (by decide) ?_
          refine lv_iinc (v := nI (4 * (i + 1))) (lv' := [(4, .int (nI (4 * (i + 1)))), (6, .int v9), (5, .int k9), (0, .ref b), (1, .ref (G 0)), (2, .ref (G 3)), (3, .ref (G 4))]) hx hb dL_law_1043 hl (k := 2) rfl ((nI_add (4 * i) 4).trans (congrArg nI (show 4 * i + 4 = 4 * (i + 1) by omega))) (by decide) rfl (fun ls hl => ?_)
          refine lv_goto (tgt := 23) hx hb dL_law_1046 (by decide) ?_
          refine W.widen (k := 1000 + 7 * (i + 1)) (n := 10000 + 2033 * (i + 1)) (by omega) (by omega) ?_
          exact ih (i + 1) z9.1 u9 z9.2 (by omega) (by omega) hV2 H locs wl ls hRc hRr hRo hP hD hS (lv_sub hl [0, 3, 4, 5, 6] rfl)
      · refine lv_tableIn (off := 728) (tgt := 767) hx hb dL_law_39 (by rw [htI]; decide) (by rw [htI]; decide) (by rw [htI]; rfl) (by decide) ?_
        refine lv_aload_n hx hb dL_law_767 rfl (lv_at hl 2 rfl) ?_
        refine lv_aload_n hx hb dL_law_768 rfl (lv_at hl 1 rfl) ?_
        refine lv_iload hx hb dL_law_769 (lv_at hl 0 rfl) ?_
        refine lv_iconst (v := nI 1) hx hb dL_law_771 (by decide) ?_
        refine n_iadd hx hb dL_law_772 ?_
        refine va_sld hx hb hX hbl hbA hS (vp_in_nI (by omega) (by omega)) dL_law_773 ?_
        refine lv_aload_n hx hb dL_law_774 rfl (lv_at hl 4 rfl) ?_
        refine y_calli (va_SW (As := [.ref (G 0), .int (xs (nI (4 * i + 1)).toNatClampNeg), .ref (G 4)]) (rest := []) hx hb hml hown hts (k_L_begin l hlt D G h0 c r o (xs (nI (4 * i + 1)).toNatClampNeg) hV.1 hW5 (fun {b9} => Nat.lt_of_le_of_lt (cutC_le _) (show c 30 0 * 100 < 2 ^ 31 by omega))) (vx_cwSW 3 hts gL_law_L_begin rfl rfl rfl (by decide +kernel) ⟨(Nat.le_of_ble_eq_true rfl), (Nat.le_of_ble_eq_true rfl)⟩) (fun a U g mk q => ⟨q.1, Pr_cg q.2⟩) (fun U hU hW => ⟨rfl, Pr_mk hE hRc hRr hRo hP hD hS hU hW⟩) rfl hl.1 rfl (lv_room (Nat.le_of_ble_eq_true rfl)) dL_law_775 (show 1000 + 7 * i + 2 ≤ 601024 by omega) (show 10000 + 2033 * i + 12 ≤ 7293033 by omega)) hS (fun k9 z9 H locs wl hk9 hRc hRr hRo hP hD hS => ?_)
        refine lv_istore (lv' := [(5, .int k9), (4, .int (nI (4 * i))), (0, .ref b), (1, .ref (G 0)), (2, .ref (G 3)), (3, .ref (G 4))]) hx hb dL_law_778 hl (by decide) rfl (fun ls hl => ?_)
        refine lv_aload_n hx hb dL_law_780 rfl (lv_at hl 4 rfl) ?_
        refine lv_aload_n hx hb dL_law_781 rfl (lv_at hl 2 rfl) ?_
        refine lv_iload hx hb dL_law_782 (lv_at hl 1 rfl) ?_
        refine lv_iconst (v := nI 1) hx hb dL_law_784 (by decide) ?_
        refine n_iadd hx hb dL_law_785 ?_
        refine va_sld hx hb hX hbl hbA hS (vp_in_nI (by omega) (by omega)) dL_law_786 ?_
        refine y_calli (va_runV (As := [.int (xs (nI (4 * i + 1)).toNatClampNeg)]) (rest := []) ⟨hx, hb, hml, hown, hts⟩ (k_X3_begin l D G h0 z9.1 r z9.2 (xs (nI (4 * i + 1)).toNatClampNeg) hV.2.1) (cwV 1 hts gL_law_X3_begin rfl rfl rfl (by decide +kernel) ⟨(Nat.le_of_ble_eq_true rfl), (Nat.le_of_ble_eq_true rfl)⟩) ⟨fun a U g mk q => ⟨q.1, Pr_cg q.2⟩, va_recv (ci := 4) (q0 := 3) hK hP rfl (Q_m hRr), fun U hU hW => ⟨rfl, Pr_mk hE hRc hRr hRo hP hD hS hU hW⟩⟩ rfl rfl hl.1 rfl (lv_room (Nat.le_of_ble_eq_true rfl)) dL_law_787 ⟨(show _ ≤ 601024 by omega), (show _ ≤ 7293033 by omega)⟩) hS (fun v9 u9 H locs wl hv9 hRc hRr hRo hP hD hS => ?_)
        obtain ⟨ho1, ho2, hV2⟩ := T_begin hV hk9 hv9
        refine lv_istore (lv' := [(6, .int v9), (5, .int k9), (4, .int (nI (4 * i))), (0, .ref b), (1, .ref (G 0)), (2, .ref (G 3)), (3, .ref (G 4))]) hx hb dL_law_790 hl (by decide) rfl (fun ls hl => ?_)
        refine lv_aload_n hx hb dL_law_792 rfl (lv_at hl 5 rfl) ?_
        refine y_calli (va_runV (As := []) (rest := []) ⟨hx, hb, hml, hown, hts⟩ (k_X3_thrown l D G h0 z9.1 u9 z9.2) (cwV 0 hts gL_law_X3_thrown rfl rfl rfl (by decide +kernel) ⟨(Nat.le_of_ble_eq_true rfl), (Nat.le_of_ble_eq_true rfl)⟩) ⟨fun a U g mk q => ⟨q.1, Pr_cg q.2⟩, va_recv (ci := 4) (q0 := 3) hK hP rfl (Q_m hRr), fun U hU hW => ⟨rfl, Pr_mk hE hRc hRr hRo hP hD hS hU hW⟩⟩ rfl rfl hl.1 rfl (lv_room (Nat.le_of_ble_eq_true rfl)) dL_law_793 ⟨(show _ ≤ 601024 by omega), (show _ ≤ 7293033 by omega)⟩) hS (fun t9 _ H locs wl ht9 hRc hRr hRo hP hD hS => ?_)
        refine n_top (y := .int (nI (u9 30 22))) (congrArg Value.int ht9) ?_
        refine lv_iload hx hb dL_law_796 (lv_at hl 1 rfl) ?_
        refine lv_icmp_eq (tgt := 803) hx hb dL_law_798 (by decide) (fun _ => ?_) (fun z => absurd ho1.symm z)
        refine lv_iload hx hb dL_law_803 (lv_at hl 1 rfl) ?_
        refine lv_if_ne (tgt := 820) hx hb dL_law_805 (by decide) (fun c0 => ?_) (fun c0 => ?_)
        · skip
          refine lv_goto (tgt := 1043) hx hb dL_law_820 (by decide) ?_
          refine lv_iinc (v := nI (4 * (i + 1))) (lv' := [(4, .int (nI (4 * (i + 1)))), (6, .int v9), (5, .int k9), (0, .ref b), (1, .ref (G 0)), (2, .ref (G 3)), (3, .ref (G 4))]) hx hb dL_law_1043 hl (k := 2) rfl ((nI_add (4 * i) 4).trans (congrArg nI (show 4 * i + 4 = 4 * (i + 1) by omega))) (by decide) rfl (fun ls hl => ?_)
          refine lv_goto (tgt := 23) hx hb dL_law_1046 (by decide) ?_
          refine W.widen (k := 1000 + 7 * (i + 1)) (n := 10000 + 2033 * (i + 1)) (by omega) (by omega) ?_
          exact ih (i + 1) z9.1 u9 z9.2 (by omega) (by omega) hV2 H locs wl ls hRc hRr hRo hP hD hS (lv_sub hl [0, 3, 4, 5, 6] rfl)
        · have k0 : k9 = nI 0 := nz0 c0
          refine lv_aload_n hx hb dL_law_808 rfl (lv_at hl 6 rfl) ?_
          refine lv_iconst (v := nI 0) hx hb dL_law_809 (by decide) ?_
          refine va_lald hx hb hK hP 4 4 hRo rfl (vp_in_nI (by decide) (by decide)) dL_law_810 ?_
          refine lv_iload hx hb dL_law_811 (lv_at hl 0 rfl) ?_
          refine lv_i2l (v := v9.toInt64) hx hb dL_law_813 rfl ?_
          refine x_lcmp hx hb (ho2 k0).symm dL_law_814 ?_
          refine lv_if_eq (tgt := 820) hx hb dL_law_815 (by decide) (fun _ => ?_) (fun z => absurd rfl z)
          refine lv_goto (tgt := 1043) hx hb dL_law_820 (by decide) ?_
          refine lv_iinc (v := nI (4 * (i + 1))) (lv' := [(4, .int (nI (4 * (i + 1)))), (6, .int v9), (5, .int k9), (0, .ref b), (1, .ref (G 0)), (2, .ref (G 3)), (3, .ref (G 4))]) hx hb dL_law_1043 hl (k := 2) rfl ((nI_add (4 * i) 4).trans (congrArg nI (show 4 * i + 4 = 4 * (i + 1) by omega))) (by decide) rfl (fun ls hl => ?_)
          refine lv_goto (tgt := 23) hx hb dL_law_1046 (by decide) ?_
          refine W.widen (k := 1000 + 7 * (i + 1)) (n := 10000 + 2033 * (i + 1)) (by omega) (by omega) ?_
          exact ih (i + 1) z9.1 u9 z9.2 (by omega) (by omega) hV2 H locs wl ls hRc hRr hRo hP hD hS (lv_sub hl [0, 3, 4, 5, 6] rfl)
      · refine lv_tableIn (off := 784) (tgt := 823) hx hb dL_law_39 (by rw [htI]; decide) (by rw [htI]; decide) (by rw [htI]; rfl) (by decide) ?_
        refine lv_aload_n hx hb dL_law_823 rfl (lv_at hl 2 rfl) ?_
        refine lv_aload_n hx hb dL_law_824 rfl (lv_at hl 1 rfl) ?_
        refine lv_iload hx hb dL_law_825 (lv_at hl 0 rfl) ?_
        refine lv_iconst (v := nI 1) hx hb dL_law_827 (by decide) ?_
        refine n_iadd hx hb dL_law_828 ?_
        refine va_sld hx hb hX hbl hbA hS (vp_in_nI (by omega) (by omega)) dL_law_829 ?_
        refine lv_aload_n hx hb dL_law_830 rfl (lv_at hl 4 rfl) ?_
        refine y_calli (va_SW (As := [.ref (G 0), .int (xs (nI (4 * i + 1)).toNatClampNeg), .ref (G 4)]) (rest := []) hx hb hml hown hts (k_L_tick l hlt D G h0 c r o (xs (nI (4 * i + 1)).toNatClampNeg) hV.1) (vx_cwSW 3 hts gL_law_L_tick rfl rfl rfl (by decide +kernel) ⟨(Nat.le_of_ble_eq_true rfl), (Nat.le_of_ble_eq_true rfl)⟩) (fun a U g mk q => ⟨q.1, Pr_cg q.2⟩) (fun U hU hW => ⟨rfl, Pr_mk hE hRc hRr hRo hP hD hS hU hW⟩) rfl hl.1 rfl (lv_room (Nat.le_of_ble_eq_true rfl)) dL_law_831 (show 1000 + 7 * i + 2 ≤ 601024 by omega) (show 10000 + 2033 * i + 12 ≤ 7293033 by omega)) hS (fun k9 z9 H locs wl hk9 hRc hRr hRo hP hD hS => ?_)
        refine lv_istore (lv' := [(5, .int k9), (4, .int (nI (4 * i))), (0, .ref b), (1, .ref (G 0)), (2, .ref (G 3)), (3, .ref (G 4))]) hx hb dL_law_834 hl (by decide) rfl (fun ls hl => ?_)
        refine lv_aload_n hx hb dL_law_836 rfl (lv_at hl 4 rfl) ?_
        refine lv_aload_n hx hb dL_law_837 rfl (lv_at hl 2 rfl) ?_
        refine lv_iload hx hb dL_law_838 (lv_at hl 1 rfl) ?_
        refine lv_iconst (v := nI 1) hx hb dL_law_840 (by decide) ?_
        refine n_iadd hx hb dL_law_841 ?_
        refine va_sld hx hb hX hbl hbA hS (vp_in_nI (by omega) (by omega)) dL_law_842 ?_
        refine y_calli (va_runV (As := [.int (xs (nI (4 * i + 1)).toNatClampNeg)]) (rest := []) ⟨hx, hb, hml, hown, hts⟩ (k_X3_tick l D G h0 z9.1 r z9.2 (xs (nI (4 * i + 1)).toNatClampNeg) hV.2.1) (cwV 1 hts gL_law_X3_tick rfl rfl rfl (by decide +kernel) ⟨(Nat.le_of_ble_eq_true rfl), (Nat.le_of_ble_eq_true rfl)⟩) ⟨fun a U g mk q => ⟨q.1, Pr_cg q.2⟩, va_recv (ci := 4) (q0 := 3) hK hP rfl (Q_m hRr), fun U hU hW => ⟨rfl, Pr_mk hE hRc hRr hRo hP hD hS hU hW⟩⟩ rfl rfl hl.1 rfl (lv_room (Nat.le_of_ble_eq_true rfl)) dL_law_843 ⟨(show _ ≤ 601024 by omega), (show _ ≤ 7293033 by omega)⟩) hS (fun v9 u9 H locs wl hv9 hRc hRr hRo hP hD hS => ?_)
        obtain ⟨ho1, ho2, hV2⟩ := T_tick hV hk9 hv9
        refine lv_istore (lv' := [(6, .int v9), (5, .int k9), (4, .int (nI (4 * i))), (0, .ref b), (1, .ref (G 0)), (2, .ref (G 3)), (3, .ref (G 4))]) hx hb dL_law_846 hl (by decide) rfl (fun ls hl => ?_)
        refine lv_aload_n hx hb dL_law_848 rfl (lv_at hl 5 rfl) ?_
        refine y_calli (va_runV (As := []) (rest := []) ⟨hx, hb, hml, hown, hts⟩ (k_X3_thrown l D G h0 z9.1 u9 z9.2) (cwV 0 hts gL_law_X3_thrown rfl rfl rfl (by decide +kernel) ⟨(Nat.le_of_ble_eq_true rfl), (Nat.le_of_ble_eq_true rfl)⟩) ⟨fun a U g mk q => ⟨q.1, Pr_cg q.2⟩, va_recv (ci := 4) (q0 := 3) hK hP rfl (Q_m hRr), fun U hU hW => ⟨rfl, Pr_mk hE hRc hRr hRo hP hD hS hU hW⟩⟩ rfl rfl hl.1 rfl (lv_room (Nat.le_of_ble_eq_true rfl)) dL_law_849 ⟨(show _ ≤ 601024 by omega), (show _ ≤ 7293033 by omega)⟩) hS (fun t9 _ H locs wl ht9 hRc hRr hRo hP hD hS => ?_)
        refine n_top (y := .int (nI (u9 30 22))) (congrArg Value.int ht9) ?_
        refine lv_iload hx hb dL_law_852 (lv_at hl 1 rfl) ?_
        refine lv_icmp_eq (tgt := 859) hx hb dL_law_854 (by decide) (fun _ => ?_) (fun z => absurd ho1.symm z)
        refine lv_iload hx hb dL_law_859 (lv_at hl 1 rfl) ?_
        refine lv_if_ne (tgt := 876) hx hb dL_law_861 (by decide) (fun c0 => ?_) (fun c0 => ?_)
        · skip
          refine lv_goto (tgt := 1043) hx hb dL_law_876 (by decide) ?_
          refine lv_iinc (v := nI (4 * (i + 1))) (lv' := [(4, .int (nI (4 * (i + 1)))), (6, .int v9), (5, .int k9), (0, .ref b), (1, .ref (G 0)), (2, .ref (G 3)), (3, .ref (G 4))]) hx hb dL_law_1043 hl (k := 2) rfl ((nI_add (4 * i) 4).trans (congrArg nI (show 4 * i + 4 = 4 * (i + 1) by omega))) (by decide) rfl (fun ls hl => ?_)
          refine lv_goto (tgt := 23) hx hb dL_law_1046 (by decide) ?_
          refine W.widen (k := 1000 + 7 * (i + 1)) (n := 10000 + 2033 * (i + 1)) (by omega) (by omega) ?_
          exact ih (i + 1) z9.1 u9 z9.2 (by omega) (by omega) hV2 H locs wl ls hRc hRr hRo hP hD hS (lv_sub hl [0, 3, 4, 5, 6] rfl)
        · have k0 : k9 = nI 0 := nz0 c0
          refine lv_aload_n hx hb dL_law_864 rfl (lv_at hl 6 rfl) ?_
          refine lv_iconst (v := nI 0) hx hb dL_law_865 (by decide) ?_
          refine va_lald hx hb hK hP 4 4 hRo rfl (vp_in_nI (by decide) (by decide)) dL_law_866 ?_
          refine lv_iload hx hb dL_law_867 (lv_at hl 0 rfl) ?_
          refine lv_i2l (v := v9.toInt64) hx hb dL_law_869 rfl ?_
          refine x_lcmp hx hb (ho2 k0).symm dL_law_870 ?_
          refine lv_if_eq (tgt := 876) hx hb dL_law_871 (by decide) (fun _ => ?_) (fun z => absurd rfl z)
          refine lv_goto (tgt := 1043) hx hb dL_law_876 (by decide) ?_
          refine lv_iinc (v := nI (4 * (i + 1))) (lv' := [(4, .int (nI (4 * (i + 1)))), (6, .int v9), (5, .int k9), (0, .ref b), (1, .ref (G 0)), (2, .ref (G 3)), (3, .ref (G 4))]) hx hb dL_law_1043 hl (k := 2) rfl ((nI_add (4 * i) 4).trans (congrArg nI (show 4 * i + 4 = 4 * (i + 1) by omega))) (by decide) rfl (fun ls hl => ?_)
          refine lv_goto (tgt := 23) hx hb dL_law_1046 (by decide) ?_
          refine W.widen (k := 1000 + 7 * (i + 1)) (n := 10000 + 2033 * (i + 1)) (by omega) (by omega) ?_
          exact ih (i + 1) z9.1 u9 z9.2 (by omega) (by omega) hV2 H locs wl ls hRc hRr hRo hP hD hS (lv_sub hl [0, 3, 4, 5, 6] rfl)
      · refine lv_tableIn (off := 840) (tgt := 879) hx hb dL_law_39 (by rw [htI]; decide) (by rw [htI]; decide) (by rw [htI]; rfl) (by decide) ?_
        refine lv_aload_n hx hb dL_law_879 rfl (lv_at hl 2 rfl) ?_
        refine y_calli (va_runV (As := []) (rest := []) ⟨hx, hb, hml, hown, hts⟩ (k_X2_goesOn l D G h0 c r o hg3) (cwV 0 hts gL_law_X2_goesOn rfl rfl rfl (by decide +kernel) ⟨(Nat.le_of_ble_eq_true rfl), (Nat.le_of_ble_eq_true rfl)⟩) ⟨fun a U g mk q => ⟨q.1, Pr_cg q.2⟩, va_recv (ci := 3) (q0 := 0) hK hP rfl (Q_o hRc), fun U hU hW => ⟨rfl, Pr_mk hE hRc hRr hRo hP hD hS hU hW⟩⟩ rfl rfl hl.1 rfl (lv_room (Nat.le_of_ble_eq_true rfl)) dL_law_880 ⟨(show _ ≤ 601024 by omega), (show _ ≤ 7293033 by omega)⟩) hS (fun k9 _ H locs wl hk9 hRc hRr hRo hP hD hS => ?_)
        refine lv_aload_n hx hb dL_law_883 rfl (lv_at hl 3 rfl) ?_
        refine y_calli (va_runV (As := []) (rest := [.int k9]) ⟨hx, hb, hml, hown, hts⟩ (k_X3_goesOn l D G h0 c r o hg13) (cwV 0 hts gL_law_X3_goesOn rfl rfl rfl (by decide +kernel) ⟨(Nat.le_of_ble_eq_true rfl), (Nat.le_of_ble_eq_true rfl)⟩) ⟨fun a U g mk q => ⟨q.1, Pr_cg q.2⟩, va_recv (ci := 4) (q0 := 3) hK hP rfl (Q_m hRr), fun U hU hW => ⟨rfl, Pr_mk hE hRc hRr hRo hP hD hS hU hW⟩⟩ rfl rfl hl.1 rfl (lv_room (Nat.le_of_ble_eq_true rfl)) dL_law_884 ⟨(show _ ≤ 601024 by omega), (show _ ≤ 7293033 by omega)⟩) hS (fun v9 _ H locs wl hv9 hRc hRr hRo hP hD hS => ?_)
        refine lv_icmp_eq (tgt := 1043) hx hb dL_law_887 (by decide) (fun _ => ?_) (fun z => absurd (hk9.trans ((congrArg nI (T_goesOn hV)).trans hv9.symm)) z)
        refine lv_iinc (v := nI (4 * (i + 1))) (lv' := [(4, .int (nI (4 * (i + 1)))), (0, .ref b), (1, .ref (G 0)), (2, .ref (G 3)), (3, .ref (G 4))]) hx hb dL_law_1043 hl (k := 0) rfl ((nI_add (4 * i) 4).trans (congrArg nI (show 4 * i + 4 = 4 * (i + 1) by omega))) (by decide) rfl (fun ls hl => ?_)
        refine lv_goto (tgt := 23) hx hb dL_law_1046 (by decide) ?_
        refine W.widen (k := 1000 + 7 * (i + 1)) (n := 10000 + 2033 * (i + 1)) (by omega) (by omega) ?_
        exact ih (i + 1) c (up2 r 30 22 0) o (by omega) (by omega) (Inv_thr hV (Nat.zero_le _)) H locs wl ls hRc hRr hRo hP hD hS (lv_sub hl [0, 1, 2, 3, 4] rfl)
      · refine lv_tableIn (off := 853) (tgt := 892) hx hb dL_law_39 (by rw [htI]; decide) (by rw [htI]; decide) (by rw [htI]; rfl) (by decide) ?_
        refine lv_aload_n hx hb dL_law_892 rfl (lv_at hl 2 rfl) ?_
        refine lv_aload_n hx hb dL_law_893 rfl (lv_at hl 1 rfl) ?_
        refine lv_iload hx hb dL_law_894 (lv_at hl 0 rfl) ?_
        refine lv_iconst (v := nI 1) hx hb dL_law_896 (by decide) ?_
        refine n_iadd hx hb dL_law_897 ?_
        refine va_sld hx hb hX hbl hbA hS (vp_in_nI (by omega) (by omega)) dL_law_898 ?_
        refine lv_aload_n hx hb dL_law_899 rfl (lv_at hl 4 rfl) ?_
        refine y_calli (va_SW (As := [.ref (G 0), .int (xs (nI (4 * i + 1)).toNatClampNeg), .ref (G 4)]) (rest := []) hx hb hml hown hts (k_L_state l hlt D G h0 c r o (xs (nI (4 * i + 1)).toNatClampNeg) hV.1) (vx_cwSW 3 hts gL_law_L_state rfl rfl rfl (by decide +kernel) ⟨(Nat.le_of_ble_eq_true rfl), (Nat.le_of_ble_eq_true rfl)⟩) (fun a U g mk q => ⟨q.1, Pr_cg q.2⟩) (fun U hU hW => ⟨rfl, Pr_mk hE hRc hRr hRo hP hD hS hU hW⟩) rfl hl.1 rfl (lv_room (Nat.le_of_ble_eq_true rfl)) dL_law_900 (show 1000 + 7 * i + 1 ≤ 601024 by omega) (show 10000 + 2033 * i + 6 ≤ 7293033 by omega)) hS (fun k9 z9 H locs wl hk9 hRc hRr hRo hP hD hS => ?_)
        refine lv_istore (lv' := [(5, .int k9), (4, .int (nI (4 * i))), (0, .ref b), (1, .ref (G 0)), (2, .ref (G 3)), (3, .ref (G 4))]) hx hb dL_law_903 hl (by decide) rfl (fun ls hl => ?_)
        refine lv_aload_n hx hb dL_law_905 rfl (lv_at hl 4 rfl) ?_
        refine lv_aload_n hx hb dL_law_906 rfl (lv_at hl 2 rfl) ?_
        refine lv_iload hx hb dL_law_907 (lv_at hl 1 rfl) ?_
        refine lv_iconst (v := nI 1) hx hb dL_law_909 (by decide) ?_
        refine n_iadd hx hb dL_law_910 ?_
        refine va_sld hx hb hX hbl hbA hS (vp_in_nI (by omega) (by omega)) dL_law_911 ?_
        refine y_calli (va_runV (As := [.int (xs (nI (4 * i + 1)).toNatClampNeg)]) (rest := []) ⟨hx, hb, hml, hown, hts⟩ (k_X3_state l D G h0 z9.1 r z9.2 (xs (nI (4 * i + 1)).toNatClampNeg) hV.2.1) (cwV 1 hts gL_law_X3_state rfl rfl rfl (by decide +kernel) ⟨(Nat.le_of_ble_eq_true rfl), (Nat.le_of_ble_eq_true rfl)⟩) ⟨fun a U g mk q => ⟨q.1, Pr_cg q.2⟩, va_recv (ci := 4) (q0 := 3) hK hP rfl (Q_m hRr), fun U hU hW => ⟨rfl, Pr_mk hE hRc hRr hRo hP hD hS hU hW⟩⟩ rfl rfl hl.1 rfl (lv_room (Nat.le_of_ble_eq_true rfl)) dL_law_912 ⟨(show _ ≤ 601024 by omega), (show _ ≤ 7293033 by omega)⟩) hS (fun v9 u9 H locs wl hv9 hRc hRr hRo hP hD hS => ?_)
        obtain ⟨ho1, ho2, hV2⟩ := T_state hV hk9 hv9
        refine lv_istore (lv' := [(6, .int v9), (5, .int k9), (4, .int (nI (4 * i))), (0, .ref b), (1, .ref (G 0)), (2, .ref (G 3)), (3, .ref (G 4))]) hx hb dL_law_915 hl (by decide) rfl (fun ls hl => ?_)
        refine lv_aload_n hx hb dL_law_917 rfl (lv_at hl 5 rfl) ?_
        refine y_calli (va_runV (As := []) (rest := []) ⟨hx, hb, hml, hown, hts⟩ (k_X3_thrown l D G h0 z9.1 u9 z9.2) (cwV 0 hts gL_law_X3_thrown rfl rfl rfl (by decide +kernel) ⟨(Nat.le_of_ble_eq_true rfl), (Nat.le_of_ble_eq_true rfl)⟩) ⟨fun a U g mk q => ⟨q.1, Pr_cg q.2⟩, va_recv (ci := 4) (q0 := 3) hK hP rfl (Q_m hRr), fun U hU hW => ⟨rfl, Pr_mk hE hRc hRr hRo hP hD hS hU hW⟩⟩ rfl rfl hl.1 rfl (lv_room (Nat.le_of_ble_eq_true rfl)) dL_law_918 ⟨(show _ ≤ 601024 by omega), (show _ ≤ 7293033 by omega)⟩) hS (fun t9 _ H locs wl ht9 hRc hRr hRo hP hD hS => ?_)
        refine n_top (y := .int (nI (u9 30 22))) (congrArg Value.int ht9) ?_
        refine lv_iload hx hb dL_law_921 (lv_at hl 1 rfl) ?_
        refine lv_icmp_eq (tgt := 928) hx hb dL_law_923 (by decide) (fun _ => ?_) (fun z => absurd ho1.symm z)
        refine lv_iload hx hb dL_law_928 (lv_at hl 1 rfl) ?_
        refine lv_if_ne (tgt := 945) hx hb dL_law_930 (by decide) (fun c0 => ?_) (fun c0 => ?_)
        · skip
          refine lv_goto (tgt := 1043) hx hb dL_law_945 (by decide) ?_
          refine lv_iinc (v := nI (4 * (i + 1))) (lv' := [(4, .int (nI (4 * (i + 1)))), (6, .int v9), (5, .int k9), (0, .ref b), (1, .ref (G 0)), (2, .ref (G 3)), (3, .ref (G 4))]) hx hb dL_law_1043 hl (k := 2) rfl ((nI_add (4 * i) 4).trans (congrArg nI (show 4 * i + 4 = 4 * (i + 1) by omega))) (by decide) rfl (fun ls hl => ?_)
          refine lv_goto (tgt := 23) hx hb dL_law_1046 (by decide) ?_
          refine W.widen (k := 1000 + 7 * (i + 1)) (n := 10000 + 2033 * (i + 1)) (by omega) (by omega) ?_
          exact ih (i + 1) z9.1 u9 z9.2 (by omega) (by omega) hV2 H locs wl ls hRc hRr hRo hP hD hS (lv_sub hl [0, 3, 4, 5, 6] rfl)
        · have k0 : k9 = nI 0 := nz0 c0
          refine lv_aload_n hx hb dL_law_933 rfl (lv_at hl 6 rfl) ?_
          refine lv_iconst (v := nI 0) hx hb dL_law_934 (by decide) ?_
          refine va_lald hx hb hK hP 4 4 hRo rfl (vp_in_nI (by decide) (by decide)) dL_law_935 ?_
          refine lv_iload hx hb dL_law_936 (lv_at hl 0 rfl) ?_
          refine lv_i2l (v := v9.toInt64) hx hb dL_law_938 rfl ?_
          refine x_lcmp hx hb (ho2 k0).symm dL_law_939 ?_
          refine lv_if_eq (tgt := 945) hx hb dL_law_940 (by decide) (fun _ => ?_) (fun z => absurd rfl z)
          refine lv_goto (tgt := 1043) hx hb dL_law_945 (by decide) ?_
          refine lv_iinc (v := nI (4 * (i + 1))) (lv' := [(4, .int (nI (4 * (i + 1)))), (6, .int v9), (5, .int k9), (0, .ref b), (1, .ref (G 0)), (2, .ref (G 3)), (3, .ref (G 4))]) hx hb dL_law_1043 hl (k := 2) rfl ((nI_add (4 * i) 4).trans (congrArg nI (show 4 * i + 4 = 4 * (i + 1) by omega))) (by decide) rfl (fun ls hl => ?_)
          refine lv_goto (tgt := 23) hx hb dL_law_1046 (by decide) ?_
          refine W.widen (k := 1000 + 7 * (i + 1)) (n := 10000 + 2033 * (i + 1)) (by omega) (by omega) ?_
          exact ih (i + 1) z9.1 u9 z9.2 (by omega) (by omega) hV2 H locs wl ls hRc hRr hRo hP hD hS (lv_sub hl [0, 3, 4, 5, 6] rfl)
      · refine lv_tableIn (off := 909) (tgt := 948) hx hb dL_law_39 (by rw [htI]; decide) (by rw [htI]; decide) (by rw [htI]; rfl) (by decide) ?_
        refine lv_aload_n hx hb dL_law_948 rfl (lv_at hl 2 rfl) ?_
        refine lv_aload_n hx hb dL_law_949 rfl (lv_at hl 1 rfl) ?_
        refine lv_iload hx hb dL_law_950 (lv_at hl 0 rfl) ?_
        refine lv_iconst (v := nI 1) hx hb dL_law_952 (by decide) ?_
        refine n_iadd hx hb dL_law_953 ?_
        refine va_sld hx hb hX hbl hbA hS (vp_in_nI (by omega) (by omega)) dL_law_954 ?_
        refine lv_aload_n hx hb dL_law_955 rfl (lv_at hl 4 rfl) ?_
        refine y_calli (va_SW (As := [.ref (G 0), .int (xs (nI (4 * i + 1)).toNatClampNeg), .ref (G 4)]) (rest := []) hx hb hml hown hts (k_L_waitsFor l hlt D G h0 c r o (xs (nI (4 * i + 1)).toNatClampNeg) hV.1) (vx_cwSW 3 hts gL_law_L_waitsFor rfl rfl rfl (by decide +kernel) ⟨(Nat.le_of_ble_eq_true rfl), (Nat.le_of_ble_eq_true rfl)⟩) (fun a U g mk q => ⟨q.1, Pr_cg q.2⟩) (fun U hU hW => ⟨rfl, Pr_mk hE hRc hRr hRo hP hD hS hU hW⟩) rfl hl.1 rfl (lv_room (Nat.le_of_ble_eq_true rfl)) dL_law_956 (show 1000 + 7 * i + 1 ≤ 601024 by omega) (show 10000 + 2033 * i + 6 ≤ 7293033 by omega)) hS (fun k9 z9 H locs wl hk9 hRc hRr hRo hP hD hS => ?_)
        refine lv_istore (lv' := [(5, .int k9), (4, .int (nI (4 * i))), (0, .ref b), (1, .ref (G 0)), (2, .ref (G 3)), (3, .ref (G 4))]) hx hb dL_law_959 hl (by decide) rfl (fun ls hl => ?_)
        refine lv_aload_n hx hb dL_law_961 rfl (lv_at hl 4 rfl) ?_
        refine lv_aload_n hx hb dL_law_962 rfl (lv_at hl 2 rfl) ?_
        refine lv_iload hx hb dL_law_963 (lv_at hl 1 rfl) ?_
        refine lv_iconst (v := nI 1) hx hb dL_law_965 (by decide) ?_
        refine n_iadd hx hb dL_law_966 ?_
        refine va_sld hx hb hX hbl hbA hS (vp_in_nI (by omega) (by omega)) dL_law_967 ?_
        refine y_calli (va_runV (As := [.int (xs (nI (4 * i + 1)).toNatClampNeg)]) (rest := []) ⟨hx, hb, hml, hown, hts⟩ (k_X3_waitsFor l D G h0 z9.1 r z9.2 (xs (nI (4 * i + 1)).toNatClampNeg) hV.2.1) (cwV 1 hts gL_law_X3_waitsFor rfl rfl rfl (by decide +kernel) ⟨(Nat.le_of_ble_eq_true rfl), (Nat.le_of_ble_eq_true rfl)⟩) ⟨fun a U g mk q => ⟨q.1, Pr_cg q.2⟩, va_recv (ci := 4) (q0 := 3) hK hP rfl (Q_m hRr), fun U hU hW => ⟨rfl, Pr_mk hE hRc hRr hRo hP hD hS hU hW⟩⟩ rfl rfl hl.1 rfl (lv_room (Nat.le_of_ble_eq_true rfl)) dL_law_968 ⟨(show _ ≤ 601024 by omega), (show _ ≤ 7293033 by omega)⟩) hS (fun v9 u9 H locs wl hv9 hRc hRr hRo hP hD hS => ?_)
        obtain ⟨ho1, ho2, hV2⟩ := T_waitsFor hV hk9 hv9
        refine lv_istore (lv' := [(6, .int v9), (5, .int k9), (4, .int (nI (4 * i))), (0, .ref b), (1, .ref (G 0)), (2, .ref (G 3)), (3, .ref (G 4))]) hx hb dL_law_971 hl (by decide) rfl (fun ls hl => ?_)
        refine lv_aload_n hx hb dL_law_973 rfl (lv_at hl 5 rfl) ?_
        refine y_calli (va_runV (As := []) (rest := []) ⟨hx, hb, hml, hown, hts⟩ (k_X3_thrown l D G h0 z9.1 u9 z9.2) (cwV 0 hts gL_law_X3_thrown rfl rfl rfl (by decide +kernel) ⟨(Nat.le_of_ble_eq_true rfl), (Nat.le_of_ble_eq_true rfl)⟩) ⟨fun a U g mk q => ⟨q.1, Pr_cg q.2⟩, va_recv (ci := 4) (q0 := 3) hK hP rfl (Q_m hRr), fun U hU hW => ⟨rfl, Pr_mk hE hRc hRr hRo hP hD hS hU hW⟩⟩ rfl rfl hl.1 rfl (lv_room (Nat.le_of_ble_eq_true rfl)) dL_law_974 ⟨(show _ ≤ 601024 by omega), (show _ ≤ 7293033 by omega)⟩) hS (fun t9 _ H locs wl ht9 hRc hRr hRo hP hD hS => ?_)
        refine n_top (y := .int (nI (u9 30 22))) (congrArg Value.int ht9) ?_
        refine lv_iload hx hb dL_law_977 (lv_at hl 1 rfl) ?_
        refine lv_icmp_eq (tgt := 984) hx hb dL_law_979 (by decide) (fun _ => ?_) (fun z => absurd ho1.symm z)
        refine lv_iload hx hb dL_law_984 (lv_at hl 1 rfl) ?_
        refine lv_if_ne (tgt := 1001) hx hb dL_law_986 (by decide) (fun c0 => ?_) (fun c0 => ?_)
        · skip
          refine lv_goto (tgt := 1043) hx hb dL_law_1001 (by decide) ?_
          refine lv_iinc (v := nI (4 * (i + 1))) (lv' := [(4, .int (nI (4 * (i + 1)))), (6, .int v9), (5, .int k9), (0, .ref b), (1, .ref (G 0)), (2, .ref (G 3)), (3, .ref (G 4))]) hx hb dL_law_1043 hl (k := 2) rfl ((nI_add (4 * i) 4).trans (congrArg nI (show 4 * i + 4 = 4 * (i + 1) by omega))) (by decide) rfl (fun ls hl => ?_)
          refine lv_goto (tgt := 23) hx hb dL_law_1046 (by decide) ?_
          refine W.widen (k := 1000 + 7 * (i + 1)) (n := 10000 + 2033 * (i + 1)) (by omega) (by omega) ?_
          exact ih (i + 1) z9.1 u9 z9.2 (by omega) (by omega) hV2 H locs wl ls hRc hRr hRo hP hD hS (lv_sub hl [0, 3, 4, 5, 6] rfl)
        · have k0 : k9 = nI 0 := nz0 c0
          refine lv_aload_n hx hb dL_law_989 rfl (lv_at hl 6 rfl) ?_
          refine lv_iconst (v := nI 0) hx hb dL_law_990 (by decide) ?_
          refine va_lald hx hb hK hP 4 4 hRo rfl (vp_in_nI (by decide) (by decide)) dL_law_991 ?_
          refine lv_iload hx hb dL_law_992 (lv_at hl 0 rfl) ?_
          refine lv_i2l (v := v9.toInt64) hx hb dL_law_994 rfl ?_
          refine x_lcmp hx hb (ho2 k0).symm dL_law_995 ?_
          refine lv_if_eq (tgt := 1001) hx hb dL_law_996 (by decide) (fun _ => ?_) (fun z => absurd rfl z)
          refine lv_goto (tgt := 1043) hx hb dL_law_1001 (by decide) ?_
          refine lv_iinc (v := nI (4 * (i + 1))) (lv' := [(4, .int (nI (4 * (i + 1)))), (6, .int v9), (5, .int k9), (0, .ref b), (1, .ref (G 0)), (2, .ref (G 3)), (3, .ref (G 4))]) hx hb dL_law_1043 hl (k := 2) rfl ((nI_add (4 * i) 4).trans (congrArg nI (show 4 * i + 4 = 4 * (i + 1) by omega))) (by decide) rfl (fun ls hl => ?_)
          refine lv_goto (tgt := 23) hx hb dL_law_1046 (by decide) ?_
          refine W.widen (k := 1000 + 7 * (i + 1)) (n := 10000 + 2033 * (i + 1)) (by omega) (by omega) ?_
          exact ih (i + 1) z9.1 u9 z9.2 (by omega) (by omega) hV2 H locs wl ls hRc hRr hRo hP hD hS (lv_sub hl [0, 3, 4, 5, 6] rfl)
      · refine lv_tableIn (off := 965) (tgt := 1004) hx hb dL_law_39 (by rw [htI]; decide) (by rw [htI]; decide) (by rw [htI]; rfl) (by decide) ?_
        refine lv_aload_n hx hb dL_law_1004 rfl (lv_at hl 2 rfl) ?_
        refine y_calli (va_runV (As := []) (rest := []) ⟨hx, hb, hml, hown, hts⟩ (k_X2_bar l D G h0 c r o ) (cwV 0 hts gL_law_X2_bar rfl rfl rfl (by decide +kernel) ⟨(Nat.le_of_ble_eq_true rfl), (Nat.le_of_ble_eq_true rfl)⟩) ⟨fun a U g mk q => ⟨q.1, Pr_cg q.2⟩, va_recv (ci := 3) (q0 := 0) hK hP rfl (Q_o hRc), fun U hU hW => ⟨rfl, Pr_mk hE hRc hRr hRo hP hD hS hU hW⟩⟩ rfl rfl hl.1 rfl (lv_room (Nat.le_of_ble_eq_true rfl)) dL_law_1005 ⟨(show _ ≤ 601024 by omega), (show _ ≤ 7293033 by omega)⟩) hS (fun k9 _ H locs wl hk9 hRc hRr hRo hP hD hS => ?_)
        refine lv_aload_n hx hb dL_law_1008 rfl (lv_at hl 3 rfl) ?_
        refine y_calli (va_runV (As := []) (rest := [.int k9]) ⟨hx, hb, hml, hown, hts⟩ (k_X3_bar l D G h0 c r o hg12) (cwV 0 hts gL_law_X3_bar rfl rfl rfl (by decide +kernel) ⟨(Nat.le_of_ble_eq_true rfl), (Nat.le_of_ble_eq_true rfl)⟩) ⟨fun a U g mk q => ⟨q.1, Pr_cg q.2⟩, va_recv (ci := 4) (q0 := 3) hK hP rfl (Q_m hRr), fun U hU hW => ⟨rfl, Pr_mk hE hRc hRr hRo hP hD hS hU hW⟩⟩ rfl rfl hl.1 rfl (lv_room (Nat.le_of_ble_eq_true rfl)) dL_law_1009 ⟨(show _ ≤ 601024 by omega), (show _ ≤ 7293033 by omega)⟩) hS (fun v9 _ H locs wl hv9 hRc hRr hRo hP hD hS => ?_)
        refine lv_icmp_eq (tgt := 1043) hx hb dL_law_1012 (by decide) (fun _ => ?_) (fun z => absurd (hk9.trans ((congrArg nI (T_bar hV)).trans hv9.symm)) z)
        refine lv_iinc (v := nI (4 * (i + 1))) (lv' := [(4, .int (nI (4 * (i + 1)))), (0, .ref b), (1, .ref (G 0)), (2, .ref (G 3)), (3, .ref (G 4))]) hx hb dL_law_1043 hl (k := 0) rfl ((nI_add (4 * i) 4).trans (congrArg nI (show 4 * i + 4 = 4 * (i + 1) by omega))) (by decide) rfl (fun ls hl => ?_)
        refine lv_goto (tgt := 23) hx hb dL_law_1046 (by decide) ?_
        refine W.widen (k := 1000 + 7 * (i + 1)) (n := 10000 + 2033 * (i + 1)) (by omega) (by omega) ?_
        exact ih (i + 1) c (up2 r 30 22 0) o (by omega) (by omega) (Inv_thr hV (Nat.zero_le _)) H locs wl ls hRc hRr hRo hP hD hS (lv_sub hl [0, 1, 2, 3, 4] rfl)
      · refine lv_tableIn (off := 978) (tgt := 1017) hx hb dL_law_39 (by rw [htI]; decide) (by rw [htI]; decide) (by rw [htI]; rfl) (by decide) ?_
        refine lv_aload_n hx hb dL_law_1017 rfl (lv_at hl 2 rfl) ?_
        refine y_calli (va_runV (As := []) (rest := []) ⟨hx, hb, hml, hown, hts⟩ (k_X2_ready l D G h0 c r o hV.1) (cwV 0 hts gL_law_X2_ready rfl rfl rfl (by decide +kernel) ⟨(Nat.le_of_ble_eq_true rfl), (Nat.le_of_ble_eq_true rfl)⟩) ⟨fun a U g mk q => ⟨q.1, Pr_cg q.2⟩, va_recv (ci := 3) (q0 := 0) hK hP rfl (Q_o hRc), fun U hU hW => ⟨rfl, Pr_mk hE hRc hRr hRo hP hD hS hU hW⟩⟩ rfl rfl hl.1 rfl (lv_room (Nat.le_of_ble_eq_true rfl)) dL_law_1018 ⟨(show _ ≤ 601024 by omega), (show _ ≤ 7293033 by omega)⟩) hS (fun k9 _ H locs wl hk9 hRc hRr hRo hP hD hS => ?_)
        refine lv_aload_n hx hb dL_law_1021 rfl (lv_at hl 3 rfl) ?_
        refine y_calli (va_runV (As := []) (rest := [.int k9]) ⟨hx, hb, hml, hown, hts⟩ (k_X3_ready l D G h0 c r o hV.2.1) (cwV 0 hts gL_law_X3_ready rfl rfl rfl (by decide +kernel) ⟨(Nat.le_of_ble_eq_true rfl), (Nat.le_of_ble_eq_true rfl)⟩) ⟨fun a U g mk q => ⟨q.1, Pr_cg q.2⟩, va_recv (ci := 4) (q0 := 3) hK hP rfl (Q_m hRr), fun U hU hW => ⟨rfl, Pr_mk hE hRc hRr hRo hP hD hS hU hW⟩⟩ rfl rfl hl.1 rfl (lv_room (Nat.le_of_ble_eq_true rfl)) dL_law_1022 ⟨(show _ ≤ 601024 by omega), (show _ ≤ 7293033 by omega)⟩) hS (fun v9 _ H locs wl hv9 hRc hRr hRo hP hD hS => ?_)
        refine lv_icmp_eq (tgt := 1043) hx hb dL_law_1025 (by decide) (fun _ => ?_) (fun z => absurd (hk9.trans ((congrArg nI (T_ready hV)).trans hv9.symm)) z)
        refine lv_iinc (v := nI (4 * (i + 1))) (lv' := [(4, .int (nI (4 * (i + 1)))), (0, .ref b), (1, .ref (G 0)), (2, .ref (G 3)), (3, .ref (G 4))]) hx hb dL_law_1043 hl (k := 0) rfl ((nI_add (4 * i) 4).trans (congrArg nI (show 4 * i + 4 = 4 * (i + 1) by omega))) (by decide) rfl (fun ls hl => ?_)
        refine lv_goto (tgt := 23) hx hb dL_law_1046 (by decide) ?_
        refine W.widen (k := 1000 + 7 * (i + 1)) (n := 10000 + 2033 * (i + 1)) (by omega) (by omega) ?_
        exact ih (i + 1) c (up2 r 30 22 0) o (by omega) (by omega) (Inv_thr hV (Nat.zero_le _)) H locs wl ls hRc hRr hRo hP hD hS (lv_sub hl [0, 1, 2, 3, 4] rfl)
      · refine lv_tableIn (off := 991) (tgt := 1030) hx hb dL_law_39 (by rw [htI]; decide) (by rw [htI]; decide) (by rw [htI]; rfl) (by decide) ?_
        refine lv_aload_n hx hb dL_law_1030 rfl (lv_at hl 2 rfl) ?_
        refine y_calli (va_runV (As := []) (rest := []) ⟨hx, hb, hml, hown, hts⟩ (k_X2_canRun l D G h0 c r o hV.1) (cwV 0 hts gL_law_X2_canRun rfl rfl rfl (by decide +kernel) ⟨(Nat.le_of_ble_eq_true rfl), (Nat.le_of_ble_eq_true rfl)⟩) ⟨fun a U g mk q => ⟨q.1, Pr_cg q.2⟩, va_recv (ci := 3) (q0 := 0) hK hP rfl (Q_o hRc), fun U hU hW => ⟨rfl, Pr_mk hE hRc hRr hRo hP hD hS hU hW⟩⟩ rfl rfl hl.1 rfl (lv_room (Nat.le_of_ble_eq_true rfl)) dL_law_1031 ⟨(show _ ≤ 601024 by omega), (show _ ≤ 7293033 by omega)⟩) hS (fun k9 _ H locs wl hk9 hRc hRr hRo hP hD hS => ?_)
        refine lv_aload_n hx hb dL_law_1034 rfl (lv_at hl 3 rfl) ?_
        refine y_calli (va_runV (As := []) (rest := [.int k9]) ⟨hx, hb, hml, hown, hts⟩ (k_X3_canRun l D G h0 c r o hV.2.1) (cwV 0 hts gL_law_X3_canRun rfl rfl rfl (by decide +kernel) ⟨(Nat.le_of_ble_eq_true rfl), (Nat.le_of_ble_eq_true rfl)⟩) ⟨fun a U g mk q => ⟨q.1, Pr_cg q.2⟩, va_recv (ci := 4) (q0 := 3) hK hP rfl (Q_m hRr), fun U hU hW => ⟨rfl, Pr_mk hE hRc hRr hRo hP hD hS hU hW⟩⟩ rfl rfl hl.1 rfl (lv_room (Nat.le_of_ble_eq_true rfl)) dL_law_1035 ⟨(show _ ≤ 601024 by omega), (show _ ≤ 7293033 by omega)⟩) hS (fun v9 u9 H locs wl hv9 hRc hRr hRo hP hD hS => ?_)
        obtain ⟨hT, hV2⟩ := T_canRun hV hv9
        refine lv_icmp_eq (tgt := 1043) hx hb dL_law_1038 (by decide) (fun _ => ?_) (fun z => absurd (hk9.trans hT) z)
        refine lv_iinc (v := nI (4 * (i + 1))) (lv' := [(4, .int (nI (4 * (i + 1)))), (0, .ref b), (1, .ref (G 0)), (2, .ref (G 3)), (3, .ref (G 4))]) hx hb dL_law_1043 hl (k := 0) rfl ((nI_add (4 * i) 4).trans (congrArg nI (show 4 * i + 4 = 4 * (i + 1) by omega))) (by decide) rfl (fun ls hl => ?_)
        refine lv_goto (tgt := 23) hx hb dL_law_1046 (by decide) ?_
        refine W.widen (k := 1000 + 7 * (i + 1)) (n := 10000 + 2033 * (i + 1)) (by omega) (by omega) ?_
        exact ih (i + 1) c u9 o (by omega) (by omega) hV2 H locs wl ls hRc hRr hRo hP hD hS (lv_sub hl [0, 1, 2, 3, 4] rfl)
      · refine lv_tableOut (tgt := 1043) hx hb dL_law_39 (Or.inr (by rw [htI]; omega)) (by decide) ?_
        refine lv_iinc (v := nI (4 * (i + 1))) (lv' := [(4, .int (nI (4 * (i + 1)))), (0, .ref b), (1, .ref (G 0)), (2, .ref (G 3)), (3, .ref (G 4))]) hx hb dL_law_1043 hl (k := 0) rfl ((nI_add (4 * i) 4).trans (congrArg nI (show 4 * i + 4 = 4 * (i + 1) by omega))) (by decide) rfl (fun ls hl => ?_)
        refine lv_goto (tgt := 23) hx hb dL_law_1046 (by decide) ?_
        refine W.widen (k := 1000 + 7 * (i + 1)) (n := 10000 + 2033 * (i + 1)) (by omega) (by omega) ?_
        exact ih (i + 1) c r o (by omega) (by omega) ⟨hV.1, hV.2.1, hV.2.2.1, Nat.le_succ_of_le hV.2.2.2⟩ H locs wl ls hRc hRr hRo hP hD hS hl
