/-! LAW'S WRAPPERS: rows -/
theorem lE_n {m : Nat} (h : m < 2 ^ 31) : (nI m).toInt64 = lE (m + 1) := by
  apply Int64.toInt_inj.mp
  have h1 : ((nI m).toInt64).toInt = (m : Int) := by rw [Int32.toInt_toInt64, nI_toInt h]
  rw [h1]
  unfold lE
  have e : lN (m + 1) - 1 = lN m := by
    have := lN_add m 1
    rw [← this]
    have e1 : (lN 1 : Int64) = 1 := by decide
    rw [e1, Int64.add_sub_cancel]
  rw [e, lN_toInt (by omega)]
theorem lE_s {k : Nat} (h : k < 2 ^ 31) : (siI k).toInt64 = lE k := by
  cases k with
  | zero => decide
  | succ j => rw [siI_s]; exact lE_n (by omega)
theorem arr1 (cA : ClassId) (f g : Nat → Int64) (h : f 0 = g 0) : vp_cell cA (1, .inr (.inl f)) = vp_cell cA (1, .inr (.inl g)) := by
  rw [vp_cell_l, vp_cell_l]
  unfold arrV
  congr 2
  funext j
  have : j.val = 0 := by omega
  rw [this]
  exact congrArg Value.long h
section LR
variable {p : Program} {l : Launch} {e : Env} {R : Room} {s : State} {m : MethodId} {args : Array Value} {below : List Frame} {meth : Method} {cd : Code} {H : Heap} {locs : List Loc} {cells slots : Nat} {Q : State → Prop}
variable {cc : ByteArray} {pc : Nat} {ls : Array Slot} {rest : List Value}
variable {D : va_G} {G : Nat → Nat} {h0 : Nat} {c r : Nat → Nat → Nat} {o : Nat} {wl : va_W} {A : Nat → Prop} {H0 : Heap}
theorem x_last (hexec : p.tables.exec = Jvm.exec) (hb : cd.code = cc) (hK : va_K D vwCl (tyL G) s) (hP : va_P D vwCl wl H) (hD : va_D A wl) (hS : va_S A H0 H locs) (hRc : Rc G c wl) (hRr : Rr G r wl) (hRo : Ro G o wl) {x : Int64} {v : Nat} (hv : x = lE v) (hdg : decode cc pc = .ok (.lastore, 1))
    (kk : ∀ (H1 : Heap) (locs1 : List Loc) (wl1 : va_W), Rc G c wl1 → Rr G r wl1 → Ro G v wl1 → va_P D vwCl wl1 H1 → va_D A wl1 → va_S A H0 H1 locs1 → W p l e R s m args below meth cd H1 locs1 cells slots Q (F0 m (pc + 1) ls rest)) : W p l e R s m args below meth cd H locs cells slots Q (F0 m pc ls (.long x :: .int (nI 0) :: .ref (G 4) :: rest)) := by
  refine va_last hexec hb hK hP hD hS 4 4 hRo rfl (vp_in_nI (by decide) (by decide)) hdg (fun H1 locs1 h1 h2 h3 => ?_)
  refine kk H1 locs1 (wl.set 4 (G 4, .inl (G 64, 1, .inr (.inl (fun _ => lE v))))) (Rc_fr hRc (by decide) (by decide)) (Rr_fr hRr (by decide)) (ws_eq hRo) ?_ (hD.set hRo) h3
  intro k q hk
  by_cases hk4 : k = 4
  · subst hk4
    rw [ws_eq hRo] at hk
    cases hk
    have h9 := h1 4 _ (ws_eq hRo)
    show H1[G 4]? = some (vp_cell (G 64) (1, .inr (.inl (fun _ => lE v))))
    refine (show H1[G 4]? = some (vp_cell (G 64) (1, .inr (.inl _))) from h9).trans (congrArg some (arr1 _ _ _ ?_))
    unfold vp_updL
    rw [if_pos (by rw [nI_clamp (by decide)]), hv]
  · exact h1 k q (by rw [ws_ne (fun z => hk4 z.symm)] at hk ⊢; exact hk)
variable {mc ms mcc msc : Nat} {st0 : List Value} {av : Array Value} {PX : String → Prop}
theorem yx_tryi {S : Type} {post : Int32 → S → Prop} {cf rf : S → Nat → Nat → Nat} {of : S → Nat} (hr : vx_Run p l e R s m args below meth cd H locs cells slots mcc msc (F0 m pc ls st0) rest (va_Qi post (fun u t => Wr D G h0 (cf u) (rf u) (of u) t) (fun q => h0 ≤ q) av) (xw D G h0 c r o PX) (fun q => h0 ≤ q)) (hS : va_S (fun q => h0 ≤ q) s.heap H locs)
    (kx : ∀ (E : String) (ce : Cell) (q9 : Addr) (H1 : Heap) (locs1 : List Loc) (wl1 : va_W), PX E → Rc G c wl1 → Rr G r wl1 → Ro G o wl1 → va_P D vwCl wl1 H1 → va_D (fun q => h0 ≤ q) wl1 → va_S (fun q => h0 ≤ q) s.heap H1 locs1 → H1[q9]? = some ce → ce.vm = .none → s.vm.findClass E = some ce.cls → vx_W p l e R s m args below meth cd H1 locs1 (cells + mcc) (slots + msc) Q (F0 m pc ls rest) q9)
    (kk : ∀ (v : Int32) (u : S) (H1 : Heap) (locs1 : List Loc) (wl1 : va_W), post v u → Rc G (cf u) wl1 → Rr G (rf u) wl1 → Ro G (of u) wl1 → va_P D vwCl wl1 H1 → va_D (fun q => h0 ≤ q) wl1 → va_S (fun q => h0 ≤ q) s.heap H1 locs1 → W p l e R s m args below meth cd H1 locs1 (cells + mcc) (slots + msc) Q (F0 m (pc + 3) ls (.int v :: rest))) : W p l e R s m args below meth cd H locs cells slots Q (F0 m pc ls st0) :=
  vx_calli hr hS (fun _ _ h => h) (fun _ h => h) (fun _ _ h => h) (fun E ce q9 u t H1 locs1 ht _ _ hB _ _ hS1 hce hcv hcl => by
    obtain ⟨hpx, wl1, b1, b2, b3, b4, b5⟩ := hB
    rw [ht] at b4
    exact kx E ce q9 H1 locs1 wl1 hpx b1 b2 b3 b4 b5 hS1 hce hcv hcl) (fun v u t H1 locs1 ht _ hp hB _ _ hS1 => by
    obtain ⟨wl1, b1, b2, b3, b4, b5⟩ := hB
    rw [ht] at b4
    exact kk v u H1 locs1 wl1 hp b1 b2 b3 b4 b5 hS1)
end LR
theorem fP_le20 (P : Nat → Prop) : ∀ n, fP P n ≤ n
  | 0 => Nat.le_refl _
  | n + 1 => by
    have := fP_le20 P n
    have h2 := bN_le (P n)
    rw [fP]
    split
    · have : bN (P n) * (n + 1) ≤ 1 * (n + 1) := Nat.mul_le_mul_right _ h2
      omega
    · omega
