/-! LOOPS ARE CUT, A START IS BEGUN: the class's steps -/
theorem IC_8up {c : Nat → Nat → Nat} {u v : Nat} (h : IC c) (hv : v < 2 ^ c 20 1) : IC (up2 c 8 u v) := by
  obtain ⟨h1, h2, h3, h4, h5, h6, h7, h8, h9⟩ := h
  refine ⟨BC_up h1 (Nat.lt_of_lt_of_le hv (Nat.pow_le_pow_right (by decide) (by omega))), h2, h3, h4, fun w => ?_, h6, h7, h8, h9⟩
  by_cases hw : w = u
  · rw [hw, up2_s]; exact hv
  · rw [up2_i hw]; exact h5 w
def c_ka1 (c : Nat → Nat → Nat) (j : Nat) : Nat → Nat → Nat := up2 c 8 (c 31 j) (c 8 (c 31 j) ||| 2 ^ c 32 j)
def c_kaI (c : Nat → Nat → Nat) : Nat → Nat → Nat → Nat
  | 0 => c
  | k + 1 => c_ka1 (c_kaI c k) k
theorem kaI_n (c : Nat → Nat → Nat) (a i : Nat) (ha : a ≠ 8) : ∀ k, c_kaI c k a i = c a i
  | 0 => rfl
  | k + 1 => (up2_c ha).trans (kaI_n c a i ha k)
theorem IC_kaI {c : Nat → Nat → Nat} (h : IC c) : ∀ k, k ≤ c 30 0 → IC (c_kaI c k)
  | 0, _ => h
  | k + 1, hk => by
    have ih := IC_kaI h k (by omega)
    have hw := IC_W ih k (by rw [kaI_n c 30 0 (by decide)]; omega)
    exact IC_8up ih (Nat.or_lt_two_pow (IC_8 ih _) (Nat.pow_lt_pow_right (by decide) hw.2.1))
def ctS (c : Nat → Nat → Nat) (wt j : Nat) : Prop := c 33 j = wt ∧ Rch (eC c 1) (c 32 j) (c 31 j)
def c_cut (c : Nat → Nat → Nat) (j : Nat) : Nat → Nat → Nat := up2 c 8 (c 31 j) (anN (c 8 (c 31 j)) (2 ^ c 32 j))
noncomputable def ct1 (wt : Nat) (x : (Nat → Nat → Nat) × Nat) (j : Nat) : (Nat → Nat → Nat) × Nat := @ite _ (ctS x.1 wt j) (Classical.propDecidable _) (c_cut x.1 j, x.2 + 1) x
theorem ct1_t {wt j : Nat} {x : (Nat → Nat → Nat) × Nat} (h : ctS x.1 wt j) : ct1 wt x j = (c_cut x.1 j, x.2 + 1) := by unfold ct1; exact if_pos h
theorem ct1_f {wt j : Nat} {x : (Nat → Nat → Nat) × Nat} (h : ¬ ctS x.1 wt j) : ct1 wt x j = x := by unfold ct1; exact if_neg h
noncomputable def ctJ (wt : Nat) (x : (Nat → Nat → Nat) × Nat) : Nat → (Nat → Nat → Nat) × Nat
  | 0 => x
  | j + 1 => ct1 wt (ctJ wt x j) j
noncomputable def ctW (n : Nat) (x : (Nat → Nat → Nat) × Nat) : Nat → (Nat → Nat → Nat) × Nat
  | 0 => x
  | k + 1 => ctJ (k + 1) (ctW n x k) n
noncomputable def cutC (c : Nat → Nat → Nat) : (Nat → Nat → Nat) × Nat := ctW (c 30 0) (c_kaI c (c 30 0), 0) 100
theorem ct1_n (wt : Nat) (x : (Nat → Nat → Nat) × Nat) (j a i : Nat) (ha : a ≠ 8) : (ct1 wt x j).1 a i = x.1 a i := by
  rcases Classical.em (ctS x.1 wt j) with h | h
  · rw [ct1_t h]; exact up2_c ha
  · rw [ct1_f h]
theorem ctJ_n (wt : Nat) (x : (Nat → Nat → Nat) × Nat) (a i : Nat) (ha : a ≠ 8) : ∀ j, (ctJ wt x j).1 a i = x.1 a i
  | 0 => rfl
  | j + 1 => (ct1_n wt _ j a i ha).trans (ctJ_n wt x a i ha j)
theorem ctW_n (n : Nat) (x : (Nat → Nat → Nat) × Nat) (a i : Nat) (ha : a ≠ 8) : ∀ k, (ctW n x k).1 a i = x.1 a i
  | 0 => rfl
  | k + 1 => (ctJ_n (k + 1) _ a i ha n).trans (ctW_n n x a i ha k)
theorem anN_lt2 {a b N : Nat} (ha : a < 2 ^ N) : anN a b < 2 ^ N := Nat.xor_lt_two_pow ha (Nat.lt_of_le_of_lt Nat.and_le_left ha)
theorem IC_ct1 {wt j : Nat} {x : (Nat → Nat → Nat) × Nat} (h : IC x.1) : IC (ct1 wt x j).1 := by
  rcases Classical.em (ctS x.1 wt j) with z | z
  · rw [ct1_t z]; exact IC_8up h (anN_lt2 (IC_8 h _))
  · rw [ct1_f z]; exact h
theorem IC_ctJ {wt : Nat} {x : (Nat → Nat → Nat) × Nat} (h : IC x.1) : ∀ j, IC (ctJ wt x j).1
  | 0 => h
  | j + 1 => IC_ct1 (IC_ctJ h j)
theorem IC_ctW {n : Nat} {x : (Nat → Nat → Nat) × Nat} (h : IC x.1) : ∀ k, IC (ctW n x k).1
  | 0 => h
  | k + 1 => IC_ctJ (IC_ctW h k) n
theorem IC_cutC {c : Nat → Nat → Nat} (h : IC c) : IC (cutC c).1 := IC_ctW (IC_kaI h _ (Nat.le_refl _)) 100
theorem cutC_n (c : Nat → Nat → Nat) (a i : Nat) (ha : a ≠ 8) : (cutC c).1 a i = c a i := (ctW_n _ _ a i ha 100).trans (kaI_n c a i ha _)
def c_bg1 (c : Nat → Nat → Nat) (u : Nat) : Nat → Nat → Nat := up2 (c_reset c u) 20 5 (c 20 5 + (if c 5 u = 0 then c 3 u else 0))
def c_bgI (c : Nat → Nat → Nat) : Nat → Nat → Nat → Nat
  | 0 => c
  | k + 1 => c_bg1 (c_bgI c k) k
theorem Off_reset (c : Nat → Nat → Nat) (u : Nat) : Offu c (c_reset c u) u := Off_up (Off_up (Off_up Off_r ⟨by decide, by decide, by decide, by decide, by decide⟩) ⟨by decide, by decide, by decide, by decide, by decide⟩) ⟨by decide, by decide, by decide, by decide, by decide⟩
theorem IC_reset {c : Nat → Nat → Nat} (h : IC c) (u : Nat) : IC (c_reset c u) := by
  refine IC_unit h (Off_reset c u) ?_
  obtain ⟨u1, u2, u3, u4, u5, u6, u7, u8, u9, u10, u11⟩ := IC_U h u
  unfold c_reset UB
  by_cases h5 : c 5 u = 0
  · simp [up2, h5]; omega
  · simp [up2, h5]; omega
theorem bgI_n (c : Nat → Nat → Nat) (a i : Nat) (ha : a = 6 ∨ a = 7 ∨ a = 8 ∨ (12 < a ∧ (a ≠ 20 ∨ i ≠ 5))) : ∀ k, c_bgI c k a i = c a i
  | 0 => rfl
  | k + 1 => by
    show up2 (c_reset (c_bgI c k) k) 20 5 _ a i = _
    rw [up_off (by omega), Off_n (Off_reset _ k) a i (by omega)]
    exact bgI_n c a i ha k
theorem bg_tot {c : Nat → Nat → Nat} {u : Nat} (h : IC c) : (if c 5 u = 0 then c 3 u else 0) ≤ 100 := by
  split
  · exact (IC_U h u).2.2.2.1
  · exact Nat.zero_le _
theorem IC_bgI {c : Nat → Nat → Nat} (h : IC c) (h0 : c 20 5 = 0) : ∀ k, k ≤ c 20 1 → IC (c_bgI c k) ∧ c_bgI c k 20 5 ≤ 100 * k
  | 0, _ => ⟨h, by rw [show c_bgI c 0 = c from rfl, h0]; exact Nat.zero_le _⟩
  | k + 1, hk => by
    obtain ⟨ih, ih2⟩ := IC_bgI h h0 k (by omega)
    have ht := bg_tot (u := k) ih
    have hn := IC_n h
    refine ⟨IC_obj (IC_reset ih k) (Or.inr (Or.inr (Or.inl ⟨rfl, by omega⟩))), ?_⟩
    show up2 (c_reset (c_bgI c k) k) 20 5 (c_bgI c k 20 5 + (if c_bgI c k 5 k = 0 then c_bgI c k 3 k else 0)) 20 5 ≤ _
    rw [up2_s]
    omega
/-- what stands when the loops are cut, before the units are set -/
noncomputable def c_bg0 (c : Nat → Nat → Nat) (b : Nat) : Nat → Nat → Nat := up2 (cutC (up2 c 20 4 b)).1 20 5 0
noncomputable def c_begin (c : Nat → Nat → Nat) (b : Nat) : Nat → Nat → Nat := c_bar (up2 (up2 (c_bgI (c_bg0 c b) (c_bg0 c b 20 1)) 20 3 1) 20 6 0)
theorem IC_bg0 {c : Nat → Nat → Nat} {b : Nat} (h : IC c) (hb : b ≤ 20) : IC (c_bg0 c b) := IC_obj (IC_cutC (IC_obj h (Or.inr (Or.inl ⟨rfl, hb⟩)))) (Or.inr (Or.inr (Or.inl ⟨rfl, by decide⟩)))
theorem IC_bgN {c : Nat → Nat → Nat} {b : Nat} (h : IC c) (hb : b ≤ 20) : IC (up2 (up2 (c_bgI (c_bg0 c b) (c_bg0 c b 20 1)) 20 3 1) 20 6 0) :=
  IC_obj (IC_obj (IC_bgI (IC_bg0 h hb) (up2_s ..) _ (Nat.le_refl _)).1 (Or.inl ⟨rfl, by decide⟩)) (Or.inr (Or.inr (Or.inr ⟨rfl, by decide⟩)))
/-- the wish of a for b: its place and 1 -/
noncomputable def wfK (c : Nat → Nat → Nat) (a b : Nat) : Nat := fP (fun j => c 31 j = a ∧ c 32 j = b) (c 30 0)
def wsO (c : Nat → Nat → Nat) (k : Nat) : Option Nat := if k = 0 then none else some (c 34 (k - 1))
theorem wsO_0 (c : Nat → Nat → Nat) {k : Nat} (h : k = 0) : wsO c k = none := if_pos h
theorem wsO_s (c : Nat → Nat → Nat) {k j : Nat} (h : k = j + 1) : wsO c k = some (c 34 j) := by subst h; rfl
theorem fP_lt {P : Nat → Prop} : ∀ {n j : Nat}, fP P n = j + 1 → j < n ∧ P j
  | 0, j, h => by cases h
  | n + 1, j, h => by
    rw [fP] at h
    split at h
    · rcases Classical.em (P n) with z | z
      · rw [bN_t z, Nat.one_mul] at h
        have e : n = j := by omega
        subst e
        exact ⟨Nat.lt_succ_self _, z⟩
      · rw [bN_f z, Nat.zero_mul] at h
        cases h
    · obtain ⟨h1, h2⟩ := fP_lt h
      exact ⟨by omega, h2⟩
theorem fP_no {P : Nat → Prop} : ∀ {n : Nat}, fP P n = 0 → ∀ j, j < n → ¬ P j
  | 0, _, j, hj => absurd hj (Nat.not_lt_zero j)
  | n + 1, h, j, hj => by
    rw [fP] at h
    split at h
    · rename_i h0
      by_cases e : j = n
      · subst e
        intro z
        rw [bN_t z, Nat.one_mul] at h
        cases h
      · exact fP_no h0 j (by omega)
    · rename_i h0
      exact absurd h h0
section XF
variable {p : Program} {l : Launch} {e : Env} {R : Room} {s : State} {m : MethodId} {args : Array Value} {below : List Frame} {meth : Method} {cd : Code} {H : Heap} {locs : List Loc} {cells slots : Nat} {Q : State → Prop}
variable {cc : ByteArray} {pc : Nat} {ls : Array Slot} {rest st0 : List Value} {D : va_G} {G : Nat → Nat} {h0 : Nat} {c r : Nat → Nat → Nat} {o : Nat} {wl : va_W} {A : Nat → Prop} {H0 : Heap} {mc ms : Nat} {av : Array Value}
theorem x_putF (hexec : p.tables.exec = Jvm.exec) (hb : cd.code = cc) {own ref C : String} {T : u_T} {N ci index ad : Nat} {Ts : List Cond} (hts : ∀ w ∈ Ts, w.before args s = true) (hin : ∀ w ∈ u_ws C T N, w ∈ Ts) (ty0 : Nat → FieldType) (hty : ∀ k, k < N → parseFieldDescriptor (T k).2.2.1 = some (ty0 k)) (hnm : ∀ a, a < N → ∀ b, b < N → a ≠ b → (T a).2.1 ≠ (T b).2.1) (hown : s.vm.findClass own = some m.cls) {tys : List (ClassId × FieldType)} (hK : va_K D vwCl tys s) (hP : va_P D vwCl wl H) (hD : va_D A wl) (hS0 : va_S A H0 H locs) (q0 : Nat) {fs : List Value} (he : wl[q0]? = some (ad, .inr (ci, fs))) (hc : vwCl[ci]? = some (C, T, N)) (k : Nat) (hk : k < N) (hlink : (Cond.fieldLink own index ref (T k).2.1 (T k).2.2.1).before args s = true) (hsame : ∀ x, s.fieldFound? (T k).1 (T k).2.1 (T k).2.2.1 = some x → s.fieldFound? ref (T k).2.1 (T k).2.2.1 = some x) (hfin : (T k).2.2.2 = true) (hin2 : meth.name = "<init>") (hdecl : (T k).1 = own) {ty : FieldType} {v : Value} (hd : parseFieldDescriptor (T k).2.2.1 = some ty) (hn : narrow ty v = v) (hfit : fits ty v = true) (hl : k < fs.length) (hdg : decode cc pc = .ok (.putfield index, 3))
    {Z : va_W → Prop} (hZ : Z (wl.set q0 (ad, .inr (ci, fs.set k v)))) (kk : ∀ (H1 : Heap) (locs1 : List Loc) (wl1 : va_W), Z wl1 → va_P D vwCl wl1 H1 → va_D A wl1 → va_S A H0 H1 locs1 → W p l e R s m args below meth cd H1 locs1 cells slots Q (F0 m (pc + 3) ls rest)) : W p l e R s m args below meth cd H locs cells slots Q (F0 m pc ls (v :: .ref ad :: rest)) :=
  va_putF hexec hb hts hin ty0 hty hnm hown hK hP hD hS0 q0 he hc k hk hlink hsame hfin hin2 hdecl hd hn hfit hl hdg (fun H1 locs1 h1 h2 h3 => kk H1 locs1 _ hZ h1 h2 h3)
theorem y_callq {S : Type} {post : Option Nat → S → Prop} {cf rf : S → Nat → Nat → Nat} {of : S → Nat} (hr : va_Run p l e R s m args below meth cd H locs cells slots mc ms (F0 m pc ls st0) rest (va_Qq post (fun u t => Wr D G h0 (cf u) (rf u) (of u) t) (fun q => h0 ≤ q) av) (fun q => h0 ≤ q)) (hS : va_S (fun q => h0 ≤ q) H0 H locs)
    (kk : ∀ (v : Option Nat) (u : S) (H1 : Heap) (locs1 : List Loc) (wl1 : va_W), post v u → Rc G (cf u) wl1 → Rr G (rf u) wl1 → Ro G (of u) wl1 → va_P D vwCl wl1 H1 → va_D (fun q => h0 ≤ q) wl1 → va_S (fun q => h0 ≤ q) H0 H1 locs1 → W p l e R s m args below meth cd H1 locs1 (cells + mc) (slots + ms) Q (F0 m (pc + 3) ls (va_rf v :: rest))) : W p l e R s m args below meth cd H locs cells slots Q (F0 m pc ls st0) :=
  va_callq hr hS (fun _ _ h => h) (fun _ h => h) (fun v u t H1 locs1 ht _ hp hB _ _ hS1 => by
    obtain ⟨wl1, b1, b2, b3, b4, b5⟩ := hB
    rw [ht] at b4
    exact kk v u H1 locs1 wl1 hp b1 b2 b3 b4 b5 hS1)
end XF
