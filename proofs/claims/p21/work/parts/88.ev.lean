theorem asg_self (vm : Vm) (c : ClassId) : vm.assignable c c = true := by
  show vm.assignableAux _ c c = true
  unfold Vm.assignableAux
  simp
theorem cast_self {C : String} {s : State} {k : ClassId} (h : s.vm.findClass C = some k) : va_Nw (.castable C C) s := by
  show (Cond.castable C C).before #[] s = true
  simp [Cond.before, Cond.holds, Cond.value, h, asg_self]
set_option maxHeartbeats 16000000 in
set_option maxRecDepth 100000 in
theorem start_Ev {s : State} {b : Nat} (hts : ∀ w ∈ lw_tbl, w.before #[Value.ref b] s = true) (hgv : (Jvm.Cond.and given_1 narrow_1).before #[Value.ref b] s = true) : ∃ (D : va_G) (G : Nat → Nat), Ev D G s.heap.size s := by
  have hs := flat_of_before _ hgv
  have hA : ∀ a : Nat, a < s.heap.size → ¬ (fun q => s.heap.size ≤ q) a := fun a h z => absurd (Nat.lt_of_lt_of_le h z) (Nat.lt_irrefl a)
  obtain ⟨k0, i0, u0⟩ := u_known (C := RJx4a65c) (T := TJx4a65c) (N := 3) (n := 3) hts wsL_law_c_wsJx4a65c0 (hts (.instantiable RJx4a65c 3) (by decide +kernel))
  obtain ⟨k1, i1, u1⟩ := u_known (C := RX0) (T := TX0) (N := 13) (n := 13) hts wsL_law_c_wsX00 (hts (.instantiable RX0 13) (by decide +kernel))
  obtain ⟨k2, i2, u2⟩ := u_known (C := RX1) (T := TX1) (N := 3) (n := 3) hts wsL_law_c_wsX10 (hts (.instantiable RX1 3) (by decide +kernel))
  obtain ⟨k3, i3, u3⟩ := u_known (C := RX2) (T := TX2) (N := 7) (n := 7) hts wsL_law_c_wsX20 (hts (.instantiable RX2 7) (by decide +kernel))
  obtain ⟨ci, cik, cip, ci1, ci2, ci3⟩ := Cond.arrayClass_spec (hts (.arrayClass .int) (by decide +kernel))
  obtain ⟨cup, cu, cuk, cu1, -, cu3, cu4, cu5⟩ := Cond.arrayOver_spec (hts (.arrayOver (.object "BootStage$Unit")) (by decide +kernel))
  obtain ⟨cop, co, cok, co1, -, co3, co4, co5⟩ := Cond.arrayOver_spec (hts (.arrayOver (.object "java/lang/Object")) (by decide +kernel))
  obtain ⟨s71, _, _, _, s71e, -⟩ := Cond.exactly_spec (args := #[Value.ref b]) (first := s) (o := none) (s := s) (idx := []) (t := .string "BootStage" 48) (cls := "java/lang/String") (hs _ (by decide +kernel))
  obtain ⟨s72, _, _, _, s72e, -⟩ := Cond.exactly_spec (args := #[Value.ref b]) (first := s) (o := none) (s := s) (idx := []) (t := .string "BootStage" 73) (cls := "java/lang/String") (hs _ (by decide +kernel))
  obtain ⟨s73, _, _, _, s73e, -⟩ := Cond.exactly_spec (args := #[Value.ref b]) (first := s) (o := none) (s := s) (idx := []) (t := .string "BootStage" 131) (cls := "java/lang/String") (hs _ (by decide +kernel))
  obtain ⟨s74, _, _, _, s74e, -⟩ := Cond.exactly_spec (args := #[Value.ref b]) (first := s) (o := none) (s := s) (idx := []) (t := .string "BootStage" 152) (cls := "java/lang/String") (hs _ (by decide +kernel))
  obtain ⟨s75, _, _, _, s75e, -⟩ := Cond.exactly_spec (args := #[Value.ref b]) (first := s) (o := none) (s := s) (idx := []) (t := .string "BootStage" 157) (cls := "java/lang/String") (hs _ (by decide +kernel))
  obtain ⟨s76, _, _, _, s76e, -⟩ := Cond.exactly_spec (args := #[Value.ref b]) (first := s) (o := none) (s := s) (idx := []) (t := .string "BootStage" 160) (cls := "java/lang/String") (hs _ (by decide +kernel))
  obtain ⟨s77, _, _, _, s77e, -⟩ := Cond.exactly_spec (args := #[Value.ref b]) (first := s) (o := none) (s := s) (idx := []) (t := .string "BootStage" 162) (cls := "java/lang/String") (hs _ (by decide +kernel))
  obtain ⟨t70, t70e, t70T⟩ := va_Tof (args := #[Value.ref b]) (s := s) (tm := .static "java/util/ArrayList" "DEFAULTCAPACITY_EMPTY_ELEMENTDATA" "[Ljava/lang/Object;") (ty := .object "java/lang/Object") (N := 0) (f := fun _ => .null) (A := fun q => s.heap.size ≤ q) (by decide) (hs _ (by decide +kernel)) (va_eqt (hs _ (by decide +kernel))) (fun j hj => absurd hj (Nat.not_lt_zero j)) hA
  obtain ⟨mi, hmi⟩ := va_Mi.of (hs (.isRef (.mirror "[Ljava/lang/Object;")) (by decide +kernel))
  refine ⟨(fun k => match k with | 0 => k0 | 1 => k1 | 2 => k2 | _ => k3, fun k => match k with | 0 => i0 | 1 => i1 | 2 => i2 | _ => i3), fun k => if k = 60 then cu else if k = 61 then co else if k = 62 then ci else if k = 70 then t70 else if k = 80 then mi else if k = 71 then s71 else if k = 72 then s72 else if k = 73 then s73 else if k = 74 then s74 else if k = 75 then s75 else if k = 76 then s76 else if k = 77 then s77 else 0, Nat.le_refl _, ⟨fun k q hk => ?_, fun k q hk => ?_⟩, ?_, ?_⟩
  · rcases (show k = 0 ∨ k = 1 ∨ k = 2 ∨ k = 3 ∨ 4 ≤ k by omega) with rfl | rfl | rfl | rfl | h5
    · cases hk; exact u0
    · cases hk; exact u1
    · cases hk; exact u2
    · cases hk; exact u3
    · rw [List.getElem?_eq_none (show vwCl.length ≤ k from h5)] at hk; cases hk
  · rcases (show k = 0 ∨ k = 1 ∨ k = 2 ∨ 3 ≤ k by omega) with rfl | rfl | rfl | h5
    · cases hk; exact ⟨fun N z => ⟨(fun k h => by cases h), cuk, cu3, cup, cu4⟩, cuk, cup, cu3, cu4, cu1, cu5⟩
    · cases hk; exact ⟨fun N z => ⟨(fun k h => by cases h), cok, co3, cop, co4⟩, cok, cop, co3, co4, co1, co5⟩
    · cases hk; exact ⟨fun N z => ⟨(fun k h => by cases h), cik, ci2, cip, ci3⟩, ci1⟩
    · rw [List.getElem?_eq_none (show (tyL _).length ≤ k from h5)] at hk; cases hk
  · refine ⟨vx_Zqof (hts (.laysStatic "java/lang/Throwable" "UNASSIGNED_STACK" "[Ljava/lang/StackTraceElement;") (by decide +kernel)) (hts (.initialized "java/lang/Throwable") (by decide +kernel)) (hs _ (by decide +kernel)) hA, vx_Zqof (hts (.laysStatic "java/lang/Throwable" "SUPPRESSED_SENTINEL" "Ljava/util/List;") (by decide +kernel)) (hts (.initialized "java/lang/Throwable") (by decide +kernel)) (hs _ (by decide +kernel)) hA, ⟨vk_R.of (A := #[Value.ref b]) (hts (.stringRef "BootStage" 48 "there are 20 units") (by decide +kernel)) s71e, vk_R.of (A := #[Value.ref b]) (hts (.stringRef "BootStage" 73 "needs would make a loop") (by decide +kernel)) s72e, vk_R.of (A := #[Value.ref b]) (hts (.stringRef "BootStage" 131 "no start goes on") (by decide +kernel)) s73e, vk_R.of (A := #[Value.ref b]) (hts (.stringRef "BootStage" 152 "there is no such unit") (by decide +kernel)) s74e, vk_R.of (A := #[Value.ref b]) (hts (.stringRef "BootStage" 157 "an argument is out of range") (by decide +kernel)) s75e, vk_R.of (A := #[Value.ref b]) (hts (.stringRef "BootStage" 160 "both units are the same") (by decide +kernel)) s76e, vk_R.of (A := #[Value.ref b]) (hts (.stringRef "BootStage" 162 "a start goes on") (by decide +kernel)) s77e⟩, ⟨va_Nw.of rfl (hts (.declares (Bundle.initS "java/lang/RuntimeException")) (by decide +kernel)), va_Nw.of rfl (hts (.declares (Bundle.initS "java/lang/Exception")) (by decide +kernel)), va_Nw.of rfl (hts (.declares (Bundle.initS Bundle.tN)) (by decide +kernel)), va_Nw.of rfl (hts (.castable exO exO) (by decide +kernel)), va_Nw.of rfl (hts (.castable exA exA) (by decide +kernel)), va_Nw.of rfl (hts (.castable exS exS) (by decide +kernel))⟩, ⟨va_Nc.of (hs (.not (.castable exO exA)) (by decide +kernel)), va_Nc.of (hs (.not (.castable exO exS)) (by decide +kernel)), va_Nc.of (hs (.not (.castable exA exO)) (by decide +kernel)), va_Nc.of (hs (.not (.castable exA exS)) (by decide +kernel)), va_Nc.of (hs (.not (.castable exS exO)) (by decide +kernel)), va_Nc.of (hs (.not (.castable exS exA)) (by decide +kernel))⟩⟩
  · refine ⟨va_Zof (hts (.laysStatic "java/util/ArrayList" "DEFAULTCAPACITY_EMPTY_ELEMENTDATA" "[Ljava/lang/Object;") (by decide +kernel)) (hts (.initialized "java/util/ArrayList") (by decide +kernel)) t70e hA, t70T, va_AO.of (hts (.arrayOver (.object "java/lang/Object")) (by decide +kernel)), va_AO.of (hts (.arrayOver (.object "BootStage$Unit")) (by decide +kernel)), hmi, va_Dc.of (hts _ (by decide +kernel)), va_Nw.of rfl (hts (.castable RX1 "java/lang/Object") (by decide +kernel)), cast_self u2.2.1, cast_self (show s.vm.findClass "[Ljava/lang/Object;" = some co from co5)⟩
