/-! the frame of every contract holds at the start -/
theorem arr0 {args : Array Value} {s : State} {ty : FieldType} (h : (Cond.arrayClass ty).before args s = true) : ∃ cA : ClassId, ArrOfT s cA ty ∧ s.vm.findClass ("[" ++ ty.toString) = some cA := by
  obtain ⟨cA, kA, comp, h1, h2, h3⟩ := Cond.arrayClass_spec h
  exact ⟨cA, fun n z => ⟨fun k h => (by cases h), kA, h2, comp, h3⟩, h1⟩
theorem arrO {args : Array Value} {s : State} {C : String} (h : (Cond.arrayOver (.object C)).before args s = true) : ∃ cA : ClassId, ArrOfT s cA (.object C) ∧ va_RA s cA (.object C) := by
  obtain ⟨comp, cA, kA, h1, h2, h3, h4, h5⟩ := Cond.arrayOver_spec h
  exact ⟨cA, fun n z => ⟨fun k h => (by cases h), kA, h3, comp, h4⟩, kA, comp, h3, h4, h1, h5⟩
set_option maxHeartbeats 4000000 in
theorem cx0 {s : State} {b : Nat} (hts : ∀ w ∈ lw_tbl, w.before #[Value.ref b] s = true) (hgv : (Jvm.Cond.and given_1 narrow_1).before #[Value.ref b] s = true) : ∃ K : KT, kz K = s.heap.size ∧ CX K s := by
  have hw : ∀ w ∈ WALL, w.before #[Value.ref b] s = true := fun w h => hts w (List.mem_filter.mp h).1
  have hg := flat_of_before _ hgv
  obtain ⟨c0, i0, k0⟩ := u_known hw kf_Atom.1 (hw _ q_119)
  obtain ⟨c1, i1, k1⟩ := u_known hw kf_Comp.1 (hw _ q_252)
  obtain ⟨c2, i2, k2⟩ := u_known hw kf_Not.1 (hw _ q_301)
  obtain ⟨c3, i3, k3⟩ := u_known hw kf_Join.1 (hw _ q_320)
  obtain ⟨c4, i4, k4⟩ := u_known hw kf_Exi.1 (hw _ q_348)
  obtain ⟨c5, i5, k5⟩ := u_known hw kf_Prev.1 (hw _ q_381)
  obtain ⟨c6, i6, k6⟩ := u_known hw kf_Since.1 (hw _ q_406)
  obtain ⟨c7, i7, k7⟩ := u_known hw kf_Until.1 (hw _ q_434)
  obtain ⟨c8, i8, k8⟩ := u_known hw kf_M.1 (hw _ q_24)
  obtain ⟨c9, i9, k9⟩ := u_known hw kf_Log.1 (hw _ q_58)
  obtain ⟨c10, i10, k10⟩ := u_known hw kf_AL.1 (hw _ q_32)
  obtain ⟨c11, i11, k11⟩ := u_known hw kf_R.1 (hw _ q_688)
  obtain ⟨aI, aI1, aI2⟩ := arr0 (hw _ q_82)
  obtain ⟨aJ, aJ1, aJ2⟩ := arr0 (hw _ q_83)
  obtain ⟨aZ, aZ1, aZ2⟩ := arr0 (hw _ q_745)
  have hAO : (Cond.arrayOver (.object "java/lang/Object")).before #[Value.ref b] s = true := hts _ (by decide +kernel)
  obtain ⟨aO, aO1, aO2⟩ := arrO hAO
  have hA : ∀ a : Nat, a < s.heap.size → ¬ (fun q : Nat => s.heap.size ≤ q) a := fun a h z => absurd (show s.heap.size ≤ a from z) (by omega)
  have hel : ∀ j : Nat, j < 3 → (Term.elem (Term.static "MetricLogMonitor" "ZERO_AT" "[J") (.int (Int32.ofNat j))).eval #[Value.ref b] s none [] s = some (.long (zAt j)) := by
    intro j hj
    rcases (show j = 0 ∨ j = 1 ∨ j = 2 by omega) with rfl | rfl | rfl
    · exact va_eqtl (hg (Cond.eq (.elem (Term.static "MetricLogMonitor" "ZERO_AT" "[J") (.int 0)) (.long 1229782938247303441)) (by decide +kernel))
    · exact va_eqtl (hg (Cond.eq (.elem (Term.static "MetricLogMonitor" "ZERO_AT" "[J") (.int 1)) (.long 4222189076152335)) (by decide +kernel))
    · exact va_eqtl (hg (Cond.eq (.elem (Term.static "MetricLogMonitor" "ZERO_AT" "[J") (.int 2)) (.long 65535)) (by decide +kernel))
  obtain ⟨tz, tz1, tz2⟩ := va_Tof (tm := (Term.static "MetricLogMonitor" "ZERO_AT" "[J")) (ty := .long) (N := 3) (f := fun v => .long (zAt v)) (A := (fun q : Nat => s.heap.size ≤ q)) (by decide) (hg _ (by decide +kernel)) (va_eqt (hg (Cond.eq (.length (Term.static "MetricLogMonitor" "ZERO_AT" "[J")) (.int 3)) (by decide +kernel))) hel hA
  obtain ⟨te, te1, te2⟩ := va_Tof (tm := (Term.static "java/util/ArrayList" "DEFAULTCAPACITY_EMPTY_ELEMENTDATA" "[Ljava/lang/Object;")) (ty := .object "java/lang/Object") (N := 0) (f := fun _ => .null) (A := (fun q : Nat => s.heap.size ≤ q)) (by decide) (hg _ (by decide +kernel)) (va_eqt (hg (Cond.eq (.length (Term.static "java/util/ArrayList" "DEFAULTCAPACITY_EMPTY_ELEMENTDATA" "[Ljava/lang/Object;")) (.int 0)) (by decide +kernel))) (fun j hj => absurd hj (by omega)) hA
  obtain ⟨mi, hmi⟩ := va_Mi.of (hg (Cond.isRef (.mirror "[Ljava/lang/Object;")) (by decide +kernel))
  refine ⟨((fun c => if c = 0 then c0 else if c = 1 then c1 else if c = 2 then c2 else if c = 3 then c3 else if c = 4 then c4 else if c = 5 then c5 else if c = 6 then c6 else if c = 7 then c7 else if c = 8 then c8 else if c = 9 then c9 else if c = 10 then c10 else c11, fun c => if c = 0 then i0 else if c = 1 then i1 else if c = 2 then i2 else if c = 3 then i3 else if c = 4 then i4 else if c = 5 then i5 else if c = 6 then i6 else if c = 7 then i7 else if c = 8 then i8 else if c = 9 then i9 else if c = 10 then i10 else i11), (aI, aJ, aZ, aO), (s.heap.size, tz, te, mi)), rfl, ⟨fun c q hq => ?_, fun k q hq => ?_⟩, fun w h => va_Nw.of (nw_tab (nall_ok w h)) (hts w (List.mem_filter.mp h).1), va_Zref (hts _ (by decide +kernel)) (hw _ q_1) tz1 hA, tz2, va_Zref (hts _ (by decide +kernel)) (hw _ q_4) te1 hA, te2, Nat.le_refl _, hmi, va_Dc.of (hts _ (List.mem_filter.mp qn_914).1), va_AO.of hAO⟩
  · have hc : c < 12 := by
      have h9 := (List.getElem?_eq_some_iff.mp hq).1
      exact h9
    rcases (show c = 0 ∨ c = 1 ∨ c = 2 ∨ c = 3 ∨ c = 4 ∨ c = 5 ∨ c = 6 ∨ c = 7 ∨ c = 8 ∨ c = 9 ∨ c = 10 ∨ c = 11 by omega) with rfl | rfl | rfl | rfl | rfl | rfl | rfl | rfl | rfl | rfl | rfl | rfl <;> cases hq
    · exact k0
    · exact k1
    · exact k2
    · exact k3
    · exact k4
    · exact k5
    · exact k6
    · exact k7
    · exact k8
    · exact k9
    · exact k10
    · exact k11
  · have hc : k < 4 := (List.getElem?_eq_some_iff.mp hq).1
    rcases (show k = 0 ∨ k = 1 ∨ k = 2 ∨ k = 3 by omega) with rfl | rfl | rfl | rfl <;> cases hq
    · exact ⟨aI1, aI2⟩
    · exact ⟨aJ1, aJ2⟩
    · exact ⟨aZ1, aZ2⟩
    · exact ⟨aO1, aO2⟩
