/-! reach and evaluate of a formula of the table, of whichever kind it is -/
/-- once beyond an UNTIL's interval, always beyond -/
theorem until_off {T : Nat → Int32} {t : Nat → Nat} {N h i j z : Nat} {lo hi : Int32} (hT : tmOk T t N) (hh : hi = nI h) (hb : h ≤ 1000000) (h1 : i ≤ j) (h2 : j ≤ z) (h3 : z < N) (h4 : hi < T j - T i) : ly lo hi (T z - T i) = false := by
  have e1 := hT.1 i (by omega)
  have e2 := hT.1 j (by omega)
  rw [hh, e1.1, e2.1, nI_dif e1.2 e2.2 (hT.2 i j h1 (by omega)) hb] at h4
  have e3 := hT.2 j z h2 h3
  exact ly_off hT hh hb (by omega) h3 (by omega)
section
variable {p : Program} {l : Launch} {e : Env} {R : Room} {s : State} {m : MethodId} {args : Array Value} {below : List Frame} {meth : Method} {c : Code} {H : Heap} {locs : List Loc} {cells slots : Nat} {Q : State → Prop}
variable {cc : ByteArray} {pc nL : Nat} {ls : Array Slot} {st rest : List Value} {K : KT} {A : Nat → Prop}
variable {kd wh fi se : Nat → Nat} {lo hi fr rg er T P : Nat → Int32} {dc ad sa t : Nat → Nat} {stt : Nat → Nat → Int64} {n N k i : Nat} {lg tm pr : Nat} {G : Int64} {Qp : Nat → Int64}
theorem cs10 {P : Prop} {x : Nat} (hx : x ≤ 9) (h0 : x = 0 → P) (h1 : x = 1 → P) (h2 : x = 2 → P) (h3 : x = 3 → P) (h4 : x = 4 → P) (h5 : x = 5 → P) (h6 : x = 6 → P) (h7 : x = 7 → P) (h8 : x = 8 → P) (h9 : x = 9 → P) : P := by
  rcases (show x = 0 ∨ x = 1 ∨ x = 2 ∨ x = 3 ∨ x = 4 ∨ x = 5 ∨ x = 6 ∨ x = 7 ∨ x = 8 ∨ x = 9 by omega) with h | h | h | h | h | h | h | h | h | h
  · exact h0 h
  · exact h1 h
  · exact h2 h
  · exact h3 h
  · exact h4 h
  · exact h5 h
  · exact h6 h
  · exact h7 h
  · exact h8 h
  · exact h9 h
set_option maxHeartbeats 4000000 in
set_option maxRecDepth 100000 in
theorem adv_reach (S : CallFix p m c cc nL s args WALL "MetricLogMonitor$Formula") (hC : CX K s) (hS : va_S A s.heap H locs) (hA : ∀ q, A q → kz K ≤ q) (hV : tabOk kd wh fi se lo hi n) (hk : k < n) (hfm : ∀ j, j ≤ k → fmk K kd wh fi se lo hi fr rg er dc ad sa stt H j) (hdc : ∀ j, j ≤ k → dc j ≤ 24)
    (hg : va_at K.1 classes (lg, .inr (9, [.ref tm, .ref pr, .long G, .int (nI N)])) H) (ht : va_at K.1 classes (tm, .inl (kI K, 24, .inl T)) H) (hT : tmOk T t N) (hN : N ≤ 24) (hN1 : 1 ≤ N) (hR : 4 ≤ R.frames ∧ 100 ≤ R.locals) (hf : cells ≤ R.cells ∧ slots ≤ R.slots) (hsz : ls.size = nL) (hcat : (rest.map fun v => v.category).sum ≤ 8) (hdg : decode cc pc = .ok (.invokevirtual 26, 3))
    (kk : W p l e R s m args below meth c H locs cells slots Q (F0 m (pc + 3) ls (.int (nI (rch kd fi se hi T dc N k)) :: rest))) : W p l e R s m args below meth c H locs cells slots Q (F0 m pc ls (.ref lg :: .ref (ad k) :: rest)) := by
  obtain ⟨v9, vw, vt, vp, vs, vh⟩ := hV k hk
  refine cs10 v9 ?_ ?_ ?_ ?_ ?_ ?_ ?_ ?_ ?_ ?_
  · intro h
    have ho := (hfm k (Nat.le_refl k)).1
    rw [fo_0 h] at ho
    refine vp_callSi (va_Run.run (k_U (C := "MetricLogMonitor$Atom") (owner := "MetricLogMonitor$Formula") (x := ⟨"MetricLogMonitor$Formula", "reach", "(LMetricLogMonitor$Log;)I"⟩) (As := [.ref lg]) (rest := rest) S (c_Atom_reach l) kc_Atom_reach ⟨q_528, q_530, q_531, q_532⟩ (va_Decl.abs (hC.2.1 _ qn_529)) ⟨by decide, by decide⟩ (by decide +kernel) rfl rfl ⟨by show 0 + 1 ≤ R.frames; omega, by show 8 + (2 + 11) + 0 ≤ R.locals; omega⟩ hC hS hA ⟨ho, hg⟩ ⟨0, _, _, _, rfl, ho⟩ rfl hsz rfl hcat hf hdg)) (fun r er => ?_)
    rw [rch_a (by omega)] at kk
    rw [er]
    exact kk
  · intro h
    have ho := (hfm k (Nat.le_refl k)).1
    rw [fo_1 h] at ho
    refine vp_callSi (va_Run.run (k_U (C := "MetricLogMonitor$Comparison") (owner := "MetricLogMonitor$Formula") (x := ⟨"MetricLogMonitor$Formula", "reach", "(LMetricLogMonitor$Log;)I"⟩) (As := [.ref lg]) (rest := rest) S (c_Comp_reach l) kc_Comp_reach ⟨q_528, q_530, q_534, q_535⟩ (va_Decl.abs (hC.2.1 _ qn_529)) ⟨by decide, by decide⟩ (by decide +kernel) rfl rfl ⟨by show 0 + 1 ≤ R.frames; omega, by show 8 + (2 + 11) + 0 ≤ R.locals; omega⟩ hC hS hA ⟨ho, hg⟩ ⟨1, _, _, _, rfl, ho⟩ rfl hsz rfl hcat hf hdg)) (fun r er => ?_)
    rw [rch_a (by omega)] at kk
    rw [er]
    exact kk
  · intro h
    have ho := (hfm k (Nat.le_refl k)).1
    rw [fo_2 h] at ho
    refine vp_callSi (va_Run.run (k_U (C := "MetricLogMonitor$Comparison") (owner := "MetricLogMonitor$Formula") (x := ⟨"MetricLogMonitor$Formula", "reach", "(LMetricLogMonitor$Log;)I"⟩) (As := [.ref lg]) (rest := rest) S (c_Comp_reach l) kc_Comp_reach ⟨q_528, q_530, q_534, q_535⟩ (va_Decl.abs (hC.2.1 _ qn_529)) ⟨by decide, by decide⟩ (by decide +kernel) rfl rfl ⟨by show 0 + 1 ≤ R.frames; omega, by show 8 + (2 + 11) + 0 ≤ R.locals; omega⟩ hC hS hA ⟨ho, hg⟩ ⟨1, _, _, _, rfl, ho⟩ rfl hsz rfl hcat hf hdg)) (fun r er => ?_)
    rw [rch_a (by omega)] at kk
    rw [er]
    exact kk
  · intro h
    have ho := (hfm k (Nat.le_refl k)).1
    rw [fo_3 h] at ho
    obtain ⟨hfk, hsk⟩ := vp (by omega)
    have p1 := hfm (fi k) (by omega)
    have p2 := hfm (se k) (by omega)
    have d1 := hdc (fi k) (by omega)
    have d2 := hdc (se k) (by omega)
    refine vp_callSi (va_Run.run (k_U (C := "MetricLogMonitor$Not") (owner := "MetricLogMonitor$Formula") (x := ⟨"MetricLogMonitor$Formula", "reach", "(LMetricLogMonitor$Log;)I"⟩) (As := [.ref lg]) (rest := rest) S (c_Not_reach l (cx_lt _) d1) kc_Not_reach ⟨q_528, q_530, q_544, q_545⟩ (va_Decl.abs (hC.2.1 _ qn_529)) ⟨by decide, by decide⟩ (by decide +kernel) rfl rfl ⟨by show 0 + 1 ≤ R.frames; omega, by show 8 + (2 + 11) + 0 ≤ R.locals; omega⟩ hC hS hA ⟨ho, p1⟩ ⟨2, _, _, _, rfl, ho⟩ rfl hsz rfl hcat hf hdg)) (fun r er => ?_)
    rw [rch_m (by omega) (by omega) (by omega), vs (by omega), Nat.min_self] at kk
    rw [er]
    exact kk
  · intro h
    have ho := (hfm k (Nat.le_refl k)).1
    rw [fo_4 h] at ho
    obtain ⟨hfk, hsk⟩ := vp (by omega)
    have p1 := hfm (fi k) (by omega)
    have p2 := hfm (se k) (by omega)
    have d1 := hdc (fi k) (by omega)
    have d2 := hdc (se k) (by omega)
    refine vp_callSi (va_Run.run (k_U (C := "MetricLogMonitor$Join") (owner := "MetricLogMonitor$Formula") (x := ⟨"MetricLogMonitor$Formula", "reach", "(LMetricLogMonitor$Log;)I"⟩) (As := [.ref lg]) (rest := rest) S (c_Join_reach l (cx_lt _) d1 (cx_lt _) d2) kc_Join_reach ⟨q_528, q_530, q_540, q_541⟩ (va_Decl.abs (hC.2.1 _ qn_529)) ⟨by decide, by decide⟩ (by decide +kernel) rfl rfl ⟨by show 1 + 1 ≤ R.frames; omega, by show 8 + (2 + 11) + 13 ≤ R.locals; omega⟩ hC hS hA ⟨ho, p1, p2⟩ ⟨3, _, _, _, rfl, ho⟩ rfl hsz rfl hcat hf hdg)) (fun r er => ?_)
    rw [rch_m (by omega) (by omega) (by omega)] at kk
    rw [er]
    exact kk
  · intro h
    have ho := (hfm k (Nat.le_refl k)).1
    rw [fo_5 h] at ho
    obtain ⟨hfk, hsk⟩ := vp (by omega)
    have p1 := hfm (fi k) (by omega)
    have p2 := hfm (se k) (by omega)
    have d1 := hdc (fi k) (by omega)
    have d2 := hdc (se k) (by omega)
    refine vp_callSi (va_Run.run (k_U (C := "MetricLogMonitor$Join") (owner := "MetricLogMonitor$Formula") (x := ⟨"MetricLogMonitor$Formula", "reach", "(LMetricLogMonitor$Log;)I"⟩) (As := [.ref lg]) (rest := rest) S (c_Join_reach l (cx_lt _) d1 (cx_lt _) d2) kc_Join_reach ⟨q_528, q_530, q_540, q_541⟩ (va_Decl.abs (hC.2.1 _ qn_529)) ⟨by decide, by decide⟩ (by decide +kernel) rfl rfl ⟨by show 1 + 1 ≤ R.frames; omega, by show 8 + (2 + 11) + 13 ≤ R.locals; omega⟩ hC hS hA ⟨ho, p1, p2⟩ ⟨3, _, _, _, rfl, ho⟩ rfl hsz rfl hcat hf hdg)) (fun r er => ?_)
    rw [rch_m (by omega) (by omega) (by omega)] at kk
    rw [er]
    exact kk
  · intro h
    have ho := (hfm k (Nat.le_refl k)).1
    rw [fo_6 h] at ho
    obtain ⟨hfk, hsk⟩ := vp (by omega)
    have p1 := hfm (fi k) (by omega)
    have p2 := hfm (se k) (by omega)
    have d1 := hdc (fi k) (by omega)
    have d2 := hdc (se k) (by omega)
    refine vp_callSi (va_Run.run (k_U (C := "MetricLogMonitor$Exists") (owner := "MetricLogMonitor$Formula") (x := ⟨"MetricLogMonitor$Formula", "reach", "(LMetricLogMonitor$Log;)I"⟩) (As := [.ref lg]) (rest := rest) S (c_Exi_reach l (cx_lt _) d1) kc_Exi_reach ⟨q_528, q_530, q_537, q_538⟩ (va_Decl.abs (hC.2.1 _ qn_529)) ⟨by decide, by decide⟩ (by decide +kernel) rfl rfl ⟨by show 0 + 1 ≤ R.frames; omega, by show 8 + (2 + 11) + 0 ≤ R.locals; omega⟩ hC hS hA ⟨ho, p1⟩ ⟨4, _, _, _, rfl, ho⟩ rfl hsz rfl hcat hf hdg)) (fun r er => ?_)
    rw [rch_m (by omega) (by omega) (by omega), vs (by omega), Nat.min_self] at kk
    rw [er]
    exact kk
  · intro h
    have ho := (hfm k (Nat.le_refl k)).1
    rw [fo_7 h] at ho
    obtain ⟨hfk, hsk⟩ := vp (by omega)
    have p1 := hfm (fi k) (by omega)
    have p2 := hfm (se k) (by omega)
    have d1 := hdc (fi k) (by omega)
    have d2 := hdc (se k) (by omega)
    refine vp_callSi (va_Run.run (k_U (C := "MetricLogMonitor$Previous") (owner := "MetricLogMonitor$Formula") (x := ⟨"MetricLogMonitor$Formula", "reach", "(LMetricLogMonitor$Log;)I"⟩) (As := [.ref lg]) (rest := rest) S (c_Prev_reach l (cx_lt _) d1 hN) kc_Prev_reach ⟨q_528, q_530, q_547, q_548⟩ (va_Decl.abs (hC.2.1 _ qn_529)) ⟨by decide, by decide⟩ (by decide +kernel) rfl rfl ⟨by show 1 + 1 ≤ R.frames; omega, by show 8 + (2 + 11) + 13 ≤ R.locals; omega⟩ hC hS hA ⟨ho, p1, hg⟩ ⟨5, _, _, _, rfl, ho⟩ rfl hsz rfl hcat hf hdg)) (fun r er => ?_)
    rw [rch_7 h, vs (by omega), Nat.min_self, Nat.add_comm (dc (fi k)) 1] at kk
    rw [er]
    exact kk
  · intro h
    have ho := (hfm k (Nat.le_refl k)).1
    rw [fo_8 h] at ho
    obtain ⟨hfk, hsk⟩ := vp (by omega)
    have p1 := hfm (fi k) (by omega)
    have p2 := hfm (se k) (by omega)
    have d1 := hdc (fi k) (by omega)
    have d2 := hdc (se k) (by omega)
    refine vp_callSi (va_Run.run (k_U (C := "MetricLogMonitor$Since") (owner := "MetricLogMonitor$Formula") (x := ⟨"MetricLogMonitor$Formula", "reach", "(LMetricLogMonitor$Log;)I"⟩) (As := [.ref lg]) (rest := rest) S (c_Since_reach l (cx_lt _) d1 (cx_lt _) d2) kc_Since_reach ⟨q_528, q_530, q_551, q_552⟩ (va_Decl.abs (hC.2.1 _ qn_529)) ⟨by decide, by decide⟩ (by decide +kernel) rfl rfl ⟨by show 1 + 1 ≤ R.frames; omega, by show 8 + (2 + 11) + 13 ≤ R.locals; omega⟩ hC hS hA ⟨ho, p1, p2⟩ ⟨6, _, _, _, rfl, ho⟩ rfl hsz rfl hcat hf hdg)) (fun r er => ?_)
    rw [rch_m (by omega) (by omega) (by omega)] at kk
    rw [er]
    exact kk
  · intro h
    have ho := (hfm k (Nat.le_refl k)).1
    rw [fo_9 h] at ho
    obtain ⟨hfk, hsk⟩ := vp (by omega)
    have p1 := hfm (fi k) (by omega)
    have p2 := hfm (se k) (by omega)
    have d1 := hdc (fi k) (by omega)
    have d2 := hdc (se k) (by omega)
    refine vp_callSi (va_Run.run (k_U (C := "MetricLogMonitor$Until") (owner := "MetricLogMonitor$Formula") (x := ⟨"MetricLogMonitor$Formula", "reach", "(LMetricLogMonitor$Log;)I"⟩) (As := [.ref lg]) (rest := rest) S (c_Until_reach l (cx_lt _) d1 (cx_lt _) d2 hN hN1) kc_Until_reach ⟨q_528, q_530, q_555, q_556⟩ (va_Decl.abs (hC.2.1 _ qn_529)) ⟨by decide, by decide⟩ (by decide +kernel) rfl rfl ⟨by show 1 + 1 ≤ R.frames; omega, by show 8 + (5 + 11) + 22 ≤ R.locals; omega⟩ hC hS hA ⟨ho, p1, p2, hg, ht⟩ ⟨7, _, _, _, rfl, ho⟩ rfl hsz rfl hcat hf hdg)) (fun r er => ?_)
    obtain ⟨z, hz1, hz2⟩ := vh h
    rw [rch_9 h, dcd_eq hT hz2 hz1 hN1] at kk
    rw [er]
    exact kk
set_option maxHeartbeats 4000000 in
set_option maxRecDepth 100000 in
theorem adv_eval (S : CallFix p m c cc nL s args WALL "MetricLogMonitor$Formula") (hC : CX K s) (hS : va_S A s.heap H locs) (hA : ∀ q, A q → kz K ≤ q) (hV : tabOk kd wh fi se lo hi n) (hk : k < n) (hfm : ∀ j, j ≤ k → fmk K kd wh fi se lo hi fr rg er dc ad sa stt H j) (hdc : ∀ j, j ≤ k → dc j ≤ 24)
    (hg : va_at K.1 classes (lg, .inr (9, [.ref tm, .ref pr, .long G, .int (nI N)])) H) (ht : va_at K.1 classes (tm, .inl (kI K, 24, .inl T)) H) (hT : tmOk T t N) (hN : N ≤ 24) (hN1 : 1 ≤ N) (hR : 4 ≤ R.frames ∧ 100 ≤ R.locals) (hf : cells ≤ R.cells ∧ slots ≤ R.slots) (hsz : ls.size = nL) (hcat : (rest.map fun v => v.category).sum ≤ 8) (hq : va_at K.1 classes (pr, .inl (kJ K, 24, .inr (.inl Qp))) H) (hQP : ∀ r x y, r < 3 → x < 4 → y < 4 → tb (Qp i) (16 * r + 4 * x + y) = bt (P (24 * r + i)) (x + 4 * y)) (hiN : i < N) (hdg : decode cc pc = .ok (.invokevirtual 39, 3))
    (kk : ∀ z : Int64, (∀ b, b < 64 → tb z b = sat kd wh fi se lo hi T P (yv dc stt) N k i b) → W p l e R s m args below meth c H locs cells slots Q (F0 m (pc + 3) ls (.long z :: rest))) : W p l e R s m args below meth c H locs cells slots Q (F0 m pc ls (.int (nI i) :: .ref lg :: .ref (ad k) :: rest)) := by
  obtain ⟨v9, vw, vt, vp, vs, vh⟩ := hV k hk
  refine cs10 v9 ?_ ?_ ?_ ?_ ?_ ?_ ?_ ?_ ?_ ?_
  · intro h
    have ho := (hfm k (Nat.le_refl k)).1
    rw [fo_0 h] at ho
    refine vp_callSl (va_Run.run (k_U (C := "MetricLogMonitor$Atom") (owner := "MetricLogMonitor$Formula") (x := ⟨"MetricLogMonitor$Formula", "evaluate", "(LMetricLogMonitor$Log;I)J"⟩) (As := [.ref lg, .int (nI i)]) (rest := rest) S (c_Atom_evaluate (i := i) l (by omega) vw (vt (by omega)).1 (vt (by omega)).2) kc_Atom_evaluate ⟨q_564, q_566, q_567, q_568⟩ (va_Decl.abs (hC.2.1 _ qn_565)) ⟨by decide, by decide⟩ (by decide +kernel) rfl rfl ⟨by show 2 + 1 ≤ R.frames; omega, by show 8 + (6 + 11) + 41 ≤ R.locals; omega⟩ hC hS hA ⟨ho, hg, hq⟩ ⟨0, _, _, _, rfl, ho⟩ rfl hsz rfl hcat hf hdg)) (fun r er => ?_)
    refine kk r (fun b hb => ?_)
    rw [sat_0 h, er b hb]
    exact hQP _ _ _ (by omega) (vl_lt (vt (by omega)).1) (vl_lt (vt (by omega)).2)
  · intro h
    have ho := (hfm k (Nat.le_refl k)).1
    rw [fo_1 h] at ho
    refine vp_callSl (va_Run.run (k_U (C := "MetricLogMonitor$Comparison") (owner := "MetricLogMonitor$Formula") (x := ⟨"MetricLogMonitor$Formula", "evaluate", "(LMetricLogMonitor$Log;I)J"⟩) (As := [.ref lg, .int (nI i)]) (rest := rest) S (c_Comp_evaluate (i := i) (lg := lg) l (vt (by omega)).1 (vt (by omega)).2) kc_Comp_evaluate ⟨q_564, q_566, q_574, q_575⟩ (va_Decl.abs (hC.2.1 _ qn_565)) ⟨by decide, by decide⟩ (by decide +kernel) rfl rfl ⟨by show 2 + 1 ≤ R.frames; omega, by show 8 + (8 + 11) + 41 ≤ R.locals; omega⟩ hC hS hA ho ⟨1, _, _, _, rfl, ho⟩ rfl hsz rfl hcat hf hdg)) (fun r er => ?_)
    refine kk r (fun b hb => ?_)
    rw [sat_1 h, er b hb]
    rfl
  · intro h
    have ho := (hfm k (Nat.le_refl k)).1
    rw [fo_2 h] at ho
    refine vp_callSl (va_Run.run (k_U (C := "MetricLogMonitor$Comparison") (owner := "MetricLogMonitor$Formula") (x := ⟨"MetricLogMonitor$Formula", "evaluate", "(LMetricLogMonitor$Log;I)J"⟩) (As := [.ref lg, .int (nI i)]) (rest := rest) S (c_Comp_evaluate (i := i) (lg := lg) l (vt (by omega)).1 (vt (by omega)).2) kc_Comp_evaluate ⟨q_564, q_566, q_574, q_575⟩ (va_Decl.abs (hC.2.1 _ qn_565)) ⟨by decide, by decide⟩ (by decide +kernel) rfl rfl ⟨by show 2 + 1 ≤ R.frames; omega, by show 8 + (8 + 11) + 41 ≤ R.locals; omega⟩ hC hS hA ho ⟨1, _, _, _, rfl, ho⟩ rfl hsz rfl hcat hf hdg)) (fun r er => ?_)
    refine kk r (fun b hb => ?_)
    rw [sat_2 h, er b hb]
    rfl
  · intro h
    have ho := (hfm k (Nat.le_refl k)).1
    rw [fo_3 h] at ho
    obtain ⟨hfk, hsk⟩ := vp (by omega)
    have p1 := hfm (fi k) (by omega)
    have p2 := hfm (se k) (by omega)
    have d1 := hdc (fi k) (by omega)
    have d2 := hdc (se k) (by omega)
    refine vp_callSl (va_Run.run (k_U (C := "MetricLogMonitor$Not") (owner := "MetricLogMonitor$Formula") (x := ⟨"MetricLogMonitor$Formula", "evaluate", "(LMetricLogMonitor$Log;I)J"⟩) (As := [.ref lg, .int (nI i)]) (rest := rest) S (c_Not_evaluate (i := i) (lg := lg) l (cx_lt _) d1 (by omega)) kc_Not_evaluate ⟨q_564, q_566, q_617, q_618⟩ (va_Decl.abs (hC.2.1 _ qn_565)) ⟨by decide, by decide⟩ (by decide +kernel) rfl rfl ⟨by show 2 + 1 ≤ R.frames; omega, by show 8 + (3 + 11) + 42 ≤ R.locals; omega⟩ hC hS hA ⟨ho, p1⟩ ⟨2, _, _, _, rfl, ho⟩ rfl hsz rfl hcat hf hdg)) (fun r er => ?_)
    refine kk r (fun b hb => ?_)
    rw [sat_3 h, er, tb_not _ hb, yv_sv (by omega)]
  · intro h
    have ho := (hfm k (Nat.le_refl k)).1
    rw [fo_4 h] at ho
    obtain ⟨hfk, hsk⟩ := vp (by omega)
    have p1 := hfm (fi k) (by omega)
    have p2 := hfm (se k) (by omega)
    have d1 := hdc (fi k) (by omega)
    have d2 := hdc (se k) (by omega)
    refine vp_callSl (va_Run.run (k_U (C := "MetricLogMonitor$Join") (owner := "MetricLogMonitor$Formula") (x := ⟨"MetricLogMonitor$Formula", "evaluate", "(LMetricLogMonitor$Log;I)J"⟩) (As := [.ref lg, .int (nI i)]) (rest := rest) S (c_Join_evaluate (i := i) (lg := lg) l (cx_lt _) d1 (cx_lt _) d2 (by omega)) kc_Join_evaluate ⟨q_564, q_566, q_613, q_614⟩ (va_Decl.abs (hC.2.1 _ qn_565)) ⟨by decide, by decide⟩ (by decide +kernel) rfl rfl ⟨by show 2 + 1 ≤ R.frames; omega, by show 8 + (3 + 11) + 42 ≤ R.locals; omega⟩ hC hS hA ⟨ho, p1, p2⟩ ⟨3, _, _, _, rfl, ho⟩ rfl hsz rfl hcat hf hdg)) (fun r er => ?_)
    refine kk r (fun b hb => ?_)
    rw [sat_4 h, er, if_neg (by decide), tb_and, yv_sv (by omega), yv_sv (by omega)]
  · intro h
    have ho := (hfm k (Nat.le_refl k)).1
    rw [fo_5 h] at ho
    obtain ⟨hfk, hsk⟩ := vp (by omega)
    have p1 := hfm (fi k) (by omega)
    have p2 := hfm (se k) (by omega)
    have d1 := hdc (fi k) (by omega)
    have d2 := hdc (se k) (by omega)
    refine vp_callSl (va_Run.run (k_U (C := "MetricLogMonitor$Join") (owner := "MetricLogMonitor$Formula") (x := ⟨"MetricLogMonitor$Formula", "evaluate", "(LMetricLogMonitor$Log;I)J"⟩) (As := [.ref lg, .int (nI i)]) (rest := rest) S (c_Join_evaluate (i := i) (lg := lg) l (cx_lt _) d1 (cx_lt _) d2 (by omega)) kc_Join_evaluate ⟨q_564, q_566, q_613, q_614⟩ (va_Decl.abs (hC.2.1 _ qn_565)) ⟨by decide, by decide⟩ (by decide +kernel) rfl rfl ⟨by show 2 + 1 ≤ R.frames; omega, by show 8 + (3 + 11) + 42 ≤ R.locals; omega⟩ hC hS hA ⟨ho, p1, p2⟩ ⟨3, _, _, _, rfl, ho⟩ rfl hsz rfl hcat hf hdg)) (fun r er => ?_)
    refine kk r (fun b hb => ?_)
    rw [sat_5 h, er, if_pos rfl, tb_or, yv_sv (by omega), yv_sv (by omega)]
  · intro h
    have ho := (hfm k (Nat.le_refl k)).1
    rw [fo_6 h] at ho
    obtain ⟨hfk, hsk⟩ := vp (by omega)
    have p1 := hfm (fi k) (by omega)
    have p2 := hfm (se k) (by omega)
    have d1 := hdc (fi k) (by omega)
    have d2 := hdc (se k) (by omega)
    refine vp_callSl (va_Run.run (k_U (C := "MetricLogMonitor$Exists") (owner := "MetricLogMonitor$Formula") (x := ⟨"MetricLogMonitor$Formula", "evaluate", "(LMetricLogMonitor$Log;I)J"⟩) (As := [.ref lg, .int (nI i)]) (rest := rest) S (c_Exi_evaluate (i := i) (lg := lg) l (cx_lt _) d1 (by omega) (by omega)) kc_Exi_evaluate ⟨q_564, q_566, q_578, q_579⟩ (va_Decl.abs (hC.2.1 _ qn_565)) ⟨by decide, by decide⟩ (by decide +kernel) rfl rfl ⟨by show 2 + 1 ≤ R.frames; omega, by show 8 + (3 + 11) + 42 ≤ R.locals; omega⟩ hC hS hA ⟨ho, p1⟩ ⟨4, _, _, _, rfl, ho⟩ rfl hsz rfl hcat hf hdg)) (fun r er => ?_)
    refine kk r (fun b hb => ?_)
    rw [sat_6 h, er, exists4 (by omega) _ hb, yv_sv (by omega)]
  · intro h
    have ho := (hfm k (Nat.le_refl k)).1
    rw [fo_7 h] at ho
    obtain ⟨hfk, hsk⟩ := vp (by omega)
    have p1 := hfm (fi k) (by omega)
    have p2 := hfm (se k) (by omega)
    have d1 := hdc (fi k) (by omega)
    have d2 := hdc (se k) (by omega)
    refine vp_callSl (va_Run.run (k_U (C := "MetricLogMonitor$Previous") (owner := "MetricLogMonitor$Formula") (x := ⟨"MetricLogMonitor$Formula", "evaluate", "(LMetricLogMonitor$Log;I)J"⟩) (As := [.ref lg, .int (nI i)]) (rest := rest) S (c_Prev_evaluate (i := i) l (cx_lt _) d1 (by omega)) kc_Prev_evaluate ⟨q_564, q_566, q_622, q_623⟩ (va_Decl.abs (hC.2.1 _ qn_565)) ⟨by decide, by decide⟩ (by decide +kernel) rfl rfl ⟨by show 2 + 1 ≤ R.frames; omega, by show 8 + (3 + 11) + 42 ≤ R.locals; omega⟩ hC hS hA ⟨ho, p1, hg, ht⟩ ⟨5, _, _, _, rfl, ho⟩ rfl hsz rfl hcat hf hdg)) (fun r er => ?_)
    refine kk r (fun b hb => ?_)
    rw [sat_7 h, er]
    by_cases h0 : (decide (0 < i) && ly (lo k) (hi k) (T i - T (i - 1))) = true
    · rw [if_pos h0, yv_sv (by omega), ← Bool.and_assoc, h0, Bool.true_and]
    · rw [if_neg h0, tb_0, ← Bool.and_assoc, Bool.not_eq_true _ |>.mp h0, Bool.false_and]
  · intro h
    have ho := (hfm k (Nat.le_refl k)).1
    rw [fo_8 h] at ho
    obtain ⟨hfk, hsk⟩ := vp (by omega)
    have p1 := hfm (fi k) (by omega)
    have p2 := hfm (se k) (by omega)
    have d1 := hdc (fi k) (by omega)
    have d2 := hdc (se k) (by omega)
    refine vp_callSl (va_Run.run (k_U (C := "MetricLogMonitor$Since") (owner := "MetricLogMonitor$Formula") (x := ⟨"MetricLogMonitor$Formula", "evaluate", "(LMetricLogMonitor$Log;I)J"⟩) (As := [.ref lg, .int (nI i)]) (rest := rest) S (c_Since_evaluate (i := i) l (cx_lt _) d1 (cx_lt _) d2 (by omega)) kc_Since_evaluate ⟨q_564, q_566, q_630, q_631⟩ (va_Decl.abs (hC.2.1 _ qn_565)) ⟨by decide, by decide⟩ (by decide +kernel) rfl rfl ⟨by show 2 + 1 ≤ R.frames; omega, by show 8 + (8 + 11) + 42 ≤ R.locals; omega⟩ hC hS hA ⟨ho, p1, p2, hg, ht⟩ ⟨6, _, _, _, rfl, ho⟩ rfl hsz rfl hcat hf hdg)) (fun r er => ?_)
    refine kk r (fun b hb => ?_)
    rw [sat_8 h, er b hb]
    exact sm_congr (fun j hj => ⟨rfl, by rw [yv_sv (by omega)], by rw [yv_sv (by omega)]⟩)
  · intro h
    have ho := (hfm k (Nat.le_refl k)).1
    rw [fo_9 h] at ho
    obtain ⟨hfk, hsk⟩ := vp (by omega)
    have p1 := hfm (fi k) (by omega)
    have p2 := hfm (se k) (by omega)
    have d1 := hdc (fi k) (by omega)
    have d2 := hdc (se k) (by omega)
    obtain ⟨z0, hz1, hz2⟩ := vh h
    refine vp_callSl (va_Run.run (k_U (C := "MetricLogMonitor$Until") (owner := "MetricLogMonitor$Formula") (x := ⟨"MetricLogMonitor$Formula", "evaluate", "(LMetricLogMonitor$Log;I)J"⟩) (As := [.ref lg, .int (nI i)]) (rest := rest) S (c_Until_evaluate (i := i) l (cx_lt _) d1 (cx_lt _) d2 hiN hN (fun a z h1 h2 h3 h4 => until_off hT hz2 hz1 h1 h2 h3 h4)) kc_Until_evaluate ⟨q_564, q_566, q_637, q_638⟩ (va_Decl.abs (hC.2.1 _ qn_565)) ⟨by decide, by decide⟩ (by decide +kernel) rfl rfl ⟨by show 2 + 1 ≤ R.frames; omega, by show 8 + (8 + 11) + 42 ≤ R.locals; omega⟩ hC hS hA ⟨ho, p1, p2, hg, ht⟩ ⟨7, _, _, _, rfl, ho⟩ rfl hsz rfl hcat hf hdg)) (fun r er => ?_)
    refine kk r (fun b hb => ?_)
    rw [sat_9 h, er b hb]
    exact um_congr (fun j h1 h2 => ⟨rfl, by rw [yv_sv (by omega)], by rw [yv_sv (by omega)]⟩)
end
