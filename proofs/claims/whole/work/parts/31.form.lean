/-! formulas of any of the eight kinds: the fields that Formula declares, the calls of its methods -/
def FF : u_T := fun k => match k with
  | 0 => ("MetricLogMonitor$Formula", "freeVariables", "I", true)
  | 1 => ("MetricLogMonitor$Formula", "rangedVariables", "I", true)
  | 2 => ("MetricLogMonitor$Formula", "existsRanged", "Z", true)
  | 3 => ("MetricLogMonitor$Formula", "decided", "I", false)
  | _ => ("MetricLogMonitor$Formula", "sets", "[J", true)
/-- Formula's own methods -/
def FM : List MethodName := [y_Form_isBounded, y_Form_advance, y_Form_setAt, y_Form_isDecidedAt, y_Form_forget]
theorem lt8 {P : Nat → Prop} (h0 : P 0) (h1 : P 1) (h2 : P 2) (h3 : P 3) (h4 : P 4) (h5 : P 5) (h6 : P 6) (h7 : P 7) {c : Nat} (hc : c < 8) : P c := by
  rcases (show c = 0 ∨ c = 1 ∨ c = 2 ∨ c = 3 ∨ c = 4 ∨ c = 5 ∨ c = 6 ∨ c = 7 by omega) with rfl | rfl | rfl | rfl | rfl | rfl | rfl | rfl
  · exact h0
  · exact h1
  · exact h2
  · exact h3
  · exact h4
  · exact h5
  · exact h6
  · exact h7
theorem fmAll {P : MethodName → Prop} (h0 : P y_Form_isBounded) (h1 : P y_Form_advance) (h2 : P y_Form_setAt) (h3 : P y_Form_isDecidedAt) (h4 : P y_Form_forget) : ∀ x ∈ FM, P x := by
  intro x hx
  unfold FM at hx
  simp only [List.mem_cons, List.not_mem_nil, or_false] at hx
  rcases hx with rfl | rfl | rfl | rfl | rfl
  · exact h0
  · exact h1
  · exact h2
  · exact h3
  · exact h4
def isF (c : Nat) : Prop := ∃ (C : String) (T : u_T) (N : Nat), classes[c]? = some (C, T, N) ∧ kF C T N ∧ 5 ≤ N ∧ (∀ j, j < 5 → T j = FF j) ∧ ∀ x ∈ FM, Cond.selects C x x ∈ WALL
theorem isF_0 : isF 0 := ⟨"MetricLogMonitor$Atom", F_Atom, 8, rfl, kf_Atom, by decide, by decide +kernel, fmAll q_472 q_519 q_584 q_596 q_653⟩
theorem isF_1 : isF 1 := ⟨"MetricLogMonitor$Comparison", F_Comp, 8, rfl, kf_Comp, by decide, by decide +kernel, fmAll q_473 q_520 q_585 q_597 q_654⟩
theorem isF_2 : isF 2 := ⟨"MetricLogMonitor$Not", F_Not, 6, rfl, kf_Not, by decide, by decide +kernel, fmAll q_476 q_523 q_588 q_600 q_657⟩
theorem isF_3 : isF 3 := ⟨"MetricLogMonitor$Join", F_Join, 8, rfl, kf_Join, by decide, by decide +kernel, fmAll q_475 q_522 q_587 q_599 q_656⟩
theorem isF_4 : isF 4 := ⟨"MetricLogMonitor$Exists", F_Exi, 7, rfl, kf_Exi, by decide, by decide +kernel, fmAll q_474 q_521 q_586 q_598 q_655⟩
theorem isF_5 : isF 5 := ⟨"MetricLogMonitor$Previous", F_Prev, 8, rfl, kf_Prev, by decide, by decide +kernel, fmAll q_477 q_524 q_589 q_601 q_658⟩
theorem isF_6 : isF 6 := ⟨"MetricLogMonitor$Since", F_Since, 9, rfl, kf_Since, by decide, by decide +kernel, fmAll q_478 q_525 q_590 q_602 q_659⟩
theorem isF_7 : isF 7 := ⟨"MetricLogMonitor$Until", F_Until, 9, rfl, kf_Until, by decide, by decide +kernel, fmAll q_479 q_526 q_591 q_603 q_660⟩
theorem fcls {c : Nat} (hc : c < 8) : isF c := lt8 (P := isF) isF_0 isF_1 isF_2 isF_3 isF_4 isF_5 isF_6 isF_7 hc
section
variable {p : Program} {l : Launch} {e : Env} {R : Room} {s : State} {m : MethodId} {args : Array Value} {below : List Frame} {meth : Method} {c : Code} {H : Heap} {locs : List Loc} {cells slots : Nat} {Q : State → Prop}
variable {cc : ByteArray} {pc nL : Nat} {ls : Array Slot} {st rest : List Value} {K : KT} {own : String} {A : Nat → Prop} {a : Nat} {H0 : Heap}
variable {x : MethodName} {bytes : ByteArray} {maxL n index : Nat} {ret : Option FieldType} {rm : Room} {As : List Value} {Hp : Heap → Prop} {Qc : Array Value → State → Outcome → State → Prop} {free : Addr → Prop} {mc ms : Nat} {b ci : Nat} {fs : List Value}
theorem fm_get {v : Value} (S : CallFix p m c cc nL s args WALL own) (hC : CX K s) (hc : ci < 8) (k : Nat) (hk : k < 5) (h : va_at K.1 classes (a, .inr (ci, fs)) H) (hl : Cond.fieldLink own index (FF k).1 (FF k).2.1 (FF k).2.2.1 ∈ WALL) (hv : fs[k]? = some v) (hdg : decode cc pc = .ok (.getfield index, 3))
    (kk : W p l e R s m args below meth c H locs cells slots Q (F0 m (pc + 3) ls (v :: rest))) : W p l e R s m args below meth c H locs cells slots Q (F0 m pc ls (.ref a :: rest)) := by
  obtain ⟨C, T, N, h1, h2, h3, h4, -⟩ := fcls hc
  exact o_get S hC h2 h h1 k (by omega) (by rw [h4 k hk]; exact hl) hv hdg kk
theorem k_F (S : CallFix p m c cc nL s args WALL own) (hM : Met l x (Cond.code x bytes maxL ret :: WALL) rm (pc0 K (.ref b :: As) Hp) Qc mc ms free) (cy : kC x bytes maxL ret n) (hx : x ∈ FM) (hl : Cond.methodLink own index x ∈ WALL ∧ Cond.sameMethod x.cls "MetricLogMonitor$Formula" x.name x.desc ∈ WALL ∧ Cond.instanceMethod x ∈ WALL) (hxo : x = ⟨"MetricLogMonitor$Formula", x.name, x.desc⟩)
    (hrc : rm.cells = mc) (hrs : rm.slots = ms) (hR : rm.frames + 1 ≤ R.frames ∧ 8 + (maxL + 11) + rm.locals ≤ R.locals)
    (hC : CX K s) (hS : va_S A s.heap H locs) (hA : ∀ q, A q → kz K ≤ q) (hH : Hp H) (hc : ci < 8) (hr : va_at K.1 classes (b, .inr (ci, fs)) H) (hf : cells + mc ≤ R.cells ∧ slots + ms ≤ R.slots) (hsz : ls.size = nL) (hn : As.length = n) (hst : st = As.reverse ++ .ref b :: rest) (hcat : (rest.map fun v => v.category).sum ≤ 8) (hdg : decode cc pc = .ok (.invokevirtual index, 3)) :
    va_Run p l e R s m args below meth c H locs cells slots mc ms (F0 m pc ls st) rest (Qc (Value.ref b :: As).toArray) free := by
  obtain ⟨C, T, N, h1, h2, h3, h4, h5⟩ := fcls hc
  have hd : va_Decl s x := va_Decl.of (S.2.2.2.2 _ hl.2.2) (S.2.2.2.2 _ cy.1)
  rw [hxo] at hd
  exact k_U (C := C) (owner := "MetricLogMonitor$Formula") S hM cy ⟨hl.1, hl.2.1, h5 x hx, hl.2.2⟩ hd ⟨by decide, by decide⟩ cy.2.2.2.2 hrc hrs hR hC hS hA hH ⟨ci, T, N, fs, h1, hr⟩ hn hsz hst hcat hf hdg
theorem kFi {post : Int32 → Prop} (S : CallFix p m c cc nL s args WALL own) (hM : Met l x (Cond.code x bytes maxL ret :: WALL) rm (pc0 K (.ref b :: As) Hp) (vp_Si post) 0 0 (fun _ => False)) (cy : kC x bytes maxL ret n) (hx : x ∈ FM) (hl : Cond.methodLink own index x ∈ WALL ∧ Cond.sameMethod x.cls "MetricLogMonitor$Formula" x.name x.desc ∈ WALL ∧ Cond.instanceMethod x ∈ WALL) (hxo : x = ⟨"MetricLogMonitor$Formula", x.name, x.desc⟩)
    (hrc : rm.cells = 0) (hrs : rm.slots = 0) (hR : rm.frames + 1 ≤ R.frames ∧ 8 + (maxL + 11) + rm.locals ≤ R.locals)
    (hC : CX K s) (hS : va_S A s.heap H locs) (hA : ∀ q, A q → kz K ≤ q) (hH : Hp H) (hc : ci < 8) (hr : va_at K.1 classes (b, .inr (ci, fs)) H) (hf : cells + 0 ≤ R.cells ∧ slots + 0 ≤ R.slots) (hsz : ls.size = nL) (hn : As.length = n) (hst : st = As.reverse ++ .ref b :: rest) (hcat : (rest.map fun v => v.category).sum ≤ 8) (hdg : decode cc pc = .ok (.invokevirtual index, 3))
    (kk : ∀ r : Int32, post r → W p l e R s m args below meth c H locs cells slots Q (F0 m (pc + 3) ls (.int r :: rest))) : W p l e R s m args below meth c H locs cells slots Q (F0 m pc ls st) :=
  vp_callSi (va_Run.run (k_F S hM cy hx hl hxo hrc hrs hR hC hS hA hH hc hr hf hsz hn hst hcat hdg)) kk
theorem kFl {post : Int64 → Prop} (S : CallFix p m c cc nL s args WALL own) (hM : Met l x (Cond.code x bytes maxL ret :: WALL) rm (pc0 K (.ref b :: As) Hp) (vp_Sl post) 0 0 (fun _ => False)) (cy : kC x bytes maxL ret n) (hx : x ∈ FM) (hl : Cond.methodLink own index x ∈ WALL ∧ Cond.sameMethod x.cls "MetricLogMonitor$Formula" x.name x.desc ∈ WALL ∧ Cond.instanceMethod x ∈ WALL) (hxo : x = ⟨"MetricLogMonitor$Formula", x.name, x.desc⟩)
    (hrc : rm.cells = 0) (hrs : rm.slots = 0) (hR : rm.frames + 1 ≤ R.frames ∧ 8 + (maxL + 11) + rm.locals ≤ R.locals)
    (hC : CX K s) (hS : va_S A s.heap H locs) (hA : ∀ q, A q → kz K ≤ q) (hH : Hp H) (hc : ci < 8) (hr : va_at K.1 classes (b, .inr (ci, fs)) H) (hf : cells + 0 ≤ R.cells ∧ slots + 0 ≤ R.slots) (hsz : ls.size = nL) (hn : As.length = n) (hst : st = As.reverse ++ .ref b :: rest) (hcat : (rest.map fun v => v.category).sum ≤ 8) (hdg : decode cc pc = .ok (.invokevirtual index, 3))
    (kk : ∀ r : Int64, post r → W p l e R s m args below meth c H locs cells slots Q (F0 m (pc + 3) ls (.long r :: rest))) : W p l e R s m args below meth c H locs cells slots Q (F0 m pc ls st) :=
  vp_callSl (va_Run.run (k_F S hM cy hx hl hxo hrc hrs hR hC hS hA hH hc hr hf hsz hn hst hcat hdg)) kk
theorem fm_0 : y_Form_isBounded ∈ FM := List.mem_of_getElem? (i := 0) rfl
theorem fm_1 : y_Form_advance ∈ FM := List.mem_of_getElem? (i := 1) rfl
theorem fm_2 : y_Form_setAt ∈ FM := List.mem_of_getElem? (i := 2) rfl
theorem fm_3 : y_Form_isDecidedAt ∈ FM := List.mem_of_getElem? (i := 3) rfl
theorem fm_4 : y_Form_forget ∈ FM := List.mem_of_getElem? (i := 4) rfl
end
