/-! a contract's proof begins (met0) and ends (r_..); calls that only read, in one row -/
section
variable {p : Program} {l : Launch} {e : Env} {R : Room} {s : State} {m : MethodId} {args : Array Value} {below : List Frame} {meth : Method} {c : Code} {H : Heap} {locs : List Loc} {cells slots : Nat} {Q : State → Prop}
variable {cc : ByteArray} {pc nL : Nat} {ls : Array Slot} {st rest : List Value} {K : KT} {own : String} {A : Nat → Prop} {a : Nat}
variable {y : MethodName} {bytes : ByteArray} {maxL n index : Nat} {ret : Option FieldType} {rm : Room} {As : List Value} {Hp : Heap → Prop} {Qc : Array Value → State → Outcome → State → Prop} {free : Addr → Prop} {mc ms : Nat} {host C : String} {b : Addr}
theorem met0 (hy : plainName y.cls = true) (hoc : y.cls = own) (hn : (lg_sl As).length ≤ maxL)
    (body : ∀ (p : Program) (e : Env) (s : State) (m : MethodId) (below : List Frame) (meth : Method) (c : Code) (ls : Array Slot), CallFix p m c cc maxL s As.toArray WALL own → meth.sig.returnType = ret → meth.locks = false → meth.name = y.name → CX K s → Hp s.heap → lv_has ls maxL (lv_args 0 As) →
      W p l e rm s m As.toArray below meth c s.heap [] 0 0 (MQ below Qc As.toArray s mc ms free) (F0 m 0 ls [])) :
    Met l y (Cond.code y cc maxL ret :: WALL) rm (pc0 K As Hp) Qc mc ms free := by
  refine Met.ofW (cc := cc) (maxL := maxL) (ret := ret) hy rfl ?_
  intro p e s m args below meth c s₁ B hml hv
  obtain ⟨rfl, hC, hH⟩ := hv
  have hts := atoms_spec (ws := Cond.code y cc maxL ret :: WALL) B.pre
  have hl := lv_entry As (n := maxL) hn
  rw [lg_entry_eq]
  subst hoc
  exact body p e s m below meth c _ ⟨B.exec, B.bytes, hml, findClass_of_methodNamed B.named, fun w h => hts w (List.mem_cons_of_mem _ h)⟩ B.returns B.notSynchronized (name_of_methodNamed B.named B.method).1 hC hH hl
theorem hSF (s : State) : va_S (fun _ => False) s.heap s.heap [] := va_S.rf
theorem hAF (K : KT) : ∀ q : Nat, (fun _ : Nat => False) q → kz K ≤ q := fun _ h => h.elim
theorem r_i {post : Int32 → Prop} {v : Int32} (S : CallFix p m c cc nL s args WALL own) (hr : meth.sig.returnType = some .int) (hk : meth.locks = false) (hdg : decode cc pc = .ok (.ireturn, 1)) (hp : post v) :
    W p l e R s m args below meth c s.heap [] cells slots (MQ below (vp_Si post) args s cells slots (fun _ => False)) (F0 m pc ls [.int v]) := W.iret S.1 S.2.1 hr (fun _ ht _ => ⟨v, rfl, hp, ht⟩) (fun _ h => by cases h) hdg hk
theorem r_z {post : Int32 → Prop} {v : Int32} (S : CallFix p m c cc nL s args WALL own) (hr : meth.sig.returnType = some .boolean) (hk : meth.locks = false) (hn : narrow .boolean (.int v) = .int v) (hdg : decode cc pc = .ok (.ireturn, 1)) (hp : post v) :
    W p l e R s m args below meth c s.heap [] cells slots (MQ below (vp_Si post) args s cells slots (fun _ => False)) (F0 m pc ls [.int v]) := W.zret S.1 S.2.1 hr hn (fun _ ht _ => ⟨v, rfl, hp, ht⟩) (fun _ h => by cases h) hdg hk
theorem r_l {post : Int64 → Prop} {v : Int64} (S : CallFix p m c cc nL s args WALL own) (hr : meth.sig.returnType = some .long) (hk : meth.locks = false) (hdg : decode cc pc = .ok (.lreturn, 1)) (hp : post v) :
    W p l e R s m args below meth c s.heap [] cells slots (MQ below (vp_Sl post) args s cells slots (fun _ => False)) (F0 m pc ls [.long v]) := W.lret S.1 S.2.1 hr (fun _ ht _ => ⟨v, rfl, hp, ht⟩) (fun _ h => by cases h) hdg hk
theorem r_q {post : Option Nat → Prop} {r : Option Nat} {nm : String} (S : CallFix p m c cc nL s args WALL own) (hr : meth.sig.returnType = some (.object nm)) (hk : meth.locks = false) (hdg : decode cc pc = .ok (.areturn, 1)) (hp : post r) :
    W p l e R s m args below meth c s.heap [] cells slots (MQ below (va_Sq post) args s cells slots (fun _ => False)) (F0 m pc ls [va_rf r]) := W.aret S.1 S.2.1 hr (Or.inl ⟨nm, rfl⟩) (va_rf_or r) (fun _ ht _ => ⟨r, rfl, hp, ht⟩) (fun _ h => by cases h) hdg hk
theorem kSi {post : Int32 → Prop} (S : CallFix p m c cc nL s args WALL own) (hM : Met l y (Cond.code y bytes maxL ret :: WALL) rm (pc0 K As Hp) (vp_Si post) 0 0 (fun _ => False)) (cy : kC y bytes maxL ret n) (hl : Cond.methodLink own index y ∈ WALL ∧ Cond.static y ∈ WALL) (hrc : rm.cells = 0) (hrs : rm.slots = 0) (hR : rm.frames + 1 ≤ R.frames ∧ 8 + (maxL + 11) + rm.locals ≤ R.locals)
    (hC : CX K s) (hS : va_S A s.heap H locs) (hA : ∀ q, A q → kz K ≤ q) (hH : Hp H) (hf : cells + 0 ≤ R.cells ∧ slots + 0 ≤ R.slots) (hsz : ls.size = nL) (hn : As.length = n) (hst : st = As.reverse ++ rest) (hcat : (rest.map fun v => v.category).sum ≤ 8) (hdg : decode cc pc = .ok (.invokestatic index, 3))
    (kk : ∀ r : Int32, post r → W p l e R s m args below meth c H locs cells slots Q (F0 m (pc + 3) ls (.int r :: rest))) : W p l e R s m args below meth c H locs cells slots Q (F0 m pc ls st) :=
  vp_callSi (va_Run.run (k_S S hM cy hl hrc hrs hR hC hS hA hH hn hsz hst hcat hf hdg)) kk
theorem kSl {post : Int64 → Prop} (S : CallFix p m c cc nL s args WALL own) (hM : Met l y (Cond.code y bytes maxL ret :: WALL) rm (pc0 K As Hp) (vp_Sl post) 0 0 (fun _ => False)) (cy : kC y bytes maxL ret n) (hl : Cond.methodLink own index y ∈ WALL ∧ Cond.static y ∈ WALL) (hrc : rm.cells = 0) (hrs : rm.slots = 0) (hR : rm.frames + 1 ≤ R.frames ∧ 8 + (maxL + 11) + rm.locals ≤ R.locals)
    (hC : CX K s) (hS : va_S A s.heap H locs) (hA : ∀ q, A q → kz K ≤ q) (hH : Hp H) (hf : cells + 0 ≤ R.cells ∧ slots + 0 ≤ R.slots) (hsz : ls.size = nL) (hn : As.length = n) (hst : st = As.reverse ++ rest) (hcat : (rest.map fun v => v.category).sum ≤ 8) (hdg : decode cc pc = .ok (.invokestatic index, 3))
    (kk : ∀ r : Int64, post r → W p l e R s m args below meth c H locs cells slots Q (F0 m (pc + 3) ls (.long r :: rest))) : W p l e R s m args below meth c H locs cells slots Q (F0 m pc ls st) :=
  vp_callSl (va_Run.run (k_S S hM cy hl hrc hrs hR hC hS hA hH hn hsz hst hcat hf hdg)) kk
theorem kNi {post : Int32 → Prop} (S : CallFix p m c cc nL s args WALL own) (hM : Met l y (Cond.code y bytes maxL ret :: WALL) rm (pc0 K As Hp) (vp_Si post) 0 0 (fun _ => False)) (cy : kC y bytes maxL ret n) (hl : Cond.methodLinkNest own index y host ∈ NALL ∧ Cond.static y ∈ WALL) (hrc : rm.cells = 0) (hrs : rm.slots = 0) (hR : rm.frames + 1 ≤ R.frames ∧ 8 + (maxL + 11) + rm.locals ≤ R.locals)
    (hC : CX K s) (hS : va_S A s.heap H locs) (hA : ∀ q, A q → kz K ≤ q) (hH : Hp H) (hf : cells + 0 ≤ R.cells ∧ slots + 0 ≤ R.slots) (hsz : ls.size = nL) (hn : As.length = n) (hst : st = As.reverse ++ rest) (hcat : (rest.map fun v => v.category).sum ≤ 8) (hdg : decode cc pc = .ok (.invokestatic index, 3))
    (kk : ∀ r : Int32, post r → W p l e R s m args below meth c H locs cells slots Q (F0 m (pc + 3) ls (.int r :: rest))) : W p l e R s m args below meth c H locs cells slots Q (F0 m pc ls st) :=
  vp_callSi (va_Run.run (k_SN S hM cy hl hrc hrs hR hC hS hA hH hn hsz hst hcat hf hdg)) kk
theorem kNl {post : Int64 → Prop} (S : CallFix p m c cc nL s args WALL own) (hM : Met l y (Cond.code y bytes maxL ret :: WALL) rm (pc0 K As Hp) (vp_Sl post) 0 0 (fun _ => False)) (cy : kC y bytes maxL ret n) (hl : Cond.methodLinkNest own index y host ∈ NALL ∧ Cond.static y ∈ WALL) (hrc : rm.cells = 0) (hrs : rm.slots = 0) (hR : rm.frames + 1 ≤ R.frames ∧ 8 + (maxL + 11) + rm.locals ≤ R.locals)
    (hC : CX K s) (hS : va_S A s.heap H locs) (hA : ∀ q, A q → kz K ≤ q) (hH : Hp H) (hf : cells + 0 ≤ R.cells ∧ slots + 0 ≤ R.slots) (hsz : ls.size = nL) (hn : As.length = n) (hst : st = As.reverse ++ rest) (hcat : (rest.map fun v => v.category).sum ≤ 8) (hdg : decode cc pc = .ok (.invokestatic index, 3))
    (kk : ∀ r : Int64, post r → W p l e R s m args below meth c H locs cells slots Q (F0 m (pc + 3) ls (.long r :: rest))) : W p l e R s m args below meth c H locs cells slots Q (F0 m pc ls st) :=
  vp_callSl (va_Run.run (k_SN S hM cy hl hrc hrs hR hC hS hA hH hn hsz hst hcat hf hdg)) kk
theorem kVi {post : Int32 → Prop} (S : CallFix p m c cc nL s args WALL own) (hM : Met l y (Cond.code y bytes maxL ret :: WALL) rm (pc0 K (.ref b :: As) Hp) (vp_Si post) 0 0 (fun _ => False)) (cy : kC y bytes maxL ret n) (hl : Cond.methodLink own index y ∈ WALL ∧ Cond.instanceMethod y ∈ WALL ∧ Cond.selects C y y ∈ WALL) (hrc : rm.cells = 0) (hrs : rm.slots = 0) (hR : rm.frames + 1 ≤ R.frames ∧ 8 + (maxL + 11) + rm.locals ≤ R.locals)
    (hC : CX K s) (hS : va_S A s.heap H locs) (hA : ∀ q, A q → kz K ≤ q) (hH : Hp H) (hrv : isA K C b H) (hf : cells + 0 ≤ R.cells ∧ slots + 0 ≤ R.slots) (hsz : ls.size = nL) (hn : As.length = n) (hst : st = As.reverse ++ .ref b :: rest) (hcat : (rest.map fun v => v.category).sum ≤ 8) (hdg : decode cc pc = .ok (.invokevirtual index, 3))
    (kk : ∀ r : Int32, post r → W p l e R s m args below meth c H locs cells slots Q (F0 m (pc + 3) ls (.int r :: rest))) : W p l e R s m args below meth c H locs cells slots Q (F0 m pc ls st) :=
  vp_callSi (va_Run.run (k_V S hM cy hl hrc hrs hR hC hS hA hH hrv hn hsz hst hcat hf hdg)) kk
theorem kVl {post : Int64 → Prop} (S : CallFix p m c cc nL s args WALL own) (hM : Met l y (Cond.code y bytes maxL ret :: WALL) rm (pc0 K (.ref b :: As) Hp) (vp_Sl post) 0 0 (fun _ => False)) (cy : kC y bytes maxL ret n) (hl : Cond.methodLink own index y ∈ WALL ∧ Cond.instanceMethod y ∈ WALL ∧ Cond.selects C y y ∈ WALL) (hrc : rm.cells = 0) (hrs : rm.slots = 0) (hR : rm.frames + 1 ≤ R.frames ∧ 8 + (maxL + 11) + rm.locals ≤ R.locals)
    (hC : CX K s) (hS : va_S A s.heap H locs) (hA : ∀ q, A q → kz K ≤ q) (hH : Hp H) (hrv : isA K C b H) (hf : cells + 0 ≤ R.cells ∧ slots + 0 ≤ R.slots) (hsz : ls.size = nL) (hn : As.length = n) (hst : st = As.reverse ++ .ref b :: rest) (hcat : (rest.map fun v => v.category).sum ≤ 8) (hdg : decode cc pc = .ok (.invokevirtual index, 3))
    (kk : ∀ r : Int64, post r → W p l e R s m args below meth c H locs cells slots Q (F0 m (pc + 3) ls (.long r :: rest))) : W p l e R s m args below meth c H locs cells slots Q (F0 m pc ls st) :=
  vp_callSl (va_Run.run (k_V S hM cy hl hrc hrs hR hC hS hA hH hrv hn hsz hst hcat hf hdg)) kk
theorem kVq {post : Option Nat → Prop} (S : CallFix p m c cc nL s args WALL own) (hM : Met l y (Cond.code y bytes maxL ret :: WALL) rm (pc0 K (.ref b :: As) Hp) (va_Sq post) 0 0 (fun _ => False)) (cy : kC y bytes maxL ret n) (hl : Cond.methodLink own index y ∈ WALL ∧ Cond.instanceMethod y ∈ WALL ∧ Cond.selects C y y ∈ WALL) (hrc : rm.cells = 0) (hrs : rm.slots = 0) (hR : rm.frames + 1 ≤ R.frames ∧ 8 + (maxL + 11) + rm.locals ≤ R.locals)
    (hC : CX K s) (hS : va_S A s.heap H locs) (hA : ∀ q, A q → kz K ≤ q) (hH : Hp H) (hrv : isA K C b H) (hf : cells + 0 ≤ R.cells ∧ slots + 0 ≤ R.slots) (hsz : ls.size = nL) (hn : As.length = n) (hst : st = As.reverse ++ .ref b :: rest) (hcat : (rest.map fun v => v.category).sum ≤ 8) (hdg : decode cc pc = .ok (.invokevirtual index, 3))
    (kk : ∀ r : Option Nat, post r → W p l e R s m args below meth c H locs cells slots Q (F0 m (pc + 3) ls (va_rf r :: rest))) : W p l e R s m args below meth c H locs cells slots Q (F0 m pc ls st) :=
  va_csq (va_Run.run (k_V S hM cy hl hrc hrs hR hC hS hA hH hrv hn hsz hst hcat hf hdg)) kk
end
