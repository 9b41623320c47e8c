/-! the frame of every contract: one list of words (WALL), the words of nest mates and casts (NALL), the tables, the statics below z0 -/
theorem nw_warm {w : Cond} {s U : State} (h : nwOk w = true) (hW : s.WarmedH U.vm) (hZ : va_Nw w s) : va_Nw w U := by
  cases w <;> first
    | exact va_Nw.warmM hW hZ
    | exact va_Nw.warmF hW hZ
    | exact va_Nw.warmD hW hZ
    | exact va_Nw.warmC hW hZ
    | (simp [nwOk] at h; done)
theorem nw_tab {w : Cond} (h : nwOk w = true) : w.onTables = true := by
  cases w <;> first
    | rfl
    | (simp [nwOk] at h; done)
/-- the numbers that a run's tables give: classes and slots; the array classes; the first address of what the law makes, ZERO_AT, the empty array of lists, the class object of Object[] -/
abbrev KT : Type := va_G × (ClassId × ClassId × ClassId × ClassId) × (Nat × Nat × Nat × Nat)
abbrev kI (K : KT) : ClassId := K.2.1.1
abbrev kJ (K : KT) : ClassId := K.2.1.2.1
abbrev kZ (K : KT) : ClassId := K.2.1.2.2.1
abbrev kO (K : KT) : ClassId := K.2.1.2.2.2
abbrev kz (K : KT) : Nat := K.2.2.1
abbrev ktz (K : KT) : Nat := K.2.2.2.1
abbrev kte (K : KT) : Nat := K.2.2.2.2.1
abbrev kmi (K : KT) : Nat := K.2.2.2.2.2
def tysOf (K : KT) : List (ClassId × FieldType) := [(kI K, .int), (kJ K, .long), (kZ K, .boolean), (kO K, .object "java/lang/Object")]
/-- what every contract is given: the tables (classes, array classes), the words of NALL, the statics, that lie below z0 -/
def CX (K : KT) (U : State) : Prop :=
  va_K K.1 classes (tysOf K) U ∧ (∀ w ∈ NALL, va_Nw w U) ∧ va_Z "MetricLogMonitor" "ZERO_AT" "[J" (.ref (ktz K)) (fun q => kz K ≤ q) U U.heap ∧ va_T .long (ktz K) 3 (fun v => .long (zAt v)) (fun q => kz K ≤ q) U U.heap ∧
  va_Z "java/util/ArrayList" "DEFAULTCAPACITY_EMPTY_ELEMENTDATA" "[Ljava/lang/Object;" (.ref (kte K)) (fun q => kz K ≤ q) U U.heap ∧ va_T (.object "java/lang/Object") (kte K) 0 (fun _ => .null) (fun q => kz K ≤ q) U U.heap ∧ kz K ≤ U.heap.size ∧ va_Mi "[Ljava/lang/Object;" (kmi K) U ∧ va_Dc U ∧ va_AO "java/lang/Object" U
section
variable {K : KT} {s U : State} {H : Heap} {locs : List Loc} {A : Nat → Prop}
theorem CX.at (h : CX K s) (hS : va_S A s.heap H locs) (hA : ∀ q, A q → kz K ≤ q) (hU : U.heap = H) (hW : s.WarmedH U.vm) : CX K U := by
  obtain ⟨h1, h2, h3, h4, h5, h6, h7, h8, h9, h10⟩ := h
  have hk : ∀ a : Nat, a < s.heap.size → ¬ kz K ≤ a → U.heap[a]? = s.heap[a]? := fun a ha hn => by rw [hU]; exact hS.2.1 a ha (fun z => hn (hA a z))
  exact ⟨va_K.moved hW.alike h1, fun w hw => nw_warm (nall_ok w hw) hW (h2 w hw), va_Z.moved hW.alike (h3.kept hk), va_T.moved hW.alike (h4.kept hk), va_Z.moved hW.alike (h5.kept hk), va_T.moved hW.alike (h6.kept hk), Nat.le_trans h7 (by rw [hU]; exact hS.1), h8.moved hW.alike, h9.moved hW.alike, h10.moved hW.alike⟩
theorem CX.calling (g : JFrame) (mk : MethodId) (a : Array Value) (h : CX K U) : CX K (U.calling g mk a) := by
  obtain ⟨h1, h2, h3, h4, h5, h6, h7, h8, h9, h10⟩ := h
  have hv : U.vm.Alike (U.calling g mk a).vm := Vm.Alike.refl U.vm
  exact ⟨va_K.moved hv h1, fun w hw => va_Nw.same (u := U) (nw_tab (nall_ok w hw)) (show U.vm = (U.calling g mk a).vm from rfl) (h2 w hw), va_Z.moved hv h3, va_T.moved hv h4, va_Z.moved hv h5, va_T.moved hv h6, h7, h8.moved hv, h9.moved hv, h10.moved hv⟩
end
/-- a contract's start: the arguments, the frame, and what the heap holds -/
abbrev pc0 (K : KT) (As : List Value) (Hp : Heap → Prop) : Array Value → State → Prop := va_Pc As (fun U => CX K U ∧ Hp U.heap)
/-- what is asked of a callee, apart from the link -/
def kC (y : MethodName) (bytes : ByteArray) (maxL : Nat) (ret : Option FieldType) (n : Nat) : Prop :=
  Cond.code y bytes maxL ret ∈ WALL ∧ Cond.initialized y.cls ∈ WALL ∧ y.cls ≠ "java/lang/invoke/MethodHandle" ∧ y.cls ≠ "java/lang/invoke/VarHandle" ∧ (parseMethodDescriptor y.desc).map (fun d => d.parameters.length) = some n
theorem good_all {y : MethodName} {bytes : ByteArray} {maxL : Nat} {ret : Option FieldType} (h : Cond.code y bytes maxL ret ∈ WALL) : GoodIn WALL (Cond.code y bytes maxL ret :: WALL) := by
  intro w hw
  rcases List.mem_cons.mp hw with e | e
  · subst e
    exact ⟨h, Or.inl rfl⟩
  · exact ⟨e, wall_ok w e⟩
section
variable {p : Program} {l : Launch} {e : Env} {R : Room} {s : State} {m : MethodId} {args : Array Value} {below : List Frame} {meth : Method} {c : Code} {H : Heap} {locs : List Loc} {cells slots : Nat} {Q : State → Prop}
variable {cc : ByteArray} {pc nL : Nat} {ls : Array Slot} {st rest : List Value} {K : KT} {own : String} {A : Nat → Prop} {a : Nat}
variable {y : MethodName} {bytes : ByteArray} {maxL n index : Nat} {ret : Option FieldType} {rm : Room} {As : List Value} {Hp : Heap → Prop} {Qc : Array Value → State → Outcome → State → Prop} {free : Addr → Prop} {mc ms : Nat} {host C : String} {b : Addr}
theorem k_pre (hC : CX K s) (hS : va_S A s.heap H locs) (hA : ∀ q, A q → kz K ≤ q) (hH : Hp H) : PreS s H (pc0 K As Hp) As :=
  ⟨fun x U g mk q => ⟨q.1, CX.calling g mk x q.2.1, q.2.2⟩, fun U hU hW => ⟨rfl, CX.at hC hS hA hU hW, by rw [hU]; exact hH⟩⟩
theorem k_callB (S : CallFix p m c cc nL s args WALL own) (cy : kC y bytes maxL ret n) (hl : Cond.methodLink own index y ∈ WALL) (hrc : rm.cells = mc) (hrs : rm.slots = ms) (hR : rm.frames + 1 ≤ R.frames ∧ 8 + (maxL + 11) + rm.locals ≤ R.locals) : CallB R s args own index y bytes maxL ret (Cond.code y bytes maxL ret :: WALL) rm mc ms n :=
  callB_of n S.2.2.2.2 (good_all cy.1) rfl hrc hrs (S.2.2.2.2 _ cy.2.1) (S.2.2.2.2 _ hl) cy.2.2 hR
theorem k_callN (S : CallFix p m c cc nL s args WALL own) (hC : CX K s) (cy : kC y bytes maxL ret n) (hl : Cond.methodLinkNest own index y host ∈ NALL) (hrc : rm.cells = mc) (hrs : rm.slots = ms) (hR : rm.frames + 1 ≤ R.frames ∧ 8 + (maxL + 11) + rm.locals ≤ R.locals) : va_CN R s args own index y host bytes maxL ret (Cond.code y bytes maxL ret :: WALL) rm mc ms n :=
  va_cnB n S.2.2.2.2 (good_all cy.1) rfl hrc hrs (hC.2.1 _ hl) (S.2.2.2.2 _ cy.2.1) cy.2.2 hR
/-- a static call -/
theorem k_S (S : CallFix p m c cc nL s args WALL own) (hM : Met l y (Cond.code y bytes maxL ret :: WALL) rm (pc0 K As Hp) Qc mc ms free) (cy : kC y bytes maxL ret n) (hl : Cond.methodLink own index y ∈ WALL ∧ Cond.static y ∈ WALL) (hrc : rm.cells = mc) (hrs : rm.slots = ms) (hR : rm.frames + 1 ≤ R.frames ∧ 8 + (maxL + 11) + rm.locals ≤ R.locals)
    (hC : CX K s) (hS : va_S A s.heap H locs) (hA : ∀ q, A q → kz K ≤ q) (hH : Hp H) (hn : As.length = n) (hsz : ls.size = nL) (hst : st = As.reverse ++ rest) (hcat : (rest.map fun v => v.category).sum ≤ 8) (hf : cells + mc ≤ R.cells ∧ slots + ms ≤ R.slots) (hdg : decode cc pc = .ok (.invokestatic index, 3)) :
    va_Run p l e R s m args below meth c H locs cells slots mc ms (F0 m pc ls st) rest (Qc As.toArray) free :=
  va_runS S hM ⟨k_callB S cy hl.1 hrc hrs hR, S.2.2.2.2 _ hl.2⟩ (k_pre hC hS hA hH) rfl hn hsz hst (lv_room hcat) hdg hf
/-- a static call of a nest mate's private method -/
theorem k_SN (S : CallFix p m c cc nL s args WALL own) (hM : Met l y (Cond.code y bytes maxL ret :: WALL) rm (pc0 K As Hp) Qc mc ms free) (cy : kC y bytes maxL ret n) (hl : Cond.methodLinkNest own index y host ∈ NALL ∧ Cond.static y ∈ WALL) (hrc : rm.cells = mc) (hrs : rm.slots = ms) (hR : rm.frames + 1 ≤ R.frames ∧ 8 + (maxL + 11) + rm.locals ≤ R.locals)
    (hC : CX K s) (hS : va_S A s.heap H locs) (hA : ∀ q, A q → kz K ≤ q) (hH : Hp H) (hn : As.length = n) (hsz : ls.size = nL) (hst : st = As.reverse ++ rest) (hcat : (rest.map fun v => v.category).sum ≤ 8) (hf : cells + mc ≤ R.cells ∧ slots + ms ≤ R.slots) (hdg : decode cc pc = .ok (.invokestatic index, 3)) :
    va_Run p l e R s m args below meth c H locs cells slots mc ms (F0 m pc ls st) rest (Qc As.toArray) free :=
  va_runSN S hM ⟨k_callN S hC cy hl.1 hrc hrs hR, S.2.2.2.2 _ hl.2, trivial⟩ (k_pre hC hS hA hH) rfl hn hsz hst (lv_room hcat) hdg hf
/-- the receiver's cell is an object of the class C -/
def isA (K : KT) (C : String) (b : Nat) (H : Heap) : Prop := ∃ (ci : Nat) (T : u_T) (N : Nat) (fs : List Value), classes[ci]? = some (C, T, N) ∧ va_at K.1 classes (b, .inr (ci, fs)) H
theorem k_recv (hC : CX K s) (h : isA K C b H) : ∃ cell : Cell, H[b]? = some cell ∧ cell.vm.isStatics = false ∧ s.vm.findClass C = some cell.cls := by
  obtain ⟨ci, T, N, fs, h1, h2⟩ := h
  obtain ⟨q', g0, cell, g1, g2, g3, -⟩ := h2
  have e : q' = (C, T, N) := Option.some.inj (g0.symm.trans h1)
  subst e
  exact ⟨cell, g1, by rw [g3]; rfl, by rw [g2]; exact (hC.1.1 ci _ h1).2.1⟩
theorem k_preV (hC : CX K s) (hS : va_S A s.heap H locs) (hA : ∀ q, A q → kz K ≤ q) (hH : Hp H) (hr : isA K C b H) : PreV s H C b (pc0 K (.ref b :: As) Hp) As :=
  ⟨fun x U g mk q => ⟨q.1, CX.calling g mk x q.2.1, q.2.2⟩, k_recv hC hr, fun U hU hW => ⟨rfl, CX.at hC hS hA hU hW, by rw [hU]; exact hH⟩⟩
/-- a call of an instance method of the receiver's own class -/
theorem k_V (S : CallFix p m c cc nL s args WALL own) (hM : Met l y (Cond.code y bytes maxL ret :: WALL) rm (pc0 K (.ref b :: As) Hp) Qc mc ms free) (cy : kC y bytes maxL ret n) (hl : Cond.methodLink own index y ∈ WALL ∧ Cond.instanceMethod y ∈ WALL ∧ Cond.selects C y y ∈ WALL) (hrc : rm.cells = mc) (hrs : rm.slots = ms) (hR : rm.frames + 1 ≤ R.frames ∧ 8 + (maxL + 11) + rm.locals ≤ R.locals)
    (hC : CX K s) (hS : va_S A s.heap H locs) (hA : ∀ q, A q → kz K ≤ q) (hH : Hp H) (hr : isA K C b H) (hn : As.length = n) (hsz : ls.size = nL) (hst : st = As.reverse ++ .ref b :: rest) (hcat : (rest.map fun v => v.category).sum ≤ 8) (hf : cells + mc ≤ R.cells ∧ slots + ms ≤ R.slots) (hdg : decode cc pc = .ok (.invokevirtual index, 3)) :
    va_Run p l e R s m args below meth c H locs cells slots mc ms (F0 m pc ls st) rest (Qc (Value.ref b :: As).toArray) free :=
  va_runV S hM ⟨k_callB S cy hl.1 hrc hrs hR, S.2.2.2.2 _ hl.2.1, S.2.2.2.2 _ hl.2.2⟩ (k_preV hC hS hA hH hr) rfl hn hsz hst (lv_room hcat) hdg hf
/-- a constructor's call -/
theorem k_I (S : CallFix p m c cc nL s args WALL own) (hM : Met l y (Cond.code y bytes maxL none :: WALL) rm (pc0 K (.ref b :: As) Hp) Qc mc ms free) (cy : kC y bytes maxL none n) (hl : Cond.methodLink own index y ∈ WALL ∧ Cond.instanceMethod y ∈ WALL) (hy : y.name = "<init>") (hrc : rm.cells = mc) (hrs : rm.slots = ms) (hR : rm.frames + 1 ≤ R.frames ∧ 8 + (maxL + 11) + rm.locals ≤ R.locals)
    (hC : CX K s) (hS : va_S A s.heap H locs) (hA : ∀ q, A q → kz K ≤ q) (hH : Hp H) (hn : As.length = n) (hsz : ls.size = nL) (hst : st = As.reverse ++ .ref b :: rest) (hcat : (rest.map fun v => v.category).sum ≤ 8) (hf : cells + mc ≤ R.cells ∧ slots + ms ≤ R.slots) (hdg : decode cc pc = .ok (.invokespecial index, 3)) :
    va_Run p l e R s m args below meth c H locs cells slots mc ms (F0 m pc ls st) rest (Qc (Value.ref b :: As).toArray) free :=
  va_runI S hM ⟨k_callB S cy hl.1 hrc hrs hR, hy, S.2.2.2.2 _ hl.2⟩ (k_pre hC hS hA hH) rfl hn hsz hst (lv_room hcat) hdg hf
/-- a call through the class that declares it: the receiver's class inherits (y is x) or overrides -/
theorem k_U {x : MethodName} {owner : String} (S : CallFix p m c cc nL s args WALL own) (hM : Met l y (Cond.code y bytes maxL ret :: WALL) rm (pc0 K (.ref b :: As) Hp) Qc mc ms free) (cy : kC y bytes maxL ret n)
    (hl : Cond.methodLink own index x ∈ WALL ∧ Cond.sameMethod x.cls owner x.name x.desc ∈ WALL ∧ Cond.selects C x y ∈ WALL ∧ Cond.instanceMethod y ∈ WALL) (hd : va_Decl s ⟨owner, x.name, x.desc⟩) (ho : owner ≠ "java/lang/invoke/MethodHandle" ∧ owner ≠ "java/lang/invoke/VarHandle") (hxn : (parseMethodDescriptor x.desc).map (fun d => d.parameters.length) = some n)
    (hrc : rm.cells = mc) (hrs : rm.slots = ms) (hR : rm.frames + 1 ≤ R.frames ∧ 8 + (maxL + 11) + rm.locals ≤ R.locals)
    (hC : CX K s) (hS : va_S A s.heap H locs) (hA : ∀ q, A q → kz K ≤ q) (hH : Hp H) (hr : isA K C b H) (hn : As.length = n) (hsz : ls.size = nL) (hst : st = As.reverse ++ .ref b :: rest) (hcat : (rest.map fun v => v.category).sum ≤ 8) (hf : cells + mc ≤ R.cells ∧ slots + ms ≤ R.slots) (hdg : decode cc pc = .ok (.invokevirtual index, 3)) :
    va_Run p l e R s m args below meth c H locs cells slots mc ms (F0 m pc ls st) rest (Qc (Value.ref b :: As).toArray) free :=
  va_runU S hM ⟨⟨hrc, hrs, hR.1, hR.2, pay_in S.2.2.2.2 (good_all cy.1), List.mem_cons_self⟩, S.2.2.2.2 _ cy.1, S.2.2.2.2 _ cy.2.1, ho, fun sig h => by rw [h] at hxn; exact (Option.some.inj hxn).symm, S.2.2.2.2 _ hl.1, S.2.2.2.2 _ hl.2.1, hd, S.2.2.2.2 _ hl.2.2.1, S.2.2.2.2 _ hl.2.2.2⟩ (k_preV hC hS hA hH hr) rfl hn hsz hst (lv_room hcat) hdg hf
theorem vs {cl : List vw_C} {q : Nat × va_E} (h : va_at K.1 cl q H) : va_P K.1 cl [q] H := fun k x hx => by
  have hz : k < 1 := (List.getElem?_eq_some_iff.mp hx).1
  rw [show k = 0 by omega] at hx
  cases hx
  exact h
theorem tpi {x y : Int32} (h : x = y) (k : W p l e R s m args below meth c H locs cells slots Q (F0 m pc ls (.int y :: rest))) : W p l e R s m args below meth c H locs cells slots Q (F0 m pc ls (.int x :: rest)) := h ▸ k
theorem tpl {x y : Int64} (h : x = y) (k : W p l e R s m args below meth c H locs cells slots Q (F0 m pc ls (.long y :: rest))) : W p l e R s m args below meth c H locs cells slots Q (F0 m pc ls (.long x :: rest)) := h ▸ k
end
