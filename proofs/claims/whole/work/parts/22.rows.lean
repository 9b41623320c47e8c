/-! rows over one cell: reading and writing at a place nI j, with what stays -/
/-- what is asked of a class of which objects are kept: its words, its fields' types, its fields' names -/
def kF (C : String) (T : u_T) (N : Nat) : Prop := (∀ w ∈ u_ws C T N, w ∈ WALL) ∧ (∃ ty0 : Nat → FieldType, ∀ k, k < N → parseFieldDescriptor (T k).2.2.1 = some (ty0 k)) ∧ ∀ a, a < N → ∀ b, b < N → a ≠ b → (T a).2.1 ≠ (T b).2.1
section
variable {p : Program} {l : Launch} {e : Env} {R : Room} {s : State} {m : MethodId} {args : Array Value} {below : List Frame} {meth : Method} {c : Code} {H : Heap} {locs : List Loc} {cells slots : Nat} {Q : State → Prop}
variable {cc : ByteArray} {pc nL : Nat} {ls : Array Slot} {st rest : List Value} {K : KT} {own : String} {A : Nat → Prop} {a : Nat} {H0 : Heap}
theorem clamp_nI {j n : Nat} (hj : j < n) (hn : n < 2147483648) : (nI j).toNatClampNeg = j := nI_clamp (by omega)
theorem o_iald {j n : Nat} {f : Nat → Int32} (S : CallFix p m c cc nL s args WALL own) (hC : CX K s) (h : va_at K.1 classes (a, .inl (kI K, n, .inl f)) H) (hn : n < 2147483648) (hj : j < n) (hdg : decode cc pc = .ok (.iaload, 1))
    (kk : W p l e R s m args below meth c H locs cells slots Q (F0 m (pc + 1) ls (.int (f j) :: rest))) : W p l e R s m args below meth c H locs cells slots Q (F0 m pc ls (.int (nI j) :: .ref a :: rest)) := by
  refine va_iald (n := n) (f := f) S.1 S.2.1 hC.1 (vs h) 0 0 rfl rfl (vp_in_nI hj hn) hdg ?_
  rw [clamp_nI hj hn]
  exact kk
theorem o_zald {j n : Nat} {f : Nat → Int32} (S : CallFix p m c cc nL s args WALL own) (hC : CX K s) (h : va_at K.1 classes (a, .inl (kZ K, n, .inl f)) H) (hn : n < 2147483648) (hj : j < n) (hdg : decode cc pc = .ok (.baload, 1))
    (kk : W p l e R s m args below meth c H locs cells slots Q (F0 m (pc + 1) ls (.int (f j) :: rest))) : W p l e R s m args below meth c H locs cells slots Q (F0 m pc ls (.int (nI j) :: .ref a :: rest)) := by
  refine va_zald (n := n) (f := f) S.1 S.2.1 hC.1 (vs h) 0 2 rfl rfl (vp_in_nI hj hn) hdg ?_
  rw [clamp_nI hj hn]
  exact kk
theorem o_lald {j n : Nat} {f : Nat → Int64} (S : CallFix p m c cc nL s args WALL own) (hC : CX K s) (h : va_at K.1 classes (a, .inl (kJ K, n, .inr (.inl f))) H) (hn : n < 2147483648) (hj : j < n) (hdg : decode cc pc = .ok (.laload, 1))
    (kk : W p l e R s m args below meth c H locs cells slots Q (F0 m (pc + 1) ls (.long (f j) :: rest))) : W p l e R s m args below meth c H locs cells slots Q (F0 m pc ls (.int (nI j) :: .ref a :: rest)) := by
  refine va_lald (n := n) (f := f) S.1 S.2.1 hC.1 (vs h) 0 1 rfl rfl (vp_in_nI hj hn) hdg ?_
  rw [clamp_nI hj hn]
  exact kk
/-- reading a field of an object whose class is known -/
theorem o_get {C : String} {T : u_T} {N ci index : Nat} {fs : List Value} {v : Value} (S : CallFix p m c cc nL s args WALL own) (hC : CX K s) (hF : kF C T N) (h : va_at K.1 classes (a, .inr (ci, fs)) H) (hc : classes[ci]? = some (C, T, N)) (k : Nat) (hk : k < N)
    (hl : Cond.fieldLink own index (T k).1 (T k).2.1 (T k).2.2.1 ∈ WALL) (hv : fs[k]? = some v) (hdg : decode cc pc = .ok (.getfield index, 3))
    (kk : W p l e R s m args below meth c H locs cells slots Q (F0 m (pc + 3) ls (v :: rest))) : W p l e R s m args below meth c H locs cells slots Q (F0 m pc ls (.ref a :: rest)) :=
  va_get (ref := (T k).1) S.1 S.2.1 S.2.2.2.2 hF.1 S.2.2.2.1 hC.1 (vs h) 0 rfl hc k hk (S.2.2.2.2 _ hl) (fun _ h9 => h9) hv hdg kk
/-- the same through the nest (private, of another class) -/
theorem o_getN {C host : String} {T : u_T} {N ci index : Nat} {fs : List Value} {v : Value} (S : CallFix p m c cc nL s args WALL own) (hC : CX K s) (hF : kF C T N) (h : va_at K.1 classes (a, .inr (ci, fs)) H) (hc : classes[ci]? = some (C, T, N)) (k : Nat) (hk : k < N)
    (hl : Cond.fieldLinkNest own index (T k).1 (T k).2.1 (T k).2.2.1 host ∈ NALL) (hv : fs[k]? = some v) (hdg : decode cc pc = .ok (.getfield index, 3))
    (kk : W p l e R s m args below meth c H locs cells slots Q (F0 m (pc + 3) ls (v :: rest))) : W p l e R s m args below meth c H locs cells slots Q (F0 m pc ls (.ref a :: rest)) :=
  va_getN (ref := (T k).1) S.1 S.2.1 S.2.2.2.2 hF.1 S.2.2.2.1 hC.1 (vs h) 0 rfl hc k hk (va_Nw.use rfl (hC.2.1 _ hl)) (fun _ h9 => h9) hv hdg kk
/-! writing, over a list of cells -/
variable {ws : va_W}
theorem l_iast {j n : Nat} {f : Nat → Int32} {x : Int32} (S : CallFix p m c cc nL s args WALL own) (hC : CX K s) (hP : va_P K.1 classes ws H) (hD : va_D A ws) (hS : va_S A H0 H locs) (q0 : Nat) (ha : ws[q0]? = some (a, .inl (kI K, n, .inl f))) (hn : n < 2147483648) (hj : j < n) (hdg : decode cc pc = .ok (.iastore, 1))
    (kk : ∀ (H : Heap) (locs : List Loc), va_P K.1 classes (ws.set q0 (a, .inl (kI K, n, .inl (upd f j x)))) H → va_S A H0 H locs → W p l e R s m args below meth c H locs cells slots Q (F0 m (pc + 1) ls rest)) : W p l e R s m args below meth c H locs cells slots Q (F0 m pc ls (.int x :: .int (nI j) :: .ref a :: rest)) := by
  refine va_iast S.1 S.2.1 hC.1 hP hD hS q0 0 ha rfl (vp_in_nI hj hn) hdg (fun H1 locs1 hP1 _ hS1 => kk H1 locs1 ?_ hS1)
  rw [clamp_nI hj hn] at hP1
  exact hP1
theorem l_last {j n : Nat} {f : Nat → Int64} {x : Int64} (S : CallFix p m c cc nL s args WALL own) (hC : CX K s) (hP : va_P K.1 classes ws H) (hD : va_D A ws) (hS : va_S A H0 H locs) (q0 : Nat) (ha : ws[q0]? = some (a, .inl (kJ K, n, .inr (.inl f)))) (hn : n < 2147483648) (hj : j < n) (hdg : decode cc pc = .ok (.lastore, 1))
    (kk : ∀ (H : Heap) (locs : List Loc), va_P K.1 classes (ws.set q0 (a, .inl (kJ K, n, .inr (.inl (vp_updL f j x))))) H → va_S A H0 H locs → W p l e R s m args below meth c H locs cells slots Q (F0 m (pc + 1) ls rest)) : W p l e R s m args below meth c H locs cells slots Q (F0 m pc ls (.long x :: .int (nI j) :: .ref a :: rest)) := by
  refine va_last S.1 S.2.1 hC.1 hP hD hS q0 1 ha rfl (vp_in_nI hj hn) hdg (fun H1 locs1 hP1 _ hS1 => kk H1 locs1 ?_ hS1)
  rw [clamp_nI hj hn] at hP1
  exact hP1
theorem l_zast {j n : Nat} {f : Nat → Int32} {x : Int32} (S : CallFix p m c cc nL s args WALL own) (hC : CX K s) (hP : va_P K.1 classes ws H) (hD : va_D A ws) (hS : va_S A H0 H locs) (q0 : Nat) (ha : ws[q0]? = some (a, .inl (kZ K, n, .inl f))) (hn : n < 2147483648) (hj : j < n) (hx : vp_nar .boolean x = x) (hdg : decode cc pc = .ok (.bastore, 1))
    (kk : ∀ (H : Heap) (locs : List Loc), va_P K.1 classes (ws.set q0 (a, .inl (kZ K, n, .inl (upd f j x)))) H → va_S A H0 H locs → W p l e R s m args below meth c H locs cells slots Q (F0 m (pc + 1) ls rest)) : W p l e R s m args below meth c H locs cells slots Q (F0 m pc ls (.int x :: .int (nI j) :: .ref a :: rest)) := by
  refine va_zast S.1 S.2.1 hC.1 hP hD hS q0 2 ha rfl (vp_in_nI hj hn) hdg (fun H1 locs1 hP1 _ hS1 => kk H1 locs1 ?_ hS1)
  rw [clamp_nI hj hn, hx] at hP1
  exact hP1
theorem l_put {C : String} {T : u_T} {N ci index : Nat} {fs : List Value} {ty : FieldType} {v : Value} (S : CallFix p m c cc nL s args WALL own) (hC : CX K s) (hF : kF C T N) (hP : va_P K.1 classes ws H) (hD : va_D A ws) (hS : va_S A H0 H locs) (q0 : Nat) (he : ws[q0]? = some (a, .inr (ci, fs))) (hc : classes[ci]? = some (C, T, N)) (k : Nat) (hk : k < N)
    (hl : Cond.fieldLink own index (T k).1 (T k).2.1 (T k).2.2.1 ∈ WALL) (hfin : (T k).2.2.2 = false) (hd : parseFieldDescriptor (T k).2.2.1 = some ty) (hn : narrow ty v = v) (hfit : fits ty v = true) (hlen : k < fs.length) (hdg : decode cc pc = .ok (.putfield index, 3))
    (kk : ∀ (H : Heap) (locs : List Loc), va_P K.1 classes (ws.set q0 (a, .inr (ci, fs.set k v))) H → va_S A H0 H locs → W p l e R s m args below meth c H locs cells slots Q (F0 m (pc + 3) ls rest)) : W p l e R s m args below meth c H locs cells slots Q (F0 m pc ls (v :: .ref a :: rest)) := by
  obtain ⟨h1, ⟨ty0, h2⟩, h3⟩ := hF
  exact va_put (ref := (T k).1) S.1 S.2.1 S.2.2.2.2 h1 ty0 h2 h3 S.2.2.2.1 hC.1 hP hD hS q0 he hc k hk (S.2.2.2.2 _ hl) (fun _ h9 => h9) hfin hd hn hfit hlen hdg (fun H1 locs1 hP1 _ hS1 => kk H1 locs1 hP1 hS1)
theorem l_putF {C : String} {T : u_T} {N ci index : Nat} {fs : List Value} {ty : FieldType} {v : Value} (S : CallFix p m c cc nL s args WALL own) (hC : CX K s) (hF : kF C T N) (hP : va_P K.1 classes ws H) (hD : va_D A ws) (hS : va_S A H0 H locs) (q0 : Nat) (he : ws[q0]? = some (a, .inr (ci, fs))) (hc : classes[ci]? = some (C, T, N)) (k : Nat) (hk : k < N)
    (hl : Cond.fieldLink own index (T k).1 (T k).2.1 (T k).2.2.1 ∈ WALL) (hfin : (T k).2.2.2 = true) (hin2 : meth.name = "<init>") (hdecl : (T k).1 = own) (hd : parseFieldDescriptor (T k).2.2.1 = some ty) (hn : narrow ty v = v) (hfit : fits ty v = true) (hlen : k < fs.length) (hdg : decode cc pc = .ok (.putfield index, 3))
    (kk : ∀ (H : Heap) (locs : List Loc), va_P K.1 classes (ws.set q0 (a, .inr (ci, fs.set k v))) H → va_S A H0 H locs → W p l e R s m args below meth c H locs cells slots Q (F0 m (pc + 3) ls rest)) : W p l e R s m args below meth c H locs cells slots Q (F0 m pc ls (v :: .ref a :: rest)) := by
  obtain ⟨h1, ⟨ty0, h2⟩, h3⟩ := hF
  exact va_putF (ref := (T k).1) S.1 S.2.1 S.2.2.2.2 h1 ty0 h2 h3 S.2.2.2.1 hC.1 hP hD hS q0 he hc k hk (S.2.2.2.2 _ hl) (fun _ h9 => h9) hfin hin2 hdecl hd hn hfit hlen hdg (fun H1 locs1 hP1 _ hS1 => kk H1 locs1 hP1 hS1)
end
