/-! writing, one cell at a time, with what stays said of every other cell -/
section
variable {p : Program} {l : Launch} {e : Env} {R : Room} {s : State} {m : MethodId} {args : Array Value} {below : List Frame} {meth : Method} {c : Code} {H : Heap} {locs : List Loc} {cells slots : Nat} {Q : State → Prop}
variable {cc : ByteArray} {pc nL : Nat} {ls : Array Slot} {st rest : List Value} {K : KT} {own : String} {A : Nat → Prop} {a : Nat} {H0 : Heap}
theorem f_put {C : String} {T : u_T} {N ci index : Nat} {fs : List Value} {ty : FieldType} {v : Value} (S : CallFix p m c cc nL s args WALL own) (hC : CX K s) (hF : kF C T N) (h : va_at K.1 classes (a, .inr (ci, fs)) H) (hAa : A a) (hS : va_S A H0 H locs) (hc : classes[ci]? = some (C, T, N)) (k : Nat) (hk : k < N)
    (hl : Cond.fieldLink own index (T k).1 (T k).2.1 (T k).2.2.1 ∈ WALL) (hfin : (T k).2.2.2 = false) (hd : parseFieldDescriptor (T k).2.2.1 = some ty) (hn : narrow ty v = v) (hfit : fits ty v = true) (hlen : k < fs.length) (hdg : decode cc pc = .ok (.putfield index, 3))
    (kk : ∀ (H1 : Heap) (locs : List Loc), va_at K.1 classes (a, .inr (ci, fs.set k v)) H1 → (∀ q : Nat, q ≠ a → H1[q]? = H[q]?) → H1.size = H.size → va_S A H0 H1 locs → W p l e R s m args below meth c H1 locs cells slots Q (F0 m (pc + 3) ls rest)) : W p l e R s m args below meth c H locs cells slots Q (F0 m pc ls (v :: .ref a :: rest)) := by
  obtain ⟨h1, ⟨ty0, h2⟩, h3⟩ := hF
  have hap := va_apart (own := own) S.2.2.2.2 h1 ty0 h2 h3 hC.1 hc
  obtain ⟨r, g1, cell, q1, q2, q3, q4⟩ := h
  have hr : r = (C, T, N) := Option.some.inj (g1.symm.trans hc)
  subst hr
  obtain ⟨hSl, hfc, kC, hkC, hkind⟩ := hC.1.1 ci _ hc
  obtain ⟨cf, kf, fi, f, hi, hsl⟩ := hSl k hk
  have hlay := S.2.2.2.2 _ (h1 _ (u_in_lay hk))
  unfold u_lay at hlay
  rw [if_neg (by rw [hfin]; decide)] at hlay
  have hst := (u_facts hfc hkC (u_lays S.2.2.2.2 h1 hk) hi).1
  have h6 := u_store hfc hkC hkind hlay hi hd hn hfit
  refine W.putK S.1 S.2.1 (f := f) ⟨S.2.2.2.1, S.2.2.2.2 _ hl, ⟨_, _, _, hi⟩, hst⟩ (by rw [q2]; exact h6) q1 q3 (by rw [hsl]; exact k2_hasslot (q4 k hk)) rfl rfl hdg fun H' e1 e2 e3 => ?_
  rw [hsl] at e1 ⊢
  exact kk H' _ ⟨_, hc, t_OB.to (V := updV (vp_V fs) k v) ⟨_, e1, q2, q3, t_set q4 hap hk v⟩ (fun j _ => vp_updV_set hlen v j)⟩ e3 e2 (hS.put e2 e3 hAa)
theorem f_last {j n : Nat} {f : Nat → Int64} {x : Int64} (S : CallFix p m c cc nL s args WALL own) (hC : CX K s) (h : va_at K.1 classes (a, .inl (kJ K, n, .inr (.inl f))) H) (hAa : A a) (hS : va_S A H0 H locs) (hn : n < 2147483648) (hj : j < n) (hdg : decode cc pc = .ok (.lastore, 1))
    (kk : ∀ (H1 : Heap) (locs : List Loc), va_at K.1 classes (a, .inl (kJ K, n, .inr (.inl (vp_updL f j x)))) H1 → (∀ q : Nat, q ≠ a → H1[q]? = H[q]?) → H1.size = H.size → va_S A H0 H1 locs → W p l e R s m args below meth c H1 locs cells slots Q (F0 m (pc + 1) ls rest)) : W p l e R s m args below meth c H locs cells slots Q (F0 m pc ls (.long x :: .int (nI j) :: .ref a :: rest)) := by
  have hin := vp_in_nI hj hn
  refine W.last S.1 S.2.1 h ((hC.1.2 1 _ rfl).1 n (fun j => .long (f j))) (fun q => by cases q) (by show ¬ (nI j < 0 ∨ (arrV _ _ _).slots.size ≤ _); rw [arrV_size]; exact hin) rfl rfl hdg fun H1 e1 z oq => ?_
  refine kk H1 _ ?_ oq z (hS.put z oq hAa)
  show H1[a]? = some (vp_cell _ _)
  rw [e1, clamp_nI hj hn, vp_cell_l, vp_cell_l, arrV_store]
  congr 2
  funext q
  by_cases hq : q = j
  · subst hq
    simp [updV, vp_updL]
  · simp [updV, vp_updL, hq]
theorem f_iast {j n : Nat} {f : Nat → Int32} {x : Int32} (S : CallFix p m c cc nL s args WALL own) (hC : CX K s) (h : va_at K.1 classes (a, .inl (kI K, n, .inl f)) H) (hAa : A a) (hS : va_S A H0 H locs) (hn : n < 2147483648) (hj : j < n) (hdg : decode cc pc = .ok (.iastore, 1))
    (kk : ∀ (H1 : Heap) (locs : List Loc), va_at K.1 classes (a, .inl (kI K, n, .inl (upd f j x))) H1 → (∀ q : Nat, q ≠ a → H1[q]? = H[q]?) → H1.size = H.size → va_S A H0 H1 locs → W p l e R s m args below meth c H1 locs cells slots Q (F0 m (pc + 1) ls rest)) : W p l e R s m args below meth c H locs cells slots Q (F0 m pc ls (.int x :: .int (nI j) :: .ref a :: rest)) := by
  have hin := vp_in_nI hj hn
  refine W.iast S.1 S.2.1 h ((hC.1.2 0 _ rfl).1 n (fun j => .int (f j))) (fun q => by cases q) (by show ¬ (nI j < 0 ∨ (arrV _ _ _).slots.size ≤ _); rw [arrV_size]; exact hin) rfl rfl hdg fun H1 e1 z oq => ?_
  refine kk H1 _ ?_ oq z (hS.put z oq hAa)
  show H1[a]? = some (vp_cell _ _)
  rw [e1, clamp_nI hj hn, vp_cell_i, vp_cell_i, arrV_store]
  congr 2
  funext q
  by_cases hq : q = j
  · subst hq
    simp [updV, upd]
  · simp [updV, upd, hq]
theorem f_putF {C : String} {T : u_T} {N ci index : Nat} {fs : List Value} {ty : FieldType} {v : Value} (S : CallFix p m c cc nL s args WALL own) (hC : CX K s) (hF : kF C T N) (h : va_at K.1 classes (a, .inr (ci, fs)) H) (hAa : A a) (hS : va_S A H0 H locs) (hc : classes[ci]? = some (C, T, N)) (k : Nat) (hk : k < N)
    (hl : Cond.fieldLink own index (T k).1 (T k).2.1 (T k).2.2.1 ∈ WALL) (hfin : (T k).2.2.2 = true) (hin2 : meth.name = "<init>") (hdecl : (T k).1 = own) (hd : parseFieldDescriptor (T k).2.2.1 = some ty) (hn : narrow ty v = v) (hfit : fits ty v = true) (hlen : k < fs.length) (hdg : decode cc pc = .ok (.putfield index, 3))
    (kk : ∀ (H1 : Heap) (locs : List Loc), va_at K.1 classes (a, .inr (ci, fs.set k v)) H1 → (∀ q : Nat, q ≠ a → H1[q]? = H[q]?) → H1.size = H.size → va_S A H0 H1 locs → W p l e R s m args below meth c H1 locs cells slots Q (F0 m (pc + 3) ls rest)) : W p l e R s m args below meth c H locs cells slots Q (F0 m pc ls (v :: .ref a :: rest)) := by
  obtain ⟨h1, ⟨ty0, h2⟩, h3⟩ := hF
  have hap := va_apart (own := own) S.2.2.2.2 h1 ty0 h2 h3 hC.1 hc
  obtain ⟨r, g1, cell, q1, q2, q3, q4⟩ := h
  have hr : r = (C, T, N) := Option.some.inj (g1.symm.trans hc)
  subst hr
  obtain ⟨hSl, hfc, kC, hkC, hkind⟩ := hC.1.1 ci _ hc
  obtain ⟨cf, kf, fi, f, hi, hsl⟩ := hSl k hk
  have hlay := S.2.2.2.2 _ (h1 _ (u_in_lay hk))
  unfold u_lay at hlay
  rw [if_pos hfin] at hlay
  have hst := (u_facts hfc hkC (u_lays S.2.2.2.2 h1 hk) hi).1
  have hcf : m.cls = cf := by
    obtain ⟨_, _, c', _, _, _, -, -, hf', -, -, -, hown2, -⟩ := Cond.laysFinal_spec hlay
    have e1 : c' = cf := by have := hi.symm.trans hf'; simp at this; exact this.1.symm
    rw [hdecl] at hown2
    rw [← e1]; exact Option.some.inj (S.2.2.2.1.symm.trans hown2)
  have h6 := u_fits hfc hkC hkind (Or.inr hlay) hi hd hn hfit
  refine W.putFinK S.1 S.2.1 S.2.2.2.1 (S.2.2.2.2 _ hl) hi hst hcf hin2 (by rw [q2]; exact h6) q1 q3 (by rw [hsl]; exact k2_hasslot (q4 k hk)) rfl rfl hdg fun H' e1 e2 e3 => ?_
  rw [hsl] at e1 ⊢
  exact kk H' _ ⟨_, hc, t_OB.to (V := updV (vp_V fs) k v) ⟨_, e1, q2, q3, t_set q4 hap hk v⟩ (fun j _ => vp_updV_set hlen v j)⟩ e3 e2 (hS.put e2 e3 hAa)
/-- a new object -/
theorem f_new {C : String} {T : u_T} {N ci index : Nat} {fs : List Value} (S : CallFix p m c cc nL s args WALL own) (hC : CX K s) (hF : kF C T N) (ty : Nat → FieldType) (hty : ∀ k, k < N → parseFieldDescriptor (T k).2.2.1 = some (ty k)) (hcl : Cond.classLink own index C ∈ WALL) (hinst : Cond.instantiable C N ∈ WALL) (hini : Cond.initialized C ∈ WALL)
    (hS : va_S A H0 H locs) (hc : classes[ci]? = some (C, T, N)) (hfs : ∀ j, j < N → defaultValue (ty j) = vp_V fs j) (hcells : cells + 1 ≤ R.cells) (hslots : slots + N ≤ R.slots) (hdg : decode cc pc = .ok (.new index, 3))
    (kk : ∀ (q : Nat) (H1 : Heap), q = H.size → va_at K.1 classes (q, .inr (ci, fs)) H1 → (∀ x : Nat, x < H.size → H1[x]? = H[x]?) → H1.size = H.size + 1 → va_S A H0 H1 locs →
      W p l e R s m args below meth c H1 locs (cells + 1) (slots + N) Q (F0 m (pc + 3) ls (.ref q :: rest))) : W p l e R s m args below meth c H locs cells slots Q (F0 m pc ls rest) := by
  have hKn := hC.1.1 ci _ hc
  refine W.newcK S.1 S.2.1 S.2.2.2.1 (S.2.2.2.2 _ hcl) (S.2.2.2.2 _ hinst) (S.2.2.2.2 _ hini) rfl hdg hcells hslots hKn.2.1 rfl fun H1 kC hkC e1 z1 o1 => ?_
  exact kk H.size H1 rfl ⟨_, hc, (u_born ty S.2.2.2.2 hF.1 hKn hkC e1 hty).to hfs⟩ o1 z1 ⟨Nat.le_trans hS.1 (by omega), fun x h1 h2 => (o1 x (Nat.lt_of_lt_of_le h1 hS.1)).trans (hS.2.1 x h1 h2), hS.2.2⟩
/-- a new array of numbers: of the class that the tables name -/
theorem f_newJ {N' : Nat} {n : Int32} (S : CallFix p m c cc nL s args WALL own) (hC : CX K s) (harr : Cond.arrayClass .long ∈ WALL) (hS : va_S A H0 H locs) (hn : ¬ n < 0) (hN : n.toNatClampNeg = N') (hbytes : N' * componentBytes .long ≤ 536870912) (hcells : cells + 1 ≤ R.cells) (hslots : slots + N' ≤ R.slots) (hdg : decode cc pc = .ok (.newarray .long, 2))
    (kk : ∀ (q : Nat) (H1 : Heap), q = H.size → va_at K.1 classes (q, .inl (kJ K, N', .inr (.inl (fun _ => 0)))) H1 → (∀ x : Nat, x < H.size → H1[x]? = H[x]?) → H1.size = H.size + 1 → va_S A H0 H1 locs →
      W p l e R s m args below meth c H1 locs (cells + 1) (slots + N') Q (F0 m (pc + 2) ls (.ref q :: rest))) : W p l e R s m args below meth c H locs cells slots Q (F0 m pc ls (.int n :: rest)) := by
  refine va_newaK S.1 S.2.1 (atype := .long) (S.2.2.2.2 _ harr) rfl hdg rfl hn hN hbytes hcells hslots rfl fun H1 cA e1 z1 o1 hAr hNm => ?_
  have e0 : cA = kJ K := Option.some.inj (hNm.symm.trans (hC.1.2 1 _ rfl).2)
  subst e0
  exact kk H.size H1 rfl e1 o1 z1 ⟨Nat.le_trans hS.1 (by omega), fun x h1 h2 => (o1 x (Nat.lt_of_lt_of_le h1 hS.1)).trans (hS.2.1 x h1 h2), hS.2.2⟩
theorem f_newI {N' : Nat} {n : Int32} (S : CallFix p m c cc nL s args WALL own) (hC : CX K s) (harr : Cond.arrayClass .int ∈ WALL) (hS : va_S A H0 H locs) (hn : ¬ n < 0) (hN : n.toNatClampNeg = N') (hbytes : N' * componentBytes .int ≤ 536870912) (hcells : cells + 1 ≤ R.cells) (hslots : slots + N' ≤ R.slots) (hdg : decode cc pc = .ok (.newarray .int, 2))
    (kk : ∀ (q : Nat) (H1 : Heap), q = H.size → va_at K.1 classes (q, .inl (kI K, N', .inl (fun _ => 0))) H1 → (∀ x : Nat, x < H.size → H1[x]? = H[x]?) → H1.size = H.size + 1 → va_S A H0 H1 locs →
      W p l e R s m args below meth c H1 locs (cells + 1) (slots + N') Q (F0 m (pc + 2) ls (.ref q :: rest))) : W p l e R s m args below meth c H locs cells slots Q (F0 m pc ls (.int n :: rest)) := by
  refine va_newaK S.1 S.2.1 (atype := .int) (S.2.2.2.2 _ harr) rfl hdg rfl hn hN hbytes hcells hslots rfl fun H1 cA e1 z1 o1 hAr hNm => ?_
  have e0 : cA = kI K := Option.some.inj (hNm.symm.trans (hC.1.2 0 _ rfl).2)
  subst e0
  exact kk H.size H1 rfl e1 o1 z1 ⟨Nat.le_trans hS.1 (by omega), fun x h1 h2 => (o1 x (Nat.lt_of_lt_of_le h1 hS.1)).trans (hS.2.1 x h1 h2), hS.2.2⟩
theorem f_newZ {N' : Nat} {n : Int32} (S : CallFix p m c cc nL s args WALL own) (hC : CX K s) (harr : Cond.arrayClass .boolean ∈ WALL) (hS : va_S A H0 H locs) (hn : ¬ n < 0) (hN : n.toNatClampNeg = N') (hbytes : N' * componentBytes .boolean ≤ 536870912) (hcells : cells + 1 ≤ R.cells) (hslots : slots + N' ≤ R.slots) (hdg : decode cc pc = .ok (.newarray .boolean, 2))
    (kk : ∀ (q : Nat) (H1 : Heap), q = H.size → va_at K.1 classes (q, .inl (kZ K, N', .inl (fun _ => 0))) H1 → (∀ x : Nat, x < H.size → H1[x]? = H[x]?) → H1.size = H.size + 1 → va_S A H0 H1 locs →
      W p l e R s m args below meth c H1 locs (cells + 1) (slots + N') Q (F0 m (pc + 2) ls (.ref q :: rest))) : W p l e R s m args below meth c H locs cells slots Q (F0 m pc ls (.int n :: rest)) := by
  refine va_newaK S.1 S.2.1 (atype := .boolean) (S.2.2.2.2 _ harr) rfl hdg rfl hn hN hbytes hcells hslots rfl fun H1 cA e1 z1 o1 hAr hNm => ?_
  have e0 : cA = kZ K := Option.some.inj (hNm.symm.trans (hC.1.2 2 _ rfl).2)
  subst e0
  exact kk H.size H1 rfl e1 o1 z1 ⟨Nat.le_trans hS.1 (by omega), fun x h1 h2 => (o1 x (Nat.lt_of_lt_of_le h1 hS.1)).trans (hS.2.1 x h1 h2), hS.2.2⟩
/-- Formula's field 'decided', of any kind -/
theorem fm_put {ci index : Nat} {fs : List Value} {x : Int32} (S : CallFix p m c cc nL s args WALL own) (hC : CX K s) (hc : ci < 8) (h : va_at K.1 classes (a, .inr (ci, fs)) H) (hAa : A a) (hS : va_S A H0 H locs) (hl : Cond.fieldLink own index "MetricLogMonitor$Formula" "decided" "I" ∈ WALL) (hlen : 3 < fs.length) (hdg : decode cc pc = .ok (.putfield index, 3))
    (kk : ∀ (H1 : Heap) (locs : List Loc), va_at K.1 classes (a, .inr (ci, fs.set 3 (.int x))) H1 → (∀ q : Nat, q ≠ a → H1[q]? = H[q]?) → H1.size = H.size → va_S A H0 H1 locs → W p l e R s m args below meth c H1 locs cells slots Q (F0 m (pc + 3) ls rest)) : W p l e R s m args below meth c H locs cells slots Q (F0 m pc ls (.int x :: .ref a :: rest)) := by
  obtain ⟨C, T, N, h1, h2, h3, h4, -⟩ := fcls hc
  have e3 : T 3 = FF 3 := h4 3 (by decide)
  exact f_put S hC h2 h hAa hS h1 3 (by omega) (by rw [e3]; exact hl) (by rw [e3]; rfl) (ty := .int) (by rw [e3]; decide +kernel) rfl rfl hlen hdg kk
/-- what stays -/
theorem va_at.sty {q : Nat × va_E} {H1 : Heap} {b : Nat} (h : va_at K.1 classes q H) (oq : ∀ x : Nat, x ≠ b → H1[x]? = H[x]?) (hne : q.1 ≠ b) : va_at K.1 classes q H1 := h.kept (oq q.1 hne)
theorem va_at.nw {q : Nat × va_E} {H1 : Heap} (h : va_at K.1 classes q H) (o1 : ∀ x : Nat, x < H.size → H1[x]? = H[x]?) : va_at K.1 classes q H1 := h.kept (o1 q.1 h.lt)
theorem va_at.apt {q : Nat × va_E} {b : Nat} (h : va_at K.1 classes q H) (e : b = H.size) : q.1 ≠ b := fun z => by have := h.lt; omega
/-- ends of methods that write -/
theorem rw_v {post : Heap → Prop} (S : CallFix p m c cc nL s args WALL own) (hr : meth.sig.returnType = none) (hk : meth.locks = false) (hS : va_S A s.heap H locs) (hdg : decode cc pc = .ok (.return_, 1)) (hp : post H) :
    W p l e R s m args below meth c H locs cells slots (MQ below (va_Qv post (fun u t => t.heap = u) A) args s cells slots A) (F0 m pc ls []) := W.vret S.1 S.2.1 hr (fun _ ht _ => ⟨⟨H, rfl, hp, ht⟩, hS.F ht⟩) hS.2.2 hdg hk
theorem rw_i {post : Int32 → Heap → Prop} {v : Int32} (S : CallFix p m c cc nL s args WALL own) (hr : meth.sig.returnType = some .int) (hk : meth.locks = false) (hS : va_S A s.heap H locs) (hdg : decode cc pc = .ok (.ireturn, 1)) (hp : post v H) :
    W p l e R s m args below meth c H locs cells slots (MQ below (va_Qi post (fun u t => t.heap = u) A) args s cells slots A) (F0 m pc ls [.int v]) := W.iret S.1 S.2.1 hr (fun _ ht _ => ⟨⟨v, H, rfl, hp, ht⟩, hS.F ht⟩) hS.2.2 hdg hk
theorem rw_z {post : Int32 → Heap → Prop} {v : Int32} (S : CallFix p m c cc nL s args WALL own) (hr : meth.sig.returnType = some .boolean) (hk : meth.locks = false) (hn : narrow .boolean (.int v) = .int v) (hS : va_S A s.heap H locs) (hdg : decode cc pc = .ok (.ireturn, 1)) (hp : post v H) :
    W p l e R s m args below meth c H locs cells slots (MQ below (va_Qi post (fun u t => t.heap = u) A) args s cells slots A) (F0 m pc ls [.int v]) := W.zret S.1 S.2.1 hr hn (fun _ ht _ => ⟨⟨v, H, rfl, hp, ht⟩, hS.F ht⟩) hS.2.2 hdg hk
theorem rw_l {post : Int64 → Heap → Prop} {v : Int64} (S : CallFix p m c cc nL s args WALL own) (hr : meth.sig.returnType = some .long) (hk : meth.locks = false) (hS : va_S A s.heap H locs) (hdg : decode cc pc = .ok (.lreturn, 1)) (hp : post v H) :
    W p l e R s m args below meth c H locs cells slots (MQ below (va_Ql post (fun u t => t.heap = u) A) args s cells slots A) (F0 m pc ls [.long v]) := W.lret S.1 S.2.1 hr (fun _ ht _ => ⟨⟨v, H, rfl, hp, ht⟩, hS.F ht⟩) hS.2.2 hdg hk
theorem rw_q {post : Option Nat → Heap → Prop} {r : Option Nat} {nt : FieldType} (hnt : (∃ n, nt = .object n) ∨ ∃ t, nt = .array t) (S : CallFix p m c cc nL s args WALL own) (hr : meth.sig.returnType = some nt) (hk : meth.locks = false) (hS : va_S A s.heap H locs) (hdg : decode cc pc = .ok (.areturn, 1)) (hp : post r H) :
    W p l e R s m args below meth c H locs cells slots (MQ below (va_Qq post (fun u t => t.heap = u) A) args s cells slots A) (F0 m pc ls [va_rf r]) := W.aret S.1 S.2.1 hr hnt (va_rf_or r) (fun _ ht _ => ⟨⟨r, H, rfl, hp, ht⟩, hS.F ht⟩) hS.2.2 hdg hk
/-! calls of methods that write -/
variable {mc ms : Nat} {A1 : Nat → Prop} {av : Array Value}
theorem kw_v {post : Heap → Prop} (hrn : va_Run p l e R s m args below meth c H locs cells slots mc ms (F0 m pc ls st) rest (va_Qv post (fun u t => t.heap = u) A1 av) A1) (hS : va_S A H0 H locs) (hA1 : ∀ q, A1 q → A q)
    (kk : ∀ (H1 : Heap) (locs : List Loc), post H1 → H.size ≤ H1.size → (∀ q : Nat, q < H.size → ¬ A1 q → H1[q]? = H[q]?) → va_S A H0 H1 locs → W p l e R s m args below meth c H1 locs (cells + mc) (slots + ms) Q (F0 m (pc + 3) ls rest)) : W p l e R s m args below meth c H locs cells slots Q (F0 m pc ls st) :=
  va_callv hrn hS (fun q _ h => hA1 q h) hA1 (fun u t H1 locs1 ht _ hw hB hz hk hS1 => kk H1 locs1 (by have e1 : u = H1 := hB.symm.trans ht; rw [← e1]; exact hw) hz hk hS1)
theorem kw_i {post : Int32 → Heap → Prop} (hrn : va_Run p l e R s m args below meth c H locs cells slots mc ms (F0 m pc ls st) rest (va_Qi post (fun u t => t.heap = u) A1 av) A1) (hS : va_S A H0 H locs) (hA1 : ∀ q, A1 q → A q)
    (kk : ∀ (r : Int32) (H1 : Heap) (locs : List Loc), post r H1 → H.size ≤ H1.size → (∀ q : Nat, q < H.size → ¬ A1 q → H1[q]? = H[q]?) → va_S A H0 H1 locs → W p l e R s m args below meth c H1 locs (cells + mc) (slots + ms) Q (F0 m (pc + 3) ls (.int r :: rest))) : W p l e R s m args below meth c H locs cells slots Q (F0 m pc ls st) :=
  va_calli hrn hS (fun q _ h => hA1 q h) hA1 (fun r u t H1 locs1 ht _ hw hB hz hk hS1 => kk r H1 locs1 (by have e1 : u = H1 := hB.symm.trans ht; rw [← e1]; exact hw) hz hk hS1)
theorem kw_l {post : Int64 → Heap → Prop} (hrn : va_Run p l e R s m args below meth c H locs cells slots mc ms (F0 m pc ls st) rest (va_Ql post (fun u t => t.heap = u) A1 av) A1) (hS : va_S A H0 H locs) (hA1 : ∀ q, A1 q → A q)
    (kk : ∀ (r : Int64) (H1 : Heap) (locs : List Loc), post r H1 → H.size ≤ H1.size → (∀ q : Nat, q < H.size → ¬ A1 q → H1[q]? = H[q]?) → va_S A H0 H1 locs → W p l e R s m args below meth c H1 locs (cells + mc) (slots + ms) Q (F0 m (pc + 3) ls (.long r :: rest))) : W p l e R s m args below meth c H locs cells slots Q (F0 m pc ls st) :=
  va_calll hrn hS (fun q _ h => hA1 q h) hA1 (fun r u t H1 locs1 ht _ hw hB hz hk hS1 => kk r H1 locs1 (by have e1 : u = H1 := hB.symm.trans ht; rw [← e1]; exact hw) hz hk hS1)
theorem kw_q {post : Option Nat → Heap → Prop} (hrn : va_Run p l e R s m args below meth c H locs cells slots mc ms (F0 m pc ls st) rest (va_Qq post (fun u t => t.heap = u) A1 av) A1) (hS : va_S A H0 H locs) (hA1 : ∀ q, A1 q → A q)
    (kk : ∀ (r : Option Nat) (H1 : Heap) (locs : List Loc), post r H1 → H.size ≤ H1.size → (∀ q : Nat, q < H.size → ¬ A1 q → H1[q]? = H[q]?) → va_S A H0 H1 locs → W p l e R s m args below meth c H1 locs (cells + mc) (slots + ms) Q (F0 m (pc + 3) ls (va_rf r :: rest))) : W p l e R s m args below meth c H locs cells slots Q (F0 m pc ls st) :=
  va_callq hrn hS (fun q _ h => hA1 q h) hA1 (fun r u t H1 locs1 ht _ hw hB hz hk hS1 => kk r H1 locs1 (by have e1 : u = H1 := hB.symm.trans ht; rw [← e1]; exact hw) hz hk hS1)
theorem va_at.cl {q : Nat × va_E} {H1 : Heap} (h : va_at K.1 classes q H) (hk : ∀ x : Nat, x < H.size → ¬ A1 x → H1[x]? = H[x]?) (hn : ¬ A1 q.1) : va_at K.1 classes q H1 := h.kept (hk q.1 h.lt hn)
end
