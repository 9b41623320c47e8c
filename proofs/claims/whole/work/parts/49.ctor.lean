/-! constructors: formulas of each kind, the log, the list, the monitor -/
theorem fz {x : Int32} (h : x = 0 ∨ x = 1) : fits .boolean (.int x) = true := by
  rcases h with rfl | rfl <;> rfl
section
variable {p : Program} {l : Launch} {e : Env} {R : Room} {s : State} {m : MethodId} {args : Array Value} {below : List Frame} {meth : Method} {c : Code} {H : Heap} {locs : List Loc} {cells slots : Nat} {Q : State → Prop}
variable {cc : ByteArray} {pc nL : Nat} {ls : Array Slot} {st rest : List Value} {K : KT} {own : String} {A : Nat → Prop} {a : Nat} {H0 : Heap}
theorem fm_putF {ci index k : Nat} {fs : List Value} {ty : FieldType} {v : Value} (S : CallFix p m c cc nL s args WALL "MetricLogMonitor$Formula") (hC : CX K s) (hc : ci < 8) (k : Nat) (hk : k < 5) (hff : (FF k).2.2.2 = true ∧ (FF k).1 = "MetricLogMonitor$Formula") (h : va_at K.1 classes (a, .inr (ci, fs)) H) (hAa : A a) (hS : va_S A H0 H locs) (hl : Cond.fieldLink "MetricLogMonitor$Formula" index (FF k).1 (FF k).2.1 (FF k).2.2.1 ∈ WALL) (hnm : meth.name = "<init>") (hd : parseFieldDescriptor (FF k).2.2.1 = some ty) (hn : narrow ty v = v) (hfit : fits ty v = true) (hlen : k < fs.length) (hdg : decode cc pc = .ok (.putfield index, 3))
    (kk : ∀ (H1 : Heap) (locs : List Loc), va_at K.1 classes (a, .inr (ci, fs.set k v)) H1 → (∀ q : Nat, q ≠ a → H1[q]? = H[q]?) → H1.size = H.size → va_S A H0 H1 locs → W p l e R s m args below meth c H1 locs cells slots Q (F0 m (pc + 3) ls rest)) : W p l e R s m args below meth c H locs cells slots Q (F0 m pc ls (v :: .ref a :: rest)) := by
  obtain ⟨C, T, N, h1, h2, h3, h4, -⟩ := fcls hc
  have e3 : T k = FF k := h4 k hk
  exact f_putF S hC h2 h hAa hS h1 k (by omega) (by rw [e3]; exact hl) (by rw [e3]; exact hff.1) hnm (by rw [e3]; exact hff.2) (ty := ty) (by rw [e3]; exact hd) hn hfit hlen hdg kk
/-- a nest mate's constructor -/
theorem k_IN {y : MethodName} {bytes : ByteArray} {maxL n index : Nat} {rm : Room} {As : List Value} {Hp : Heap → Prop} {Qc : Array Value → State → Outcome → State → Prop} {free : Addr → Prop} {mc ms : Nat} {host : String} {b : Nat} (S : CallFix p m c cc nL s args WALL own) (hM : Met l y (Cond.code y bytes maxL none :: WALL) rm (pc0 K (.ref b :: As) Hp) Qc mc ms free) (cy : kC y bytes maxL none n) (hl : Cond.methodLinkNest own index y host ∈ NALL ∧ Cond.instanceMethod y ∈ WALL) (hy : y.name = "<init>") (hrc : rm.cells = mc) (hrs : rm.slots = ms) (hR : rm.frames + 1 ≤ R.frames ∧ 8 + (maxL + 11) + rm.locals ≤ R.locals)
    (hC : CX K s) (hS : va_S A s.heap H locs) (hA : ∀ q, A q → kz K ≤ q) (hH : Hp H) (hn : As.length = n) (hsz : ls.size = nL) (hst : st = As.reverse ++ .ref b :: rest) (hcat : (rest.map fun v => v.category).sum ≤ 8) (hf : cells + mc ≤ R.cells ∧ slots + ms ≤ R.slots) (hdg : decode cc pc = .ok (.invokespecial index, 3)) :
    va_Run p l e R s m args below meth c H locs cells slots mc ms (F0 m pc ls st) rest (Qc (Value.ref b :: As).toArray) free :=
  va_runIN S hM ⟨k_callN S hC cy hl.1 hrc hrs hR, hy, S.2.2.2.2 _ hl.2⟩ (k_pre hC hS hA hH) rfl hn hsz hst (lv_room hcat) hdg hf
end
set_option maxHeartbeats 4000000 in
set_option maxRecDepth 100000 in
theorem c_Form_init (l : Launch) {K : KT} {b ci sz : Nat} {xs : List Value} (hc : ci < 8) (x y z : Int32) (hz01 : z = 0 ∨ z = 1) (hzb : kz K ≤ b) : Met l y_Form_init (Cond.code y_Form_init b_Form_init 4 none :: WALL) { frames := 1, cells := 1, slots := 24, locals := 12 } (pc0 K [.ref b, .int x, .int y, .int z] (fun H => H.size = sz ∧ va_at K.1 classes (b, .inr (ci, .int 0 :: .int 0 :: .int 0 :: .int 0 :: .null :: xs)) H)) (va_Qv (fun H => H.size = sz + 1 ∧ va_at K.1 classes (b, .inr (ci, .int x :: .int y :: .int z :: .int 0 :: .ref sz :: xs)) H ∧ va_at K.1 classes (sz, .inl (kJ K, 24, .inr (.inl (fun _ => 0)))) H) (fun u t => t.heap = u) (fun q => q = b ∨ sz ≤ q)) 1 24 (fun q => q = b ∨ sz ≤ q) := by
  refine met0 (own := "MetricLogMonitor$Formula") (by decide) rfl (Nat.le_of_ble_eq_true rfl) (fun p e s m below meth c ls S hr hk hnm hC hH hl => ?_)
  obtain ⟨hsz, hb⟩ := hH
  have hl : lv_has ls 4 [(0, .ref b), (1, .int x), (2, .int y), (3, .int z)] := hl
  have hS : va_S (fun q => q = b ∨ sz ≤ q) s.heap s.heap [] := va_S.rf
  refine lv_aload_n S.1 S.2.1 d_Form_init_0 rfl (lv_at hl 0 rfl) ?_
  refine W.objInit S.1 S.2.1 S.2.2.2.1 (S.2.2.2.2 _ q_132) (S.2.2.2.2 _ q_29) (S.2.2.2.2 _ q_30) rfl (by rw [S.2.2.1]; exact hl.1) rfl d_Form_init_1 (Nat.le_of_ble_eq_true rfl) (Nat.le_of_ble_eq_true rfl) ?_
  refine W.eq (g2 := F0 m 4 ls []) rfl ?_
  refine lv_aload_n S.1 S.2.1 d_Form_init_4 rfl (lv_at hl 0 rfl) ?_
  refine lv_bipush (v := 24) S.1 S.2.1 d_Form_init_5 (by decide) ?_
  refine f_newJ (A := fun q => q = b ∨ sz ≤ q) (N' := 24) S hC q_83 hS (by decide) (by decide) (by decide) (Nat.le_of_ble_eq_true rfl) (Nat.le_of_ble_eq_true rfl) d_Form_init_7 (fun q H hq0 hsa o1 hz hS => ?_)
  have hq : q = sz := hq0.trans hsz
  clear hq0
  subst q
  have hbs : b ≠ sz := hb.apt hsz.symm
  have hb := hb.nw o1
  have hsz : H.size = sz + 1 := by omega
  refine fm_putF (k := 4) (A := fun q => q = b ∨ sz ≤ q) (ty := (.array .long)) (v := .ref sz) S hC hc 4 (by decide) (by decide) hb (Or.inl rfl) hS q_166 hnm (by decide +kernel) rfl rfl (by simp) d_Form_init_9 (fun H locs hb oq hz hS => ?_)
  have hb : va_at K.1 classes (b, .inr (ci, .int 0 :: .int 0 :: .int 0 :: .int 0 :: .ref sz :: xs)) H := hb
  have hsa := hsa.sty oq hbs.symm
  have hsz := hz.trans hsz
  refine lv_aload_n S.1 S.2.1 d_Form_init_12 rfl (lv_at hl 0 rfl) ?_
  refine lv_iload_n S.1 S.2.1 d_Form_init_13 rfl (lv_at hl 1 rfl) ?_
  refine fm_putF (k := 0) (A := fun q => q = b ∨ sz ≤ q) (ty := .int) (v := .int x) S hC hc 0 (by decide) (by decide) hb (Or.inl rfl) hS q_142 hnm (by decide +kernel) rfl rfl (by simp) d_Form_init_14 (fun H locs hb oq hz hS => ?_)
  have hb : va_at K.1 classes (b, .inr (ci, .int x :: .int 0 :: .int 0 :: .int 0 :: .ref sz :: xs)) H := hb
  have hsa := hsa.sty oq hbs.symm
  have hsz := hz.trans hsz
  refine lv_aload_n S.1 S.2.1 d_Form_init_17 rfl (lv_at hl 0 rfl) ?_
  refine lv_iload_n S.1 S.2.1 d_Form_init_18 rfl (lv_at hl 2 rfl) ?_
  refine fm_putF (k := 1) (A := fun q => q = b ∨ sz ≤ q) (ty := .int) (v := .int y) S hC hc 1 (by decide) (by decide) hb (Or.inl rfl) hS q_148 hnm (by decide +kernel) rfl rfl (by simp) d_Form_init_19 (fun H locs hb oq hz hS => ?_)
  have hb : va_at K.1 classes (b, .inr (ci, .int x :: .int y :: .int 0 :: .int 0 :: .ref sz :: xs)) H := hb
  have hsa := hsa.sty oq hbs.symm
  have hsz := hz.trans hsz
  refine lv_aload_n S.1 S.2.1 d_Form_init_22 rfl (lv_at hl 0 rfl) ?_
  refine lv_iload_n S.1 S.2.1 d_Form_init_23 rfl (lv_at hl 3 rfl) ?_
  refine fm_putF (k := 2) (A := fun q => q = b ∨ sz ≤ q) (ty := .boolean) (v := .int z) S hC hc 2 (by decide) (by decide) hb (Or.inl rfl) hS q_156 hnm (by decide +kernel) (nz hz01) (fz hz01) (by simp) d_Form_init_24 (fun H locs hb oq hz hS => ?_)
  have hb : va_at K.1 classes (b, .inr (ci, .int x :: .int y :: .int z :: .int 0 :: .ref sz :: xs)) H := hb
  have hsa := hsa.sty oq hbs.symm
  have hsz := hz.trans hsz
  exact rw_v S hr hk hS d_Form_init_27 ⟨hsz, hb, hsa⟩
set_option maxHeartbeats 4000000 in
set_option maxRecDepth 100000 in
theorem c_Atom_init (l : Launch) {K : KT} {b sz : Nat}  (hzb : kz K ≤ b) (r ta tb2 : Int32) : Met l y_Atom_init (Cond.code y_Atom_init b_Atom_init 4 none :: WALL) { frames := 2, cells := 1, slots := 24, locals := 42 } (pc0 K [.ref b, .int r, .int ta, .int tb2] (fun H => H.size = sz ∧ va_at K.1 classes (b, .inr (0, [.int 0, .int 0, .int 0, .int 0, .null, .int 0, .int 0, .int 0])) H)) (va_Qv (fun H => H.size = sz + 1 ∧ va_at K.1 classes (b, .inr (0, [.int (f_M_variablesAmong ta tb2), .int (f_M_variablesAmong ta tb2), .int 1, .int 0, .ref sz, .int r, .int ta, .int tb2])) H ∧ va_at K.1 classes (sz, .inl (kJ K, 24, .inr (.inl (fun _ => 0)))) H) (fun u t => t.heap = u) (fun q => q = b ∨ sz ≤ q)) 1 24 (fun q => q = b ∨ sz ≤ q) := by
  refine met0 (own := "MetricLogMonitor$Atom") (by decide) rfl (Nat.le_of_ble_eq_true rfl) (fun p e s m below meth c ls S hr hk hnm hC hH hl => ?_)
  obtain ⟨hsz, hb⟩ := hH
  have hl : lv_has ls 4 [(0, .ref b), (1, .int r), (2, .int ta), (3, .int tb2)] := hl
  have hS : va_S (fun q => q = b ∨ sz ≤ q) s.heap s.heap [] := va_S.rf
  have hA : ∀ q, (fun q => q = b ∨ sz ≤ q) q → kz K ≤ q := fun q h => h.elim (fun z => by rw [z]; exact hzb) (fun z => by have := hC.2.2.2.2.2.2.1; omega)
  have hbs : b ≠ sz := hb.apt hsz.symm
  refine lv_aload_n S.1 S.2.1 d_Atom_init_0 rfl (lv_at hl 0 rfl) ?_
  refine lv_iload_n S.1 S.2.1 d_Atom_init_1 rfl (lv_at hl 2 rfl) ?_
  refine lv_iload_n S.1 S.2.1 d_Atom_init_2 rfl (lv_at hl 3 rfl) ?_
  refine kNi (rest := [.ref b]) S (c_M_variablesAmong l ta tb2) kc_M_variablesAmong ⟨qn_123, q_124⟩ rfl rfl ⟨Nat.le_of_ble_eq_true rfl, Nat.le_of_ble_eq_true rfl⟩ hC hS hA trivial ⟨Nat.zero_le _, Nat.zero_le _⟩ hl.1 rfl rfl (Nat.le_of_ble_eq_true rfl) d_Atom_init_3 (fun r er => ?_)
  subst er
  refine lv_iload_n S.1 S.2.1 d_Atom_init_6 rfl (lv_at hl 2 rfl) ?_
  refine lv_iload_n S.1 S.2.1 d_Atom_init_7 rfl (lv_at hl 3 rfl) ?_
  refine kNi (rest := [.int (f_M_variablesAmong ta tb2), .ref b]) S (c_M_variablesAmong l ta tb2) kc_M_variablesAmong ⟨qn_123, q_124⟩ rfl rfl ⟨Nat.le_of_ble_eq_true rfl, Nat.le_of_ble_eq_true rfl⟩ hC hS hA trivial ⟨Nat.zero_le _, Nat.zero_le _⟩ hl.1 rfl rfl (Nat.le_of_ble_eq_true rfl) d_Atom_init_8 (fun r er => ?_)
  subst er
  refine lv_iconst (v := 1) S.1 S.2.1 d_Atom_init_11 (by decide) ?_
  refine kw_v (A := fun q => q = b ∨ sz ≤ q) (k_I (rest := []) S (c_Form_init (ci := 0) (sz := sz) l (by decide) (f_M_variablesAmong ta tb2) (f_M_variablesAmong ta tb2) 1 (Or.inr rfl) hzb) kc_Form_init ⟨q_129, q_130⟩ rfl rfl rfl ⟨Nat.le_of_ble_eq_true rfl, Nat.le_of_ble_eq_true rfl⟩ hC hS hA ⟨hsz, hb⟩ rfl hl.1 rfl (Nat.le_of_ble_eq_true rfl) ⟨(Nat.le_of_ble_eq_true rfl), (Nat.le_of_ble_eq_true rfl)⟩ d_Atom_init_12) hS (fun q h => h) (fun H locs er hz hkp hS => ?_)
  obtain ⟨hsz, hb, hsa⟩ := er
  have hb : va_at K.1 classes (b, .inr (0, [.int (f_M_variablesAmong ta tb2), .int (f_M_variablesAmong ta tb2), .int 1, .int 0, .ref sz, .int 0, .int 0, .int 0])) H := hb
  refine lv_aload_n S.1 S.2.1 d_Atom_init_15 rfl (lv_at hl 0 rfl) ?_
  refine lv_iload_n S.1 S.2.1 d_Atom_init_16 rfl (lv_at hl 1 rfl) ?_
  refine f_putF (A := fun q => q = b ∨ sz ≤ q) (ty := .int) (v := .int r) S hC kf_Atom hb (Or.inl rfl) hS rfl 5 (by decide) q_133 rfl hnm rfl (by decide +kernel) rfl rfl (Nat.le_of_ble_eq_true rfl) d_Atom_init_17 (fun H locs hb oq hz hS => ?_)
  have hb : va_at K.1 classes (b, .inr (0, [.int (f_M_variablesAmong ta tb2), .int (f_M_variablesAmong ta tb2), .int 1, .int 0, .ref sz, .int r, .int 0, .int 0])) H := hb
  have hsa := hsa.sty oq (fun z => hbs z.symm)
  have hsz := hz.trans hsz
  refine lv_aload_n S.1 S.2.1 d_Atom_init_20 rfl (lv_at hl 0 rfl) ?_
  refine lv_iload_n S.1 S.2.1 d_Atom_init_21 rfl (lv_at hl 2 rfl) ?_
  refine f_putF (A := fun q => q = b ∨ sz ≤ q) (ty := .int) (v := .int ta) S hC kf_Atom hb (Or.inl rfl) hS rfl 6 (by decide) q_134 rfl hnm rfl (by decide +kernel) rfl rfl (Nat.le_of_ble_eq_true rfl) d_Atom_init_22 (fun H locs hb oq hz hS => ?_)
  have hb : va_at K.1 classes (b, .inr (0, [.int (f_M_variablesAmong ta tb2), .int (f_M_variablesAmong ta tb2), .int 1, .int 0, .ref sz, .int r, .int ta, .int 0])) H := hb
  have hsa := hsa.sty oq (fun z => hbs z.symm)
  have hsz := hz.trans hsz
  refine lv_aload_n S.1 S.2.1 d_Atom_init_25 rfl (lv_at hl 0 rfl) ?_
  refine lv_iload_n S.1 S.2.1 d_Atom_init_26 rfl (lv_at hl 3 rfl) ?_
  refine f_putF (A := fun q => q = b ∨ sz ≤ q) (ty := .int) (v := .int tb2) S hC kf_Atom hb (Or.inl rfl) hS rfl 7 (by decide) q_135 rfl hnm rfl (by decide +kernel) rfl rfl (Nat.le_of_ble_eq_true rfl) d_Atom_init_27 (fun H locs hb oq hz hS => ?_)
  have hb : va_at K.1 classes (b, .inr (0, [.int (f_M_variablesAmong ta tb2), .int (f_M_variablesAmong ta tb2), .int 1, .int 0, .ref sz, .int r, .int ta, .int tb2])) H := hb
  have hsa := hsa.sty oq (fun z => hbs z.symm)
  have hsz := hz.trans hsz
  exact rw_v S hr hk hS d_Atom_init_30 ⟨hsz, hb, hsa⟩
set_option maxHeartbeats 4000000 in
set_option maxRecDepth 100000 in
theorem c_Comp_init (l : Launch) {K : KT} {b sz : Nat}  (hzb : kz K ≤ b) (less ta tb2 : Int32) (hless : less = 0 ∨ less = 1) : Met l y_Comp_init (Cond.code y_Comp_init b_Comp_init 4 none :: WALL) { frames := 3, cells := 1, slots := 24, locals := 64 } (pc0 K [.ref b, .int less, .int ta, .int tb2] (fun H => H.size = sz ∧ va_at K.1 classes (b, .inr (1, [.int 0, .int 0, .int 0, .int 0, .null, .int 0, .int 0, .int 0])) H)) (va_Qv (fun H => H.size = sz + 1 ∧ va_at K.1 classes (b, .inr (1, [.int (f_M_variablesAmong ta tb2), .int (f_Comp_rangedBy less ta tb2), .int 1, .int 0, .ref sz, .int less, .int ta, .int tb2])) H ∧ va_at K.1 classes (sz, .inl (kJ K, 24, .inr (.inl (fun _ => 0)))) H) (fun u t => t.heap = u) (fun q => q = b ∨ sz ≤ q)) 1 24 (fun q => q = b ∨ sz ≤ q) := by
  refine met0 (own := "MetricLogMonitor$Comparison") (by decide) rfl (Nat.le_of_ble_eq_true rfl) (fun p e s m below meth c ls S hr hk hnm hC hH hl => ?_)
  obtain ⟨hsz, hb⟩ := hH
  have hl : lv_has ls 4 [(0, .ref b), (1, .int less), (2, .int ta), (3, .int tb2)] := hl
  have hS : va_S (fun q => q = b ∨ sz ≤ q) s.heap s.heap [] := va_S.rf
  have hA : ∀ q, (fun q => q = b ∨ sz ≤ q) q → kz K ≤ q := fun q h => h.elim (fun z => by rw [z]; exact hzb) (fun z => by have := hC.2.2.2.2.2.2.1; omega)
  have hbs : b ≠ sz := hb.apt hsz.symm
  refine lv_aload_n S.1 S.2.1 d_Comp_init_0 rfl (lv_at hl 0 rfl) ?_
  refine lv_iload_n S.1 S.2.1 d_Comp_init_1 rfl (lv_at hl 2 rfl) ?_
  refine lv_iload_n S.1 S.2.1 d_Comp_init_2 rfl (lv_at hl 3 rfl) ?_
  refine kNi (rest := [.ref b]) S (c_M_variablesAmong l ta tb2) kc_M_variablesAmong ⟨qn_256, q_124⟩ rfl rfl ⟨Nat.le_of_ble_eq_true rfl, Nat.le_of_ble_eq_true rfl⟩ hC hS hA trivial ⟨Nat.zero_le _, Nat.zero_le _⟩ hl.1 rfl rfl (Nat.le_of_ble_eq_true rfl) d_Comp_init_3 (fun r er => ?_)
  subst er
  refine lv_iload_n S.1 S.2.1 d_Comp_init_6 rfl (lv_at hl 1 rfl) ?_
  refine lv_iload_n S.1 S.2.1 d_Comp_init_7 rfl (lv_at hl 2 rfl) ?_
  refine lv_iload_n S.1 S.2.1 d_Comp_init_8 rfl (lv_at hl 3 rfl) ?_
  refine kSi (rest := [.int (f_M_variablesAmong ta tb2), .ref b]) S (c_Comp_rangedBy l less ta tb2) kc_Comp_rangedBy ⟨q_257, q_258⟩ rfl rfl ⟨Nat.le_of_ble_eq_true rfl, Nat.le_of_ble_eq_true rfl⟩ hC hS hA trivial ⟨Nat.zero_le _, Nat.zero_le _⟩ hl.1 rfl rfl (Nat.le_of_ble_eq_true rfl) d_Comp_init_9 (fun r er => ?_)
  subst er
  refine lv_iconst (v := 1) S.1 S.2.1 d_Comp_init_12 (by decide) ?_
  refine kw_v (A := fun q => q = b ∨ sz ≤ q) (k_I (rest := []) S (c_Form_init (ci := 1) (sz := sz) l (by decide) (f_M_variablesAmong ta tb2) (f_Comp_rangedBy less ta tb2) 1 (Or.inr rfl) hzb) kc_Form_init ⟨q_261, q_130⟩ rfl rfl rfl ⟨Nat.le_of_ble_eq_true rfl, Nat.le_of_ble_eq_true rfl⟩ hC hS hA ⟨hsz, hb⟩ rfl hl.1 rfl (Nat.le_of_ble_eq_true rfl) ⟨(Nat.le_of_ble_eq_true rfl), (Nat.le_of_ble_eq_true rfl)⟩ d_Comp_init_13) hS (fun q h => h) (fun H locs er hz hkp hS => ?_)
  obtain ⟨hsz, hb, hsa⟩ := er
  have hb : va_at K.1 classes (b, .inr (1, [.int (f_M_variablesAmong ta tb2), .int (f_Comp_rangedBy less ta tb2), .int 1, .int 0, .ref sz, .int 0, .int 0, .int 0])) H := hb
  refine lv_aload_n S.1 S.2.1 d_Comp_init_16 rfl (lv_at hl 0 rfl) ?_
  refine lv_iload_n S.1 S.2.1 d_Comp_init_17 rfl (lv_at hl 1 rfl) ?_
  refine f_putF (A := fun q => q = b ∨ sz ≤ q) (ty := .boolean) (v := .int less) S hC kf_Comp hb (Or.inl rfl) hS rfl 5 (by decide) q_262 rfl hnm rfl (by decide +kernel) (nz hless) (fz hless) (Nat.le_of_ble_eq_true rfl) d_Comp_init_18 (fun H locs hb oq hz hS => ?_)
  have hb : va_at K.1 classes (b, .inr (1, [.int (f_M_variablesAmong ta tb2), .int (f_Comp_rangedBy less ta tb2), .int 1, .int 0, .ref sz, .int less, .int 0, .int 0])) H := hb
  have hsa := hsa.sty oq (fun z => hbs z.symm)
  have hsz := hz.trans hsz
  refine lv_aload_n S.1 S.2.1 d_Comp_init_21 rfl (lv_at hl 0 rfl) ?_
  refine lv_iload_n S.1 S.2.1 d_Comp_init_22 rfl (lv_at hl 2 rfl) ?_
  refine f_putF (A := fun q => q = b ∨ sz ≤ q) (ty := .int) (v := .int ta) S hC kf_Comp hb (Or.inl rfl) hS rfl 6 (by decide) q_263 rfl hnm rfl (by decide +kernel) rfl rfl (Nat.le_of_ble_eq_true rfl) d_Comp_init_23 (fun H locs hb oq hz hS => ?_)
  have hb : va_at K.1 classes (b, .inr (1, [.int (f_M_variablesAmong ta tb2), .int (f_Comp_rangedBy less ta tb2), .int 1, .int 0, .ref sz, .int less, .int ta, .int 0])) H := hb
  have hsa := hsa.sty oq (fun z => hbs z.symm)
  have hsz := hz.trans hsz
  refine lv_aload_n S.1 S.2.1 d_Comp_init_26 rfl (lv_at hl 0 rfl) ?_
  refine lv_iload_n S.1 S.2.1 d_Comp_init_27 rfl (lv_at hl 3 rfl) ?_
  refine f_putF (A := fun q => q = b ∨ sz ≤ q) (ty := .int) (v := .int tb2) S hC kf_Comp hb (Or.inl rfl) hS rfl 7 (by decide) q_264 rfl hnm rfl (by decide +kernel) rfl rfl (Nat.le_of_ble_eq_true rfl) d_Comp_init_28 (fun H locs hb oq hz hS => ?_)
  have hb : va_at K.1 classes (b, .inr (1, [.int (f_M_variablesAmong ta tb2), .int (f_Comp_rangedBy less ta tb2), .int 1, .int 0, .ref sz, .int less, .int ta, .int tb2])) H := hb
  have hsa := hsa.sty oq (fun z => hbs z.symm)
  have hsz := hz.trans hsz
  exact rw_v S hr hk hS d_Comp_init_31 ⟨hsz, hb, hsa⟩
def f_Join_rangedBy (both : Int32) (g21 : Int32) (g22 : Int32) : Int32 := (if both = 0 then (g21 &&& g22) else (g21 ||| g22))
set_option maxHeartbeats 4000000 in
set_option maxRecDepth 100000 in
theorem c_Join_rangedBy (l : Launch) {K : KT} {a1 c1 sa1 : Nat} {g11 g21 g31 g41 : Int32} {xs1 : List Value} {a2 c2 sa2 : Nat} {g12 g22 g32 g42 : Int32} {xs2 : List Value} (hc1 : c1 < 8) (hc2 : c2 < 8) (both : Int32) : Met l y_Join_rangedBy (Cond.code y_Join_rangedBy b_Join_rangedBy 3 (some Jvm.ClassFile.FieldType.int) :: WALL) { frames := 0, cells := 0, slots := 0, locals := 0 } (pc0 K [.int both, .ref a1, .ref a2] (fun H => va_at K.1 classes (a1, .inr (c1, .int g11 :: .int g21 :: .int g31 :: .int g41 :: .ref sa1 :: xs1)) H ∧ va_at K.1 classes (a2, .inr (c2, .int g12 :: .int g22 :: .int g32 :: .int g42 :: .ref sa2 :: xs2)) H)) (vp_Si (fun r => r = f_Join_rangedBy both g21 g22)) 0 0 (fun _ => False) := by
  refine met0 (own := "MetricLogMonitor$Join") (by decide) rfl (Nat.le_of_ble_eq_true rfl) (fun p e s m below meth c ls S hr hk hnm hC hH hl => ?_)
  obtain ⟨hp1, hp2⟩ := hH
  have hl : lv_has ls 3 [(0, .int both), (1, .ref a1), (2, .ref a2)] := hl
  refine lv_iload_n S.1 S.2.1 d_Join_rangedBy_0 rfl (lv_at hl 0 rfl) ?_
  refine lv_if_eq (tgt := 16) S.1 S.2.1 d_Join_rangedBy_1 (by decide) (fun hbr1 => ?_) (fun hbr1 => ?_)
  · refine lv_aload_n S.1 S.2.1 d_Join_rangedBy_16 rfl (lv_at hl 1 rfl) ?_
    refine fm_get (v := .int g21) S hC hc1 1 (by decide) hp1 q_149  rfl d_Join_rangedBy_17 ?_
    refine lv_aload_n S.1 S.2.1 d_Join_rangedBy_20 rfl (lv_at hl 2 rfl) ?_
    refine fm_get (v := .int g22) S hC hc2 1 (by decide) hp2 q_149  rfl d_Join_rangedBy_21 ?_
    refine lv_iand S.1 S.2.1 d_Join_rangedBy_24 ?_
    exact r_i S hr hk d_Join_rangedBy_25 (by unfold f_Join_rangedBy; simp only [if_pos hbr1])
  · refine lv_aload_n S.1 S.2.1 d_Join_rangedBy_4 rfl (lv_at hl 1 rfl) ?_
    refine fm_get (v := .int g21) S hC hc1 1 (by decide) hp1 q_149  rfl d_Join_rangedBy_5 ?_
    refine lv_aload_n S.1 S.2.1 d_Join_rangedBy_8 rfl (lv_at hl 2 rfl) ?_
    refine fm_get (v := .int g22) S hC hc2 1 (by decide) hp2 q_149  rfl d_Join_rangedBy_9 ?_
    refine lv_ior S.1 S.2.1 d_Join_rangedBy_12 ?_
    refine lv_goto (tgt := 25) S.1 S.2.1 d_Join_rangedBy_13 (by decide) ?_
    exact r_i S hr hk d_Join_rangedBy_25 (by unfold f_Join_rangedBy; simp only [if_neg hbr1])
set_option maxHeartbeats 4000000 in
set_option maxRecDepth 100000 in
theorem c_Not_init (l : Launch) {K : KT} {b sz : Nat}  {a1 c1 sa1 : Nat} {g11 g21 g31 g41 : Int32} {xs1 : List Value} (hzb : kz K ≤ b)  (hc1 : c1 < 8) (hnb1 : a1 ≠ b) (h31 : g31 = 0 ∨ g31 = 1) : Met l y_Not_init (Cond.code y_Not_init b_Not_init 2 none :: WALL) { frames := 2, cells := 1, slots := 24, locals := 35 } (pc0 K [.ref b, .ref a1] (fun H => H.size = sz ∧ va_at K.1 classes (b, .inr (2, [.int 0, .int 0, .int 0, .int 0, .null, .null])) H ∧ va_at K.1 classes (a1, .inr (c1, .int g11 :: .int g21 :: .int g31 :: .int g41 :: .ref sa1 :: xs1)) H)) (va_Qv (fun H => H.size = sz + 1 ∧ va_at K.1 classes (b, .inr (2, [.int g11, .int 0, .int g31, .int 0, .ref sz, .ref a1])) H ∧ va_at K.1 classes (sz, .inl (kJ K, 24, .inr (.inl (fun _ => 0)))) H) (fun u t => t.heap = u) (fun q => q = b ∨ sz ≤ q)) 1 24 (fun q => q = b ∨ sz ≤ q) := by
  refine met0 (own := "MetricLogMonitor$Not") (by decide) rfl (Nat.le_of_ble_eq_true rfl) (fun p e s m below meth c ls S hr hk hnm hC hH hl => ?_)
  obtain ⟨hsz, hb, hp1⟩ := hH
  have hl : lv_has ls 2 [(0, .ref b), (1, .ref a1)] := hl
  have hS : va_S (fun q => q = b ∨ sz ≤ q) s.heap s.heap [] := va_S.rf
  have hA : ∀ q, (fun q => q = b ∨ sz ≤ q) q → kz K ≤ q := fun q h => h.elim (fun z => by rw [z]; exact hzb) (fun z => by have := hC.2.2.2.2.2.2.1; omega)
  have hbs : b ≠ sz := hb.apt hsz.symm
  refine lv_aload_n S.1 S.2.1 d_Not_init_0 rfl (lv_at hl 0 rfl) ?_
  refine lv_aload_n S.1 S.2.1 d_Not_init_1 rfl (lv_at hl 1 rfl) ?_
  refine fm_get (v := .int g11) S hC hc1 0 (by decide) hp1 q_136  rfl d_Not_init_2 ?_
  refine lv_iconst (v := 0) S.1 S.2.1 d_Not_init_5 (by decide) ?_
  refine lv_aload_n S.1 S.2.1 d_Not_init_6 rfl (lv_at hl 1 rfl) ?_
  refine fm_get (v := .int g31) S hC hc1 2 (by decide) hp1 q_151  rfl d_Not_init_7 ?_
  refine kw_v (A := fun q => q = b ∨ sz ≤ q) (k_I (rest := []) S (c_Form_init (ci := 2) (sz := sz) l (by decide) g11 0 g31 h31 hzb) kc_Form_init ⟨q_305, q_130⟩ rfl rfl rfl ⟨Nat.le_of_ble_eq_true rfl, Nat.le_of_ble_eq_true rfl⟩ hC hS hA ⟨hsz, hb⟩ rfl hl.1 rfl (Nat.le_of_ble_eq_true rfl) ⟨(Nat.le_of_ble_eq_true rfl), (Nat.le_of_ble_eq_true rfl)⟩ d_Not_init_10) hS (fun q h => h) (fun H locs er hz hkp hS => ?_)
  obtain ⟨hsz, hb, hsa⟩ := er
  have hp1 := hp1.cl hkp (fun z => z.elim hnb1 (by have := hp1.lt; omega))
  have hb : va_at K.1 classes (b, .inr (2, [.int g11, .int 0, .int g31, .int 0, .ref sz, .null])) H := hb
  refine lv_aload_n S.1 S.2.1 d_Not_init_13 rfl (lv_at hl 0 rfl) ?_
  refine lv_aload_n S.1 S.2.1 d_Not_init_14 rfl (lv_at hl 1 rfl) ?_
  refine f_putF (A := fun q => q = b ∨ sz ≤ q) (ty := (.object "MetricLogMonitor$Formula")) (v := .ref a1) S hC kf_Not hb (Or.inl rfl) hS rfl 5 (by decide) q_306 rfl hnm rfl (by decide +kernel) rfl rfl (Nat.le_of_ble_eq_true rfl) d_Not_init_15 (fun H locs hb oq hz hS => ?_)
  have hb : va_at K.1 classes (b, .inr (2, [.int g11, .int 0, .int g31, .int 0, .ref sz, .ref a1])) H := hb
  have hp1 := hp1.sty oq hnb1
  have hsa := hsa.sty oq (fun z => hbs z.symm)
  have hsz := hz.trans hsz
  exact rw_v S hr hk hS d_Not_init_18 ⟨hsz, hb, hsa⟩
set_option maxHeartbeats 4000000 in
set_option maxRecDepth 100000 in
theorem c_Join_init (l : Launch) {K : KT} {b sz : Nat}  {a1 c1 sa1 : Nat} {g11 g21 g31 g41 : Int32} {xs1 : List Value} {a2 c2 sa2 : Nat} {g12 g22 g32 g42 : Int32} {xs2 : List Value} (hzb : kz K ≤ b) (both : Int32) (hboth : both = 0 ∨ both = 1) (hc1 : c1 < 8) (hnb1 : a1 ≠ b) (hc2 : c2 < 8) (hnb2 : a2 ≠ b) : Met l y_Join_init (Cond.code y_Join_init b_Join_init 4 none :: WALL) { frames := 2, cells := 1, slots := 24, locals := 35 } (pc0 K [.ref b, .int both, .ref a1, .ref a2] (fun H => H.size = sz ∧ va_at K.1 classes (b, .inr (3, [.int 0, .int 0, .int 0, .int 0, .null, .int 0, .null, .null])) H ∧ va_at K.1 classes (a1, .inr (c1, .int g11 :: .int g21 :: .int g31 :: .int g41 :: .ref sa1 :: xs1)) H ∧ va_at K.1 classes (a2, .inr (c2, .int g12 :: .int g22 :: .int g32 :: .int g42 :: .ref sa2 :: xs2)) H)) (va_Qv (fun H => H.size = sz + 1 ∧ va_at K.1 classes (b, .inr (3, [.int (g11 ||| g12), .int (f_Join_rangedBy both g21 g22), .int (if g31 = 0 then 0 else if g32 = 0 then 0 else 1), .int 0, .ref sz, .int both, .ref a1, .ref a2])) H ∧ va_at K.1 classes (sz, .inl (kJ K, 24, .inr (.inl (fun _ => 0)))) H) (fun u t => t.heap = u) (fun q => q = b ∨ sz ≤ q)) 1 24 (fun q => q = b ∨ sz ≤ q) := by
  refine met0 (own := "MetricLogMonitor$Join") (by decide) rfl (Nat.le_of_ble_eq_true rfl) (fun p e s m below meth c ls S hr hk hnm hC hH hl => ?_)
  obtain ⟨hsz, hb, hp1, hp2⟩ := hH
  have hl : lv_has ls 4 [(0, .ref b), (1, .int both), (2, .ref a1), (3, .ref a2)] := hl
  have hS : va_S (fun q => q = b ∨ sz ≤ q) s.heap s.heap [] := va_S.rf
  have hA : ∀ q, (fun q => q = b ∨ sz ≤ q) q → kz K ≤ q := fun q h => h.elim (fun z => by rw [z]; exact hzb) (fun z => by have := hC.2.2.2.2.2.2.1; omega)
  have hbs : b ≠ sz := hb.apt hsz.symm
  refine lv_aload_n S.1 S.2.1 d_Join_init_0 rfl (lv_at hl 0 rfl) ?_
  refine lv_aload_n S.1 S.2.1 d_Join_init_1 rfl (lv_at hl 2 rfl) ?_
  refine fm_get (v := .int g11) S hC hc1 0 (by decide) hp1 q_137  rfl d_Join_init_2 ?_
  refine lv_aload_n S.1 S.2.1 d_Join_init_5 rfl (lv_at hl 3 rfl) ?_
  refine fm_get (v := .int g12) S hC hc2 0 (by decide) hp2 q_137  rfl d_Join_init_6 ?_
  refine lv_ior S.1 S.2.1 d_Join_init_9 ?_
  refine lv_iload_n S.1 S.2.1 d_Join_init_10 rfl (lv_at hl 1 rfl) ?_
  refine lv_aload_n S.1 S.2.1 d_Join_init_11 rfl (lv_at hl 2 rfl) ?_
  refine lv_aload_n S.1 S.2.1 d_Join_init_12 rfl (lv_at hl 3 rfl) ?_
  refine kSi (rest := [.int (g11 ||| g12), .ref b]) S (c_Join_rangedBy l hc1 hc2 both) kc_Join_rangedBy ⟨q_324, q_325⟩ rfl rfl ⟨Nat.le_of_ble_eq_true rfl, Nat.le_of_ble_eq_true rfl⟩ hC hS hA ⟨hp1, hp2⟩ ⟨Nat.zero_le _, Nat.zero_le _⟩ hl.1 rfl rfl (Nat.le_of_ble_eq_true rfl) d_Join_init_13 (fun r er => ?_)
  subst er
  refine lv_aload_n S.1 S.2.1 d_Join_init_16 rfl (lv_at hl 2 rfl) ?_
  refine fm_get (v := .int g31) S hC hc1 2 (by decide) hp1 q_153  rfl d_Join_init_17 ?_
  refine lv_if_eq (tgt := 34) S.1 S.2.1 d_Join_init_20 (by decide) (fun hbr1 => ?_) (fun hbr1 => ?_)
  · refine lv_iconst (v := 0) S.1 S.2.1 d_Join_init_34 (by decide) ?_
    refine kw_v (A := fun q => q = b ∨ sz ≤ q) (k_I (rest := []) S (c_Form_init (ci := 3) (sz := sz) l (by decide) (g11 ||| g12) (f_Join_rangedBy both g21 g22) 0 (Or.inl rfl) hzb) kc_Form_init ⟨q_327, q_130⟩ rfl rfl rfl ⟨Nat.le_of_ble_eq_true rfl, Nat.le_of_ble_eq_true rfl⟩ hC hS hA ⟨hsz, hb⟩ rfl hl.1 rfl (Nat.le_of_ble_eq_true rfl) ⟨(Nat.le_of_ble_eq_true rfl), (Nat.le_of_ble_eq_true rfl)⟩ d_Join_init_35) hS (fun q h => h) (fun H locs er hz hkp hS => ?_)
    obtain ⟨hsz, hb, hsa⟩ := er
    have hp1 := hp1.cl hkp (fun z => z.elim hnb1 (by have := hp1.lt; omega))
    have hp2 := hp2.cl hkp (fun z => z.elim hnb2 (by have := hp2.lt; omega))
    have hb : va_at K.1 classes (b, .inr (3, [.int (g11 ||| g12), .int (f_Join_rangedBy both g21 g22), .int 0, .int 0, .ref sz, .int 0, .null, .null])) H := hb
    refine lv_aload_n S.1 S.2.1 d_Join_init_38 rfl (lv_at hl 0 rfl) ?_
    refine lv_iload_n S.1 S.2.1 d_Join_init_39 rfl (lv_at hl 1 rfl) ?_
    refine f_putF (A := fun q => q = b ∨ sz ≤ q) (ty := .boolean) (v := .int both) S hC kf_Join hb (Or.inl rfl) hS rfl 5 (by decide) q_328 rfl hnm rfl (by decide +kernel) (nz hboth) (fz hboth) (Nat.le_of_ble_eq_true rfl) d_Join_init_40 (fun H locs hb oq hz hS => ?_)
    have hb : va_at K.1 classes (b, .inr (3, [.int (g11 ||| g12), .int (f_Join_rangedBy both g21 g22), .int 0, .int 0, .ref sz, .int both, .null, .null])) H := hb
    have hp1 := hp1.sty oq hnb1
    have hp2 := hp2.sty oq hnb2
    have hsa := hsa.sty oq (fun z => hbs z.symm)
    have hsz := hz.trans hsz
    refine lv_aload_n S.1 S.2.1 d_Join_init_43 rfl (lv_at hl 0 rfl) ?_
    refine lv_aload_n S.1 S.2.1 d_Join_init_44 rfl (lv_at hl 2 rfl) ?_
    refine f_putF (A := fun q => q = b ∨ sz ≤ q) (ty := (.object "MetricLogMonitor$Formula")) (v := .ref a1) S hC kf_Join hb (Or.inl rfl) hS rfl 6 (by decide) q_329 rfl hnm rfl (by decide +kernel) rfl rfl (Nat.le_of_ble_eq_true rfl) d_Join_init_45 (fun H locs hb oq hz hS => ?_)
    have hb : va_at K.1 classes (b, .inr (3, [.int (g11 ||| g12), .int (f_Join_rangedBy both g21 g22), .int 0, .int 0, .ref sz, .int both, .ref a1, .null])) H := hb
    have hp1 := hp1.sty oq hnb1
    have hp2 := hp2.sty oq hnb2
    have hsa := hsa.sty oq (fun z => hbs z.symm)
    have hsz := hz.trans hsz
    refine lv_aload_n S.1 S.2.1 d_Join_init_48 rfl (lv_at hl 0 rfl) ?_
    refine lv_aload_n S.1 S.2.1 d_Join_init_49 rfl (lv_at hl 3 rfl) ?_
    refine f_putF (A := fun q => q = b ∨ sz ≤ q) (ty := (.object "MetricLogMonitor$Formula")) (v := .ref a2) S hC kf_Join hb (Or.inl rfl) hS rfl 7 (by decide) q_330 rfl hnm rfl (by decide +kernel) rfl rfl (Nat.le_of_ble_eq_true rfl) d_Join_init_50 (fun H locs hb oq hz hS => ?_)
    have hb : va_at K.1 classes (b, .inr (3, [.int (g11 ||| g12), .int (f_Join_rangedBy both g21 g22), .int 0, .int 0, .ref sz, .int both, .ref a1, .ref a2])) H := hb
    have hp1 := hp1.sty oq hnb1
    have hp2 := hp2.sty oq hnb2
    have hsa := hsa.sty oq (fun z => hbs z.symm)
    have hsz := hz.trans hsz
    exact rw_v S hr hk hS d_Join_init_53 ⟨hsz, by rw [if_pos hbr1]; exact hb, hsa⟩
  · refine lv_aload_n S.1 S.2.1 d_Join_init_23 rfl (lv_at hl 3 rfl) ?_
    refine fm_get (v := .int g32) S hC hc2 2 (by decide) hp2 q_153  rfl d_Join_init_24 ?_
    refine lv_if_eq (tgt := 34) S.1 S.2.1 d_Join_init_27 (by decide) (fun hbr2 => ?_) (fun hbr2 => ?_)
    · refine lv_iconst (v := 0) S.1 S.2.1 d_Join_init_34 (by decide) ?_
      refine kw_v (A := fun q => q = b ∨ sz ≤ q) (k_I (rest := []) S (c_Form_init (ci := 3) (sz := sz) l (by decide) (g11 ||| g12) (f_Join_rangedBy both g21 g22) 0 (Or.inl rfl) hzb) kc_Form_init ⟨q_327, q_130⟩ rfl rfl rfl ⟨Nat.le_of_ble_eq_true rfl, Nat.le_of_ble_eq_true rfl⟩ hC hS hA ⟨hsz, hb⟩ rfl hl.1 rfl (Nat.le_of_ble_eq_true rfl) ⟨(Nat.le_of_ble_eq_true rfl), (Nat.le_of_ble_eq_true rfl)⟩ d_Join_init_35) hS (fun q h => h) (fun H locs er hz hkp hS => ?_)
      obtain ⟨hsz, hb, hsa⟩ := er
      have hp1 := hp1.cl hkp (fun z => z.elim hnb1 (by have := hp1.lt; omega))
      have hp2 := hp2.cl hkp (fun z => z.elim hnb2 (by have := hp2.lt; omega))
      have hb : va_at K.1 classes (b, .inr (3, [.int (g11 ||| g12), .int (f_Join_rangedBy both g21 g22), .int 0, .int 0, .ref sz, .int 0, .null, .null])) H := hb
      refine lv_aload_n S.1 S.2.1 d_Join_init_38 rfl (lv_at hl 0 rfl) ?_
      refine lv_iload_n S.1 S.2.1 d_Join_init_39 rfl (lv_at hl 1 rfl) ?_
      refine f_putF (A := fun q => q = b ∨ sz ≤ q) (ty := .boolean) (v := .int both) S hC kf_Join hb (Or.inl rfl) hS rfl 5 (by decide) q_328 rfl hnm rfl (by decide +kernel) (nz hboth) (fz hboth) (Nat.le_of_ble_eq_true rfl) d_Join_init_40 (fun H locs hb oq hz hS => ?_)
      have hb : va_at K.1 classes (b, .inr (3, [.int (g11 ||| g12), .int (f_Join_rangedBy both g21 g22), .int 0, .int 0, .ref sz, .int both, .null, .null])) H := hb
      have hp1 := hp1.sty oq hnb1
      have hp2 := hp2.sty oq hnb2
      have hsa := hsa.sty oq (fun z => hbs z.symm)
      have hsz := hz.trans hsz
      refine lv_aload_n S.1 S.2.1 d_Join_init_43 rfl (lv_at hl 0 rfl) ?_
      refine lv_aload_n S.1 S.2.1 d_Join_init_44 rfl (lv_at hl 2 rfl) ?_
      refine f_putF (A := fun q => q = b ∨ sz ≤ q) (ty := (.object "MetricLogMonitor$Formula")) (v := .ref a1) S hC kf_Join hb (Or.inl rfl) hS rfl 6 (by decide) q_329 rfl hnm rfl (by decide +kernel) rfl rfl (Nat.le_of_ble_eq_true rfl) d_Join_init_45 (fun H locs hb oq hz hS => ?_)
      have hb : va_at K.1 classes (b, .inr (3, [.int (g11 ||| g12), .int (f_Join_rangedBy both g21 g22), .int 0, .int 0, .ref sz, .int both, .ref a1, .null])) H := hb
      have hp1 := hp1.sty oq hnb1
      have hp2 := hp2.sty oq hnb2
      have hsa := hsa.sty oq (fun z => hbs z.symm)
      have hsz := hz.trans hsz
      refine lv_aload_n S.1 S.2.1 d_Join_init_48 rfl (lv_at hl 0 rfl) ?_
      refine lv_aload_n S.1 S.2.1 d_Join_init_49 rfl (lv_at hl 3 rfl) ?_
      refine f_putF (A := fun q => q = b ∨ sz ≤ q) (ty := (.object "MetricLogMonitor$Formula")) (v := .ref a2) S hC kf_Join hb (Or.inl rfl) hS rfl 7 (by decide) q_330 rfl hnm rfl (by decide +kernel) rfl rfl (Nat.le_of_ble_eq_true rfl) d_Join_init_50 (fun H locs hb oq hz hS => ?_)
      have hb : va_at K.1 classes (b, .inr (3, [.int (g11 ||| g12), .int (f_Join_rangedBy both g21 g22), .int 0, .int 0, .ref sz, .int both, .ref a1, .ref a2])) H := hb
      have hp1 := hp1.sty oq hnb1
      have hp2 := hp2.sty oq hnb2
      have hsa := hsa.sty oq (fun z => hbs z.symm)
      have hsz := hz.trans hsz
      exact rw_v S hr hk hS d_Join_init_53 ⟨hsz, by rw [if_neg hbr1, if_pos hbr2]; exact hb, hsa⟩
    · refine lv_iconst (v := 1) S.1 S.2.1 d_Join_init_30 (by decide) ?_
      refine lv_goto (tgt := 35) S.1 S.2.1 d_Join_init_31 (by decide) ?_
      refine kw_v (A := fun q => q = b ∨ sz ≤ q) (k_I (rest := []) S (c_Form_init (ci := 3) (sz := sz) l (by decide) (g11 ||| g12) (f_Join_rangedBy both g21 g22) 1 (Or.inr rfl) hzb) kc_Form_init ⟨q_327, q_130⟩ rfl rfl rfl ⟨Nat.le_of_ble_eq_true rfl, Nat.le_of_ble_eq_true rfl⟩ hC hS hA ⟨hsz, hb⟩ rfl hl.1 rfl (Nat.le_of_ble_eq_true rfl) ⟨(Nat.le_of_ble_eq_true rfl), (Nat.le_of_ble_eq_true rfl)⟩ d_Join_init_35) hS (fun q h => h) (fun H locs er hz hkp hS => ?_)
      obtain ⟨hsz, hb, hsa⟩ := er
      have hp1 := hp1.cl hkp (fun z => z.elim hnb1 (by have := hp1.lt; omega))
      have hp2 := hp2.cl hkp (fun z => z.elim hnb2 (by have := hp2.lt; omega))
      have hb : va_at K.1 classes (b, .inr (3, [.int (g11 ||| g12), .int (f_Join_rangedBy both g21 g22), .int 1, .int 0, .ref sz, .int 0, .null, .null])) H := hb
      refine lv_aload_n S.1 S.2.1 d_Join_init_38 rfl (lv_at hl 0 rfl) ?_
      refine lv_iload_n S.1 S.2.1 d_Join_init_39 rfl (lv_at hl 1 rfl) ?_
      refine f_putF (A := fun q => q = b ∨ sz ≤ q) (ty := .boolean) (v := .int both) S hC kf_Join hb (Or.inl rfl) hS rfl 5 (by decide) q_328 rfl hnm rfl (by decide +kernel) (nz hboth) (fz hboth) (Nat.le_of_ble_eq_true rfl) d_Join_init_40 (fun H locs hb oq hz hS => ?_)
      have hb : va_at K.1 classes (b, .inr (3, [.int (g11 ||| g12), .int (f_Join_rangedBy both g21 g22), .int 1, .int 0, .ref sz, .int both, .null, .null])) H := hb
      have hp1 := hp1.sty oq hnb1
      have hp2 := hp2.sty oq hnb2
      have hsa := hsa.sty oq (fun z => hbs z.symm)
      have hsz := hz.trans hsz
      refine lv_aload_n S.1 S.2.1 d_Join_init_43 rfl (lv_at hl 0 rfl) ?_
      refine lv_aload_n S.1 S.2.1 d_Join_init_44 rfl (lv_at hl 2 rfl) ?_
      refine f_putF (A := fun q => q = b ∨ sz ≤ q) (ty := (.object "MetricLogMonitor$Formula")) (v := .ref a1) S hC kf_Join hb (Or.inl rfl) hS rfl 6 (by decide) q_329 rfl hnm rfl (by decide +kernel) rfl rfl (Nat.le_of_ble_eq_true rfl) d_Join_init_45 (fun H locs hb oq hz hS => ?_)
      have hb : va_at K.1 classes (b, .inr (3, [.int (g11 ||| g12), .int (f_Join_rangedBy both g21 g22), .int 1, .int 0, .ref sz, .int both, .ref a1, .null])) H := hb
      have hp1 := hp1.sty oq hnb1
      have hp2 := hp2.sty oq hnb2
      have hsa := hsa.sty oq (fun z => hbs z.symm)
      have hsz := hz.trans hsz
      refine lv_aload_n S.1 S.2.1 d_Join_init_48 rfl (lv_at hl 0 rfl) ?_
      refine lv_aload_n S.1 S.2.1 d_Join_init_49 rfl (lv_at hl 3 rfl) ?_
      refine f_putF (A := fun q => q = b ∨ sz ≤ q) (ty := (.object "MetricLogMonitor$Formula")) (v := .ref a2) S hC kf_Join hb (Or.inl rfl) hS rfl 7 (by decide) q_330 rfl hnm rfl (by decide +kernel) rfl rfl (Nat.le_of_ble_eq_true rfl) d_Join_init_50 (fun H locs hb oq hz hS => ?_)
      have hb : va_at K.1 classes (b, .inr (3, [.int (g11 ||| g12), .int (f_Join_rangedBy both g21 g22), .int 1, .int 0, .ref sz, .int both, .ref a1, .ref a2])) H := hb
      have hp1 := hp1.sty oq hnb1
      have hp2 := hp2.sty oq hnb2
      have hsa := hsa.sty oq (fun z => hbs z.symm)
      have hsz := hz.trans hsz
      exact rw_v S hr hk hS d_Join_init_53 ⟨hsz, by rw [if_neg hbr1, if_neg hbr2]; exact hb, hsa⟩
set_option maxHeartbeats 4000000 in
set_option maxRecDepth 100000 in
theorem c_Exi_init (l : Launch) {K : KT} {b sz : Nat}  {a1 c1 sa1 : Nat} {g11 g21 g31 g41 : Int32} {xs1 : List Value} (hzb : kz K ≤ b) (v : Int32) (hc1 : c1 < 8) (hnb1 : a1 ≠ b) : Met l y_Exi_init (Cond.code y_Exi_init b_Exi_init 3 none :: WALL) { frames := 2, cells := 1, slots := 24, locals := 35 } (pc0 K [.ref b, .int v, .ref a1] (fun H => H.size = sz ∧ va_at K.1 classes (b, .inr (4, [.int 0, .int 0, .int 0, .int 0, .null, .int 0, .null])) H ∧ va_at K.1 classes (a1, .inr (c1, .int g11 :: .int g21 :: .int g31 :: .int g41 :: .ref sa1 :: xs1)) H)) (va_Qv (fun H => H.size = sz + 1 ∧ va_at K.1 classes (b, .inr (4, [.int (g11 &&& (f_M_variableBit v ^^^ (-1))), .int (g21 &&& (f_M_variableBit v ^^^ (-1))), .int (if g31 = 0 then 0 else if g21 &&& f_M_variableBit v = 0 then 0 else 1), .int 0, .ref sz, .int v, .ref a1])) H ∧ va_at K.1 classes (sz, .inl (kJ K, 24, .inr (.inl (fun _ => 0)))) H) (fun u t => t.heap = u) (fun q => q = b ∨ sz ≤ q)) 1 24 (fun q => q = b ∨ sz ≤ q) := by
  refine met0 (own := "MetricLogMonitor$Exists") (by decide) rfl (Nat.le_of_ble_eq_true rfl) (fun p e s m below meth c ls S hr hk hnm hC hH hl => ?_)
  obtain ⟨hsz, hb, hp1⟩ := hH
  have hl : lv_has ls 3 [(0, .ref b), (1, .int v), (2, .ref a1)] := hl
  have hS : va_S (fun q => q = b ∨ sz ≤ q) s.heap s.heap [] := va_S.rf
  have hA : ∀ q, (fun q => q = b ∨ sz ≤ q) q → kz K ≤ q := fun q h => h.elim (fun z => by rw [z]; exact hzb) (fun z => by have := hC.2.2.2.2.2.2.1; omega)
  have hbs : b ≠ sz := hb.apt hsz.symm
  refine lv_aload_n S.1 S.2.1 d_Exi_init_0 rfl (lv_at hl 0 rfl) ?_
  refine lv_aload_n S.1 S.2.1 d_Exi_init_1 rfl (lv_at hl 2 rfl) ?_
  refine fm_get (v := .int g11) S hC hc1 0 (by decide) hp1 q_138  rfl d_Exi_init_2 ?_
  refine lv_iload_n S.1 S.2.1 d_Exi_init_5 rfl (lv_at hl 1 rfl) ?_
  refine kNi (rest := [.int g11, .ref b]) S (c_M_variableBit l v) kc_M_variableBit ⟨qn_352, q_127⟩ rfl rfl ⟨Nat.le_of_ble_eq_true rfl, Nat.le_of_ble_eq_true rfl⟩ hC hS hA trivial ⟨Nat.zero_le _, Nat.zero_le _⟩ hl.1 rfl rfl (Nat.le_of_ble_eq_true rfl) d_Exi_init_6 (fun r er => ?_)
  subst er
  refine lv_iconst (v := (-1)) S.1 S.2.1 d_Exi_init_9 (by decide) ?_
  refine lv_ixor S.1 S.2.1 d_Exi_init_10 ?_
  refine lv_iand S.1 S.2.1 d_Exi_init_11 ?_
  refine lv_aload_n S.1 S.2.1 d_Exi_init_12 rfl (lv_at hl 2 rfl) ?_
  refine fm_get (v := .int g21) S hC hc1 1 (by decide) hp1 q_145  rfl d_Exi_init_13 ?_
  refine lv_iload_n S.1 S.2.1 d_Exi_init_16 rfl (lv_at hl 1 rfl) ?_
  refine kNi (rest := [.int g21, .int (g11 &&& ((f_M_variableBit v) ^^^ (-1))), .ref b]) S (c_M_variableBit l v) kc_M_variableBit ⟨qn_352, q_127⟩ rfl rfl ⟨Nat.le_of_ble_eq_true rfl, Nat.le_of_ble_eq_true rfl⟩ hC hS hA trivial ⟨Nat.zero_le _, Nat.zero_le _⟩ hl.1 rfl rfl (Nat.le_of_ble_eq_true rfl) d_Exi_init_17 (fun r er => ?_)
  subst er
  refine lv_iconst (v := (-1)) S.1 S.2.1 d_Exi_init_20 (by decide) ?_
  refine lv_ixor S.1 S.2.1 d_Exi_init_21 ?_
  refine lv_iand S.1 S.2.1 d_Exi_init_22 ?_
  refine lv_aload_n S.1 S.2.1 d_Exi_init_23 rfl (lv_at hl 2 rfl) ?_
  refine fm_get (v := .int g31) S hC hc1 2 (by decide) hp1 q_157  rfl d_Exi_init_24 ?_
  refine lv_if_eq (tgt := 46) S.1 S.2.1 d_Exi_init_27 (by decide) (fun hbr1 => ?_) (fun hbr1 => ?_)
  · refine lv_iconst (v := 0) S.1 S.2.1 d_Exi_init_46 (by decide) ?_
    refine kw_v (A := fun q => q = b ∨ sz ≤ q) (k_I (rest := []) S (c_Form_init (ci := 4) (sz := sz) l (by decide) (g11 &&& ((f_M_variableBit v) ^^^ (-1))) (g21 &&& ((f_M_variableBit v) ^^^ (-1))) 0 (Or.inl rfl) hzb) kc_Form_init ⟨q_353, q_130⟩ rfl rfl rfl ⟨Nat.le_of_ble_eq_true rfl, Nat.le_of_ble_eq_true rfl⟩ hC hS hA ⟨hsz, hb⟩ rfl hl.1 rfl (Nat.le_of_ble_eq_true rfl) ⟨(Nat.le_of_ble_eq_true rfl), (Nat.le_of_ble_eq_true rfl)⟩ d_Exi_init_47) hS (fun q h => h) (fun H locs er hz hkp hS => ?_)
    obtain ⟨hsz, hb, hsa⟩ := er
    have hp1 := hp1.cl hkp (fun z => z.elim hnb1 (by have := hp1.lt; omega))
    have hb : va_at K.1 classes (b, .inr (4, [.int (g11 &&& ((f_M_variableBit v) ^^^ (-1))), .int (g21 &&& ((f_M_variableBit v) ^^^ (-1))), .int 0, .int 0, .ref sz, .int 0, .null])) H := hb
    refine lv_aload_n S.1 S.2.1 d_Exi_init_50 rfl (lv_at hl 0 rfl) ?_
    refine lv_iload_n S.1 S.2.1 d_Exi_init_51 rfl (lv_at hl 1 rfl) ?_
    refine f_putF (A := fun q => q = b ∨ sz ≤ q) (ty := .int) (v := .int v) S hC kf_Exi hb (Or.inl rfl) hS rfl 5 (by decide) q_354 rfl hnm rfl (by decide +kernel) rfl rfl (Nat.le_of_ble_eq_true rfl) d_Exi_init_52 (fun H locs hb oq hz hS => ?_)
    have hb : va_at K.1 classes (b, .inr (4, [.int (g11 &&& ((f_M_variableBit v) ^^^ (-1))), .int (g21 &&& ((f_M_variableBit v) ^^^ (-1))), .int 0, .int 0, .ref sz, .int v, .null])) H := hb
    have hp1 := hp1.sty oq hnb1
    have hsa := hsa.sty oq (fun z => hbs z.symm)
    have hsz := hz.trans hsz
    refine lv_aload_n S.1 S.2.1 d_Exi_init_55 rfl (lv_at hl 0 rfl) ?_
    refine lv_aload_n S.1 S.2.1 d_Exi_init_56 rfl (lv_at hl 2 rfl) ?_
    refine f_putF (A := fun q => q = b ∨ sz ≤ q) (ty := (.object "MetricLogMonitor$Formula")) (v := .ref a1) S hC kf_Exi hb (Or.inl rfl) hS rfl 6 (by decide) q_355 rfl hnm rfl (by decide +kernel) rfl rfl (Nat.le_of_ble_eq_true rfl) d_Exi_init_57 (fun H locs hb oq hz hS => ?_)
    have hb : va_at K.1 classes (b, .inr (4, [.int (g11 &&& ((f_M_variableBit v) ^^^ (-1))), .int (g21 &&& ((f_M_variableBit v) ^^^ (-1))), .int 0, .int 0, .ref sz, .int v, .ref a1])) H := hb
    have hp1 := hp1.sty oq hnb1
    have hsa := hsa.sty oq (fun z => hbs z.symm)
    have hsz := hz.trans hsz
    exact rw_v S hr hk hS d_Exi_init_60 ⟨hsz, by rw [if_pos hbr1]; exact hb, hsa⟩
  · refine lv_aload_n S.1 S.2.1 d_Exi_init_30 rfl (lv_at hl 2 rfl) ?_
    refine fm_get (v := .int g21) S hC hc1 1 (by decide) hp1 q_145  rfl d_Exi_init_31 ?_
    refine lv_iload_n S.1 S.2.1 d_Exi_init_34 rfl (lv_at hl 1 rfl) ?_
    refine kNi (rest := [.int g21, .int (g21 &&& ((f_M_variableBit v) ^^^ (-1))), .int (g11 &&& ((f_M_variableBit v) ^^^ (-1))), .ref b]) S (c_M_variableBit l v) kc_M_variableBit ⟨qn_352, q_127⟩ rfl rfl ⟨Nat.le_of_ble_eq_true rfl, Nat.le_of_ble_eq_true rfl⟩ hC hS hA trivial ⟨Nat.zero_le _, Nat.zero_le _⟩ hl.1 rfl rfl (Nat.le_of_ble_eq_true rfl) d_Exi_init_35 (fun r er => ?_)
    subst er
    refine lv_iand S.1 S.2.1 d_Exi_init_38 ?_
    refine lv_if_eq (tgt := 46) S.1 S.2.1 d_Exi_init_39 (by decide) (fun hbr2 => ?_) (fun hbr2 => ?_)
    · refine lv_iconst (v := 0) S.1 S.2.1 d_Exi_init_46 (by decide) ?_
      refine kw_v (A := fun q => q = b ∨ sz ≤ q) (k_I (rest := []) S (c_Form_init (ci := 4) (sz := sz) l (by decide) (g11 &&& ((f_M_variableBit v) ^^^ (-1))) (g21 &&& ((f_M_variableBit v) ^^^ (-1))) 0 (Or.inl rfl) hzb) kc_Form_init ⟨q_353, q_130⟩ rfl rfl rfl ⟨Nat.le_of_ble_eq_true rfl, Nat.le_of_ble_eq_true rfl⟩ hC hS hA ⟨hsz, hb⟩ rfl hl.1 rfl (Nat.le_of_ble_eq_true rfl) ⟨(Nat.le_of_ble_eq_true rfl), (Nat.le_of_ble_eq_true rfl)⟩ d_Exi_init_47) hS (fun q h => h) (fun H locs er hz hkp hS => ?_)
      obtain ⟨hsz, hb, hsa⟩ := er
      have hp1 := hp1.cl hkp (fun z => z.elim hnb1 (by have := hp1.lt; omega))
      have hb : va_at K.1 classes (b, .inr (4, [.int (g11 &&& ((f_M_variableBit v) ^^^ (-1))), .int (g21 &&& ((f_M_variableBit v) ^^^ (-1))), .int 0, .int 0, .ref sz, .int 0, .null])) H := hb
      refine lv_aload_n S.1 S.2.1 d_Exi_init_50 rfl (lv_at hl 0 rfl) ?_
      refine lv_iload_n S.1 S.2.1 d_Exi_init_51 rfl (lv_at hl 1 rfl) ?_
      refine f_putF (A := fun q => q = b ∨ sz ≤ q) (ty := .int) (v := .int v) S hC kf_Exi hb (Or.inl rfl) hS rfl 5 (by decide) q_354 rfl hnm rfl (by decide +kernel) rfl rfl (Nat.le_of_ble_eq_true rfl) d_Exi_init_52 (fun H locs hb oq hz hS => ?_)
      have hb : va_at K.1 classes (b, .inr (4, [.int (g11 &&& ((f_M_variableBit v) ^^^ (-1))), .int (g21 &&& ((f_M_variableBit v) ^^^ (-1))), .int 0, .int 0, .ref sz, .int v, .null])) H := hb
      have hp1 := hp1.sty oq hnb1
      have hsa := hsa.sty oq (fun z => hbs z.symm)
      have hsz := hz.trans hsz
      refine lv_aload_n S.1 S.2.1 d_Exi_init_55 rfl (lv_at hl 0 rfl) ?_
      refine lv_aload_n S.1 S.2.1 d_Exi_init_56 rfl (lv_at hl 2 rfl) ?_
      refine f_putF (A := fun q => q = b ∨ sz ≤ q) (ty := (.object "MetricLogMonitor$Formula")) (v := .ref a1) S hC kf_Exi hb (Or.inl rfl) hS rfl 6 (by decide) q_355 rfl hnm rfl (by decide +kernel) rfl rfl (Nat.le_of_ble_eq_true rfl) d_Exi_init_57 (fun H locs hb oq hz hS => ?_)
      have hb : va_at K.1 classes (b, .inr (4, [.int (g11 &&& ((f_M_variableBit v) ^^^ (-1))), .int (g21 &&& ((f_M_variableBit v) ^^^ (-1))), .int 0, .int 0, .ref sz, .int v, .ref a1])) H := hb
      have hp1 := hp1.sty oq hnb1
      have hsa := hsa.sty oq (fun z => hbs z.symm)
      have hsz := hz.trans hsz
      exact rw_v S hr hk hS d_Exi_init_60 ⟨hsz, by rw [if_neg hbr1, if_pos hbr2]; exact hb, hsa⟩
    · refine lv_iconst (v := 1) S.1 S.2.1 d_Exi_init_42 (by decide) ?_
      refine lv_goto (tgt := 47) S.1 S.2.1 d_Exi_init_43 (by decide) ?_
      refine kw_v (A := fun q => q = b ∨ sz ≤ q) (k_I (rest := []) S (c_Form_init (ci := 4) (sz := sz) l (by decide) (g11 &&& ((f_M_variableBit v) ^^^ (-1))) (g21 &&& ((f_M_variableBit v) ^^^ (-1))) 1 (Or.inr rfl) hzb) kc_Form_init ⟨q_353, q_130⟩ rfl rfl rfl ⟨Nat.le_of_ble_eq_true rfl, Nat.le_of_ble_eq_true rfl⟩ hC hS hA ⟨hsz, hb⟩ rfl hl.1 rfl (Nat.le_of_ble_eq_true rfl) ⟨(Nat.le_of_ble_eq_true rfl), (Nat.le_of_ble_eq_true rfl)⟩ d_Exi_init_47) hS (fun q h => h) (fun H locs er hz hkp hS => ?_)
      obtain ⟨hsz, hb, hsa⟩ := er
      have hp1 := hp1.cl hkp (fun z => z.elim hnb1 (by have := hp1.lt; omega))
      have hb : va_at K.1 classes (b, .inr (4, [.int (g11 &&& ((f_M_variableBit v) ^^^ (-1))), .int (g21 &&& ((f_M_variableBit v) ^^^ (-1))), .int 1, .int 0, .ref sz, .int 0, .null])) H := hb
      refine lv_aload_n S.1 S.2.1 d_Exi_init_50 rfl (lv_at hl 0 rfl) ?_
      refine lv_iload_n S.1 S.2.1 d_Exi_init_51 rfl (lv_at hl 1 rfl) ?_
      refine f_putF (A := fun q => q = b ∨ sz ≤ q) (ty := .int) (v := .int v) S hC kf_Exi hb (Or.inl rfl) hS rfl 5 (by decide) q_354 rfl hnm rfl (by decide +kernel) rfl rfl (Nat.le_of_ble_eq_true rfl) d_Exi_init_52 (fun H locs hb oq hz hS => ?_)
      have hb : va_at K.1 classes (b, .inr (4, [.int (g11 &&& ((f_M_variableBit v) ^^^ (-1))), .int (g21 &&& ((f_M_variableBit v) ^^^ (-1))), .int 1, .int 0, .ref sz, .int v, .null])) H := hb
      have hp1 := hp1.sty oq hnb1
      have hsa := hsa.sty oq (fun z => hbs z.symm)
      have hsz := hz.trans hsz
      refine lv_aload_n S.1 S.2.1 d_Exi_init_55 rfl (lv_at hl 0 rfl) ?_
      refine lv_aload_n S.1 S.2.1 d_Exi_init_56 rfl (lv_at hl 2 rfl) ?_
      refine f_putF (A := fun q => q = b ∨ sz ≤ q) (ty := (.object "MetricLogMonitor$Formula")) (v := .ref a1) S hC kf_Exi hb (Or.inl rfl) hS rfl 6 (by decide) q_355 rfl hnm rfl (by decide +kernel) rfl rfl (Nat.le_of_ble_eq_true rfl) d_Exi_init_57 (fun H locs hb oq hz hS => ?_)
      have hb : va_at K.1 classes (b, .inr (4, [.int (g11 &&& ((f_M_variableBit v) ^^^ (-1))), .int (g21 &&& ((f_M_variableBit v) ^^^ (-1))), .int 1, .int 0, .ref sz, .int v, .ref a1])) H := hb
      have hp1 := hp1.sty oq hnb1
      have hsa := hsa.sty oq (fun z => hbs z.symm)
      have hsz := hz.trans hsz
      exact rw_v S hr hk hS d_Exi_init_60 ⟨hsz, by rw [if_neg hbr1, if_neg hbr2]; exact hb, hsa⟩
set_option maxHeartbeats 4000000 in
set_option maxRecDepth 100000 in
theorem c_Prev_init (l : Launch) {K : KT} {b sz : Nat}  {a1 c1 sa1 : Nat} {g11 g21 g31 g41 : Int32} {xs1 : List Value} (hzb : kz K ≤ b) (lo hi : Int32) (hc1 : c1 < 8) (hnb1 : a1 ≠ b) (h31 : g31 = 0 ∨ g31 = 1) : Met l y_Prev_init (Cond.code y_Prev_init b_Prev_init 4 none :: WALL) { frames := 2, cells := 1, slots := 24, locals := 35 } (pc0 K [.ref b, .int lo, .int hi, .ref a1] (fun H => H.size = sz ∧ va_at K.1 classes (b, .inr (5, [.int 0, .int 0, .int 0, .int 0, .null, .int 0, .int 0, .null])) H ∧ va_at K.1 classes (a1, .inr (c1, .int g11 :: .int g21 :: .int g31 :: .int g41 :: .ref sa1 :: xs1)) H)) (va_Qv (fun H => H.size = sz + 1 ∧ va_at K.1 classes (b, .inr (5, [.int g11, .int g21, .int g31, .int 0, .ref sz, .int lo, .int hi, .ref a1])) H ∧ va_at K.1 classes (sz, .inl (kJ K, 24, .inr (.inl (fun _ => 0)))) H) (fun u t => t.heap = u) (fun q => q = b ∨ sz ≤ q)) 1 24 (fun q => q = b ∨ sz ≤ q) := by
  refine met0 (own := "MetricLogMonitor$Previous") (by decide) rfl (Nat.le_of_ble_eq_true rfl) (fun p e s m below meth c ls S hr hk hnm hC hH hl => ?_)
  obtain ⟨hsz, hb, hp1⟩ := hH
  have hl : lv_has ls 4 [(0, .ref b), (1, .int lo), (2, .int hi), (3, .ref a1)] := hl
  have hS : va_S (fun q => q = b ∨ sz ≤ q) s.heap s.heap [] := va_S.rf
  have hA : ∀ q, (fun q => q = b ∨ sz ≤ q) q → kz K ≤ q := fun q h => h.elim (fun z => by rw [z]; exact hzb) (fun z => by have := hC.2.2.2.2.2.2.1; omega)
  have hbs : b ≠ sz := hb.apt hsz.symm
  refine lv_aload_n S.1 S.2.1 d_Prev_init_0 rfl (lv_at hl 0 rfl) ?_
  refine lv_aload_n S.1 S.2.1 d_Prev_init_1 rfl (lv_at hl 3 rfl) ?_
  refine fm_get (v := .int g11) S hC hc1 0 (by decide) hp1 q_139  rfl d_Prev_init_2 ?_
  refine lv_aload_n S.1 S.2.1 d_Prev_init_5 rfl (lv_at hl 3 rfl) ?_
  refine fm_get (v := .int g21) S hC hc1 1 (by decide) hp1 q_144  rfl d_Prev_init_6 ?_
  refine lv_aload_n S.1 S.2.1 d_Prev_init_9 rfl (lv_at hl 3 rfl) ?_
  refine fm_get (v := .int g31) S hC hc1 2 (by decide) hp1 q_152  rfl d_Prev_init_10 ?_
  refine kw_v (A := fun q => q = b ∨ sz ≤ q) (k_I (rest := []) S (c_Form_init (ci := 5) (sz := sz) l (by decide) g11 g21 g31 h31 hzb) kc_Form_init ⟨q_385, q_130⟩ rfl rfl rfl ⟨Nat.le_of_ble_eq_true rfl, Nat.le_of_ble_eq_true rfl⟩ hC hS hA ⟨hsz, hb⟩ rfl hl.1 rfl (Nat.le_of_ble_eq_true rfl) ⟨(Nat.le_of_ble_eq_true rfl), (Nat.le_of_ble_eq_true rfl)⟩ d_Prev_init_13) hS (fun q h => h) (fun H locs er hz hkp hS => ?_)
  obtain ⟨hsz, hb, hsa⟩ := er
  have hp1 := hp1.cl hkp (fun z => z.elim hnb1 (by have := hp1.lt; omega))
  have hb : va_at K.1 classes (b, .inr (5, [.int g11, .int g21, .int g31, .int 0, .ref sz, .int 0, .int 0, .null])) H := hb
  refine lv_aload_n S.1 S.2.1 d_Prev_init_16 rfl (lv_at hl 0 rfl) ?_
  refine lv_iload_n S.1 S.2.1 d_Prev_init_17 rfl (lv_at hl 1 rfl) ?_
  refine f_putF (A := fun q => q = b ∨ sz ≤ q) (ty := .int) (v := .int lo) S hC kf_Prev hb (Or.inl rfl) hS rfl 5 (by decide) q_386 rfl hnm rfl (by decide +kernel) rfl rfl (Nat.le_of_ble_eq_true rfl) d_Prev_init_18 (fun H locs hb oq hz hS => ?_)
  have hb : va_at K.1 classes (b, .inr (5, [.int g11, .int g21, .int g31, .int 0, .ref sz, .int lo, .int 0, .null])) H := hb
  have hp1 := hp1.sty oq hnb1
  have hsa := hsa.sty oq (fun z => hbs z.symm)
  have hsz := hz.trans hsz
  refine lv_aload_n S.1 S.2.1 d_Prev_init_21 rfl (lv_at hl 0 rfl) ?_
  refine lv_iload_n S.1 S.2.1 d_Prev_init_22 rfl (lv_at hl 2 rfl) ?_
  refine f_putF (A := fun q => q = b ∨ sz ≤ q) (ty := .int) (v := .int hi) S hC kf_Prev hb (Or.inl rfl) hS rfl 6 (by decide) q_387 rfl hnm rfl (by decide +kernel) rfl rfl (Nat.le_of_ble_eq_true rfl) d_Prev_init_23 (fun H locs hb oq hz hS => ?_)
  have hb : va_at K.1 classes (b, .inr (5, [.int g11, .int g21, .int g31, .int 0, .ref sz, .int lo, .int hi, .null])) H := hb
  have hp1 := hp1.sty oq hnb1
  have hsa := hsa.sty oq (fun z => hbs z.symm)
  have hsz := hz.trans hsz
  refine lv_aload_n S.1 S.2.1 d_Prev_init_26 rfl (lv_at hl 0 rfl) ?_
  refine lv_aload_n S.1 S.2.1 d_Prev_init_27 rfl (lv_at hl 3 rfl) ?_
  refine f_putF (A := fun q => q = b ∨ sz ≤ q) (ty := (.object "MetricLogMonitor$Formula")) (v := .ref a1) S hC kf_Prev hb (Or.inl rfl) hS rfl 7 (by decide) q_388 rfl hnm rfl (by decide +kernel) rfl rfl (Nat.le_of_ble_eq_true rfl) d_Prev_init_28 (fun H locs hb oq hz hS => ?_)
  have hb : va_at K.1 classes (b, .inr (5, [.int g11, .int g21, .int g31, .int 0, .ref sz, .int lo, .int hi, .ref a1])) H := hb
  have hp1 := hp1.sty oq hnb1
  have hsa := hsa.sty oq (fun z => hbs z.symm)
  have hsz := hz.trans hsz
  exact rw_v S hr hk hS d_Prev_init_31 ⟨hsz, hb, hsa⟩
set_option maxHeartbeats 4000000 in
set_option maxRecDepth 100000 in
theorem c_Since_init (l : Launch) {K : KT} {b sz : Nat}  {a1 c1 sa1 : Nat} {g11 g21 g31 g41 : Int32} {xs1 : List Value} {a2 c2 sa2 : Nat} {g12 g22 g32 g42 : Int32} {xs2 : List Value} (hzb : kz K ≤ b) (lo hi : Int32) (hc1 : c1 < 8) (hnb1 : a1 ≠ b) (hc2 : c2 < 8) (hnb2 : a2 ≠ b) : Met l y_Since_init (Cond.code y_Since_init b_Since_init 5 none :: WALL) { frames := 2, cells := 1, slots := 24, locals := 35 } (pc0 K [.ref b, .int lo, .int hi, .ref a1, .ref a2] (fun H => H.size = sz ∧ va_at K.1 classes (b, .inr (6, [.int 0, .int 0, .int 0, .int 0, .null, .int 0, .int 0, .null, .null])) H ∧ va_at K.1 classes (a1, .inr (c1, .int g11 :: .int g21 :: .int g31 :: .int g41 :: .ref sa1 :: xs1)) H ∧ va_at K.1 classes (a2, .inr (c2, .int g12 :: .int g22 :: .int g32 :: .int g42 :: .ref sa2 :: xs2)) H)) (va_Qv (fun H => H.size = sz + 1 ∧ va_at K.1 classes (b, .inr (6, [.int (g11 ||| g12), .int g22, .int (if g31 = 0 then 0 else if g32 = 0 then 0 else 1), .int 0, .ref sz, .int lo, .int hi, .ref a1, .ref a2])) H ∧ va_at K.1 classes (sz, .inl (kJ K, 24, .inr (.inl (fun _ => 0)))) H) (fun u t => t.heap = u) (fun q => q = b ∨ sz ≤ q)) 1 24 (fun q => q = b ∨ sz ≤ q) := by
  refine met0 (own := "MetricLogMonitor$Since") (by decide) rfl (Nat.le_of_ble_eq_true rfl) (fun p e s m below meth c ls S hr hk hnm hC hH hl => ?_)
  obtain ⟨hsz, hb, hp1, hp2⟩ := hH
  have hl : lv_has ls 5 [(0, .ref b), (1, .int lo), (2, .int hi), (3, .ref a1), (4, .ref a2)] := hl
  have hS : va_S (fun q => q = b ∨ sz ≤ q) s.heap s.heap [] := va_S.rf
  have hA : ∀ q, (fun q => q = b ∨ sz ≤ q) q → kz K ≤ q := fun q h => h.elim (fun z => by rw [z]; exact hzb) (fun z => by have := hC.2.2.2.2.2.2.1; omega)
  have hbs : b ≠ sz := hb.apt hsz.symm
  refine lv_aload_n S.1 S.2.1 d_Since_init_0 rfl (lv_at hl 0 rfl) ?_
  refine lv_aload_n S.1 S.2.1 d_Since_init_1 rfl (lv_at hl 3 rfl) ?_
  refine fm_get (v := .int g11) S hC hc1 0 (by decide) hp1 q_140  rfl d_Since_init_2 ?_
  refine lv_aload S.1 S.2.1 d_Since_init_5 (lv_at hl 4 rfl) ?_
  refine fm_get (v := .int g12) S hC hc2 0 (by decide) hp2 q_140  rfl d_Since_init_7 ?_
  refine lv_ior S.1 S.2.1 d_Since_init_10 ?_
  refine lv_aload S.1 S.2.1 d_Since_init_11 (lv_at hl 4 rfl) ?_
  refine fm_get (v := .int g22) S hC hc2 1 (by decide) hp2 q_146  rfl d_Since_init_13 ?_
  refine lv_aload_n S.1 S.2.1 d_Since_init_16 rfl (lv_at hl 3 rfl) ?_
  refine fm_get (v := .int g31) S hC hc1 2 (by decide) hp1 q_154  rfl d_Since_init_17 ?_
  refine lv_if_eq (tgt := 35) S.1 S.2.1 d_Since_init_20 (by decide) (fun hbr1 => ?_) (fun hbr1 => ?_)
  · refine lv_iconst (v := 0) S.1 S.2.1 d_Since_init_35 (by decide) ?_
    refine kw_v (A := fun q => q = b ∨ sz ≤ q) (k_I (rest := []) S (c_Form_init (ci := 6) (sz := sz) l (by decide) (g11 ||| g12) g22 0 (Or.inl rfl) hzb) kc_Form_init ⟨q_410, q_130⟩ rfl rfl rfl ⟨Nat.le_of_ble_eq_true rfl, Nat.le_of_ble_eq_true rfl⟩ hC hS hA ⟨hsz, hb⟩ rfl hl.1 rfl (Nat.le_of_ble_eq_true rfl) ⟨(Nat.le_of_ble_eq_true rfl), (Nat.le_of_ble_eq_true rfl)⟩ d_Since_init_36) hS (fun q h => h) (fun H locs er hz hkp hS => ?_)
    obtain ⟨hsz, hb, hsa⟩ := er
    have hp1 := hp1.cl hkp (fun z => z.elim hnb1 (by have := hp1.lt; omega))
    have hp2 := hp2.cl hkp (fun z => z.elim hnb2 (by have := hp2.lt; omega))
    have hb : va_at K.1 classes (b, .inr (6, [.int (g11 ||| g12), .int g22, .int 0, .int 0, .ref sz, .int 0, .int 0, .null, .null])) H := hb
    refine lv_aload_n S.1 S.2.1 d_Since_init_39 rfl (lv_at hl 0 rfl) ?_
    refine lv_iload_n S.1 S.2.1 d_Since_init_40 rfl (lv_at hl 1 rfl) ?_
    refine f_putF (A := fun q => q = b ∨ sz ≤ q) (ty := .int) (v := .int lo) S hC kf_Since hb (Or.inl rfl) hS rfl 5 (by decide) q_411 rfl hnm rfl (by decide +kernel) rfl rfl (Nat.le_of_ble_eq_true rfl) d_Since_init_41 (fun H locs hb oq hz hS => ?_)
    have hb : va_at K.1 classes (b, .inr (6, [.int (g11 ||| g12), .int g22, .int 0, .int 0, .ref sz, .int lo, .int 0, .null, .null])) H := hb
    have hp1 := hp1.sty oq hnb1
    have hp2 := hp2.sty oq hnb2
    have hsa := hsa.sty oq (fun z => hbs z.symm)
    have hsz := hz.trans hsz
    refine lv_aload_n S.1 S.2.1 d_Since_init_44 rfl (lv_at hl 0 rfl) ?_
    refine lv_iload_n S.1 S.2.1 d_Since_init_45 rfl (lv_at hl 2 rfl) ?_
    refine f_putF (A := fun q => q = b ∨ sz ≤ q) (ty := .int) (v := .int hi) S hC kf_Since hb (Or.inl rfl) hS rfl 6 (by decide) q_412 rfl hnm rfl (by decide +kernel) rfl rfl (Nat.le_of_ble_eq_true rfl) d_Since_init_46 (fun H locs hb oq hz hS => ?_)
    have hb : va_at K.1 classes (b, .inr (6, [.int (g11 ||| g12), .int g22, .int 0, .int 0, .ref sz, .int lo, .int hi, .null, .null])) H := hb
    have hp1 := hp1.sty oq hnb1
    have hp2 := hp2.sty oq hnb2
    have hsa := hsa.sty oq (fun z => hbs z.symm)
    have hsz := hz.trans hsz
    refine lv_aload_n S.1 S.2.1 d_Since_init_49 rfl (lv_at hl 0 rfl) ?_
    refine lv_aload_n S.1 S.2.1 d_Since_init_50 rfl (lv_at hl 3 rfl) ?_
    refine f_putF (A := fun q => q = b ∨ sz ≤ q) (ty := (.object "MetricLogMonitor$Formula")) (v := .ref a1) S hC kf_Since hb (Or.inl rfl) hS rfl 7 (by decide) q_413 rfl hnm rfl (by decide +kernel) rfl rfl (Nat.le_of_ble_eq_true rfl) d_Since_init_51 (fun H locs hb oq hz hS => ?_)
    have hb : va_at K.1 classes (b, .inr (6, [.int (g11 ||| g12), .int g22, .int 0, .int 0, .ref sz, .int lo, .int hi, .ref a1, .null])) H := hb
    have hp1 := hp1.sty oq hnb1
    have hp2 := hp2.sty oq hnb2
    have hsa := hsa.sty oq (fun z => hbs z.symm)
    have hsz := hz.trans hsz
    refine lv_aload_n S.1 S.2.1 d_Since_init_54 rfl (lv_at hl 0 rfl) ?_
    refine lv_aload S.1 S.2.1 d_Since_init_55 (lv_at hl 4 rfl) ?_
    refine f_putF (A := fun q => q = b ∨ sz ≤ q) (ty := (.object "MetricLogMonitor$Formula")) (v := .ref a2) S hC kf_Since hb (Or.inl rfl) hS rfl 8 (by decide) q_414 rfl hnm rfl (by decide +kernel) rfl rfl (Nat.le_of_ble_eq_true rfl) d_Since_init_57 (fun H locs hb oq hz hS => ?_)
    have hb : va_at K.1 classes (b, .inr (6, [.int (g11 ||| g12), .int g22, .int 0, .int 0, .ref sz, .int lo, .int hi, .ref a1, .ref a2])) H := hb
    have hp1 := hp1.sty oq hnb1
    have hp2 := hp2.sty oq hnb2
    have hsa := hsa.sty oq (fun z => hbs z.symm)
    have hsz := hz.trans hsz
    exact rw_v S hr hk hS d_Since_init_60 ⟨hsz, by rw [if_pos hbr1]; exact hb, hsa⟩
  · refine lv_aload S.1 S.2.1 d_Since_init_23 (lv_at hl 4 rfl) ?_
    refine fm_get (v := .int g32) S hC hc2 2 (by decide) hp2 q_154  rfl d_Since_init_25 ?_
    refine lv_if_eq (tgt := 35) S.1 S.2.1 d_Since_init_28 (by decide) (fun hbr2 => ?_) (fun hbr2 => ?_)
    · refine lv_iconst (v := 0) S.1 S.2.1 d_Since_init_35 (by decide) ?_
      refine kw_v (A := fun q => q = b ∨ sz ≤ q) (k_I (rest := []) S (c_Form_init (ci := 6) (sz := sz) l (by decide) (g11 ||| g12) g22 0 (Or.inl rfl) hzb) kc_Form_init ⟨q_410, q_130⟩ rfl rfl rfl ⟨Nat.le_of_ble_eq_true rfl, Nat.le_of_ble_eq_true rfl⟩ hC hS hA ⟨hsz, hb⟩ rfl hl.1 rfl (Nat.le_of_ble_eq_true rfl) ⟨(Nat.le_of_ble_eq_true rfl), (Nat.le_of_ble_eq_true rfl)⟩ d_Since_init_36) hS (fun q h => h) (fun H locs er hz hkp hS => ?_)
      obtain ⟨hsz, hb, hsa⟩ := er
      have hp1 := hp1.cl hkp (fun z => z.elim hnb1 (by have := hp1.lt; omega))
      have hp2 := hp2.cl hkp (fun z => z.elim hnb2 (by have := hp2.lt; omega))
      have hb : va_at K.1 classes (b, .inr (6, [.int (g11 ||| g12), .int g22, .int 0, .int 0, .ref sz, .int 0, .int 0, .null, .null])) H := hb
      refine lv_aload_n S.1 S.2.1 d_Since_init_39 rfl (lv_at hl 0 rfl) ?_
      refine lv_iload_n S.1 S.2.1 d_Since_init_40 rfl (lv_at hl 1 rfl) ?_
      refine f_putF (A := fun q => q = b ∨ sz ≤ q) (ty := .int) (v := .int lo) S hC kf_Since hb (Or.inl rfl) hS rfl 5 (by decide) q_411 rfl hnm rfl (by decide +kernel) rfl rfl (Nat.le_of_ble_eq_true rfl) d_Since_init_41 (fun H locs hb oq hz hS => ?_)
      have hb : va_at K.1 classes (b, .inr (6, [.int (g11 ||| g12), .int g22, .int 0, .int 0, .ref sz, .int lo, .int 0, .null, .null])) H := hb
      have hp1 := hp1.sty oq hnb1
      have hp2 := hp2.sty oq hnb2
      have hsa := hsa.sty oq (fun z => hbs z.symm)
      have hsz := hz.trans hsz
      refine lv_aload_n S.1 S.2.1 d_Since_init_44 rfl (lv_at hl 0 rfl) ?_
      refine lv_iload_n S.1 S.2.1 d_Since_init_45 rfl (lv_at hl 2 rfl) ?_
      refine f_putF (A := fun q => q = b ∨ sz ≤ q) (ty := .int) (v := .int hi) S hC kf_Since hb (Or.inl rfl) hS rfl 6 (by decide) q_412 rfl hnm rfl (by decide +kernel) rfl rfl (Nat.le_of_ble_eq_true rfl) d_Since_init_46 (fun H locs hb oq hz hS => ?_)
      have hb : va_at K.1 classes (b, .inr (6, [.int (g11 ||| g12), .int g22, .int 0, .int 0, .ref sz, .int lo, .int hi, .null, .null])) H := hb
      have hp1 := hp1.sty oq hnb1
      have hp2 := hp2.sty oq hnb2
      have hsa := hsa.sty oq (fun z => hbs z.symm)
      have hsz := hz.trans hsz
      refine lv_aload_n S.1 S.2.1 d_Since_init_49 rfl (lv_at hl 0 rfl) ?_
      refine lv_aload_n S.1 S.2.1 d_Since_init_50 rfl (lv_at hl 3 rfl) ?_
      refine f_putF (A := fun q => q = b ∨ sz ≤ q) (ty := (.object "MetricLogMonitor$Formula")) (v := .ref a1) S hC kf_Since hb (Or.inl rfl) hS rfl 7 (by decide) q_413 rfl hnm rfl (by decide +kernel) rfl rfl (Nat.le_of_ble_eq_true rfl) d_Since_init_51 (fun H locs hb oq hz hS => ?_)
      have hb : va_at K.1 classes (b, .inr (6, [.int (g11 ||| g12), .int g22, .int 0, .int 0, .ref sz, .int lo, .int hi, .ref a1, .null])) H := hb
      have hp1 := hp1.sty oq hnb1
      have hp2 := hp2.sty oq hnb2
      have hsa := hsa.sty oq (fun z => hbs z.symm)
      have hsz := hz.trans hsz
      refine lv_aload_n S.1 S.2.1 d_Since_init_54 rfl (lv_at hl 0 rfl) ?_
      refine lv_aload S.1 S.2.1 d_Since_init_55 (lv_at hl 4 rfl) ?_
      refine f_putF (A := fun q => q = b ∨ sz ≤ q) (ty := (.object "MetricLogMonitor$Formula")) (v := .ref a2) S hC kf_Since hb (Or.inl rfl) hS rfl 8 (by decide) q_414 rfl hnm rfl (by decide +kernel) rfl rfl (Nat.le_of_ble_eq_true rfl) d_Since_init_57 (fun H locs hb oq hz hS => ?_)
      have hb : va_at K.1 classes (b, .inr (6, [.int (g11 ||| g12), .int g22, .int 0, .int 0, .ref sz, .int lo, .int hi, .ref a1, .ref a2])) H := hb
      have hp1 := hp1.sty oq hnb1
      have hp2 := hp2.sty oq hnb2
      have hsa := hsa.sty oq (fun z => hbs z.symm)
      have hsz := hz.trans hsz
      exact rw_v S hr hk hS d_Since_init_60 ⟨hsz, by rw [if_neg hbr1, if_pos hbr2]; exact hb, hsa⟩
    · refine lv_iconst (v := 1) S.1 S.2.1 d_Since_init_31 (by decide) ?_
      refine lv_goto (tgt := 36) S.1 S.2.1 d_Since_init_32 (by decide) ?_
      refine kw_v (A := fun q => q = b ∨ sz ≤ q) (k_I (rest := []) S (c_Form_init (ci := 6) (sz := sz) l (by decide) (g11 ||| g12) g22 1 (Or.inr rfl) hzb) kc_Form_init ⟨q_410, q_130⟩ rfl rfl rfl ⟨Nat.le_of_ble_eq_true rfl, Nat.le_of_ble_eq_true rfl⟩ hC hS hA ⟨hsz, hb⟩ rfl hl.1 rfl (Nat.le_of_ble_eq_true rfl) ⟨(Nat.le_of_ble_eq_true rfl), (Nat.le_of_ble_eq_true rfl)⟩ d_Since_init_36) hS (fun q h => h) (fun H locs er hz hkp hS => ?_)
      obtain ⟨hsz, hb, hsa⟩ := er
      have hp1 := hp1.cl hkp (fun z => z.elim hnb1 (by have := hp1.lt; omega))
      have hp2 := hp2.cl hkp (fun z => z.elim hnb2 (by have := hp2.lt; omega))
      have hb : va_at K.1 classes (b, .inr (6, [.int (g11 ||| g12), .int g22, .int 1, .int 0, .ref sz, .int 0, .int 0, .null, .null])) H := hb
      refine lv_aload_n S.1 S.2.1 d_Since_init_39 rfl (lv_at hl 0 rfl) ?_
      refine lv_iload_n S.1 S.2.1 d_Since_init_40 rfl (lv_at hl 1 rfl) ?_
      refine f_putF (A := fun q => q = b ∨ sz ≤ q) (ty := .int) (v := .int lo) S hC kf_Since hb (Or.inl rfl) hS rfl 5 (by decide) q_411 rfl hnm rfl (by decide +kernel) rfl rfl (Nat.le_of_ble_eq_true rfl) d_Since_init_41 (fun H locs hb oq hz hS => ?_)
      have hb : va_at K.1 classes (b, .inr (6, [.int (g11 ||| g12), .int g22, .int 1, .int 0, .ref sz, .int lo, .int 0, .null, .null])) H := hb
      have hp1 := hp1.sty oq hnb1
      have hp2 := hp2.sty oq hnb2
      have hsa := hsa.sty oq (fun z => hbs z.symm)
      have hsz := hz.trans hsz
      refine lv_aload_n S.1 S.2.1 d_Since_init_44 rfl (lv_at hl 0 rfl) ?_
      refine lv_iload_n S.1 S.2.1 d_Since_init_45 rfl (lv_at hl 2 rfl) ?_
      refine f_putF (A := fun q => q = b ∨ sz ≤ q) (ty := .int) (v := .int hi) S hC kf_Since hb (Or.inl rfl) hS rfl 6 (by decide) q_412 rfl hnm rfl (by decide +kernel) rfl rfl (Nat.le_of_ble_eq_true rfl) d_Since_init_46 (fun H locs hb oq hz hS => ?_)
      have hb : va_at K.1 classes (b, .inr (6, [.int (g11 ||| g12), .int g22, .int 1, .int 0, .ref sz, .int lo, .int hi, .null, .null])) H := hb
      have hp1 := hp1.sty oq hnb1
      have hp2 := hp2.sty oq hnb2
      have hsa := hsa.sty oq (fun z => hbs z.symm)
      have hsz := hz.trans hsz
      refine lv_aload_n S.1 S.2.1 d_Since_init_49 rfl (lv_at hl 0 rfl) ?_
      refine lv_aload_n S.1 S.2.1 d_Since_init_50 rfl (lv_at hl 3 rfl) ?_
      refine f_putF (A := fun q => q = b ∨ sz ≤ q) (ty := (.object "MetricLogMonitor$Formula")) (v := .ref a1) S hC kf_Since hb (Or.inl rfl) hS rfl 7 (by decide) q_413 rfl hnm rfl (by decide +kernel) rfl rfl (Nat.le_of_ble_eq_true rfl) d_Since_init_51 (fun H locs hb oq hz hS => ?_)
      have hb : va_at K.1 classes (b, .inr (6, [.int (g11 ||| g12), .int g22, .int 1, .int 0, .ref sz, .int lo, .int hi, .ref a1, .null])) H := hb
      have hp1 := hp1.sty oq hnb1
      have hp2 := hp2.sty oq hnb2
      have hsa := hsa.sty oq (fun z => hbs z.symm)
      have hsz := hz.trans hsz
      refine lv_aload_n S.1 S.2.1 d_Since_init_54 rfl (lv_at hl 0 rfl) ?_
      refine lv_aload S.1 S.2.1 d_Since_init_55 (lv_at hl 4 rfl) ?_
      refine f_putF (A := fun q => q = b ∨ sz ≤ q) (ty := (.object "MetricLogMonitor$Formula")) (v := .ref a2) S hC kf_Since hb (Or.inl rfl) hS rfl 8 (by decide) q_414 rfl hnm rfl (by decide +kernel) rfl rfl (Nat.le_of_ble_eq_true rfl) d_Since_init_57 (fun H locs hb oq hz hS => ?_)
      have hb : va_at K.1 classes (b, .inr (6, [.int (g11 ||| g12), .int g22, .int 1, .int 0, .ref sz, .int lo, .int hi, .ref a1, .ref a2])) H := hb
      have hp1 := hp1.sty oq hnb1
      have hp2 := hp2.sty oq hnb2
      have hsa := hsa.sty oq (fun z => hbs z.symm)
      have hsz := hz.trans hsz
      exact rw_v S hr hk hS d_Since_init_60 ⟨hsz, by rw [if_neg hbr1, if_neg hbr2]; exact hb, hsa⟩
set_option maxHeartbeats 4000000 in
set_option maxRecDepth 100000 in
theorem c_Until_init (l : Launch) {K : KT} {b sz : Nat}  {a1 c1 sa1 : Nat} {g11 g21 g31 g41 : Int32} {xs1 : List Value} {a2 c2 sa2 : Nat} {g12 g22 g32 g42 : Int32} {xs2 : List Value} (hzb : kz K ≤ b) (lo hi : Int32) (hc1 : c1 < 8) (hnb1 : a1 ≠ b) (hc2 : c2 < 8) (hnb2 : a2 ≠ b) : Met l y_Until_init (Cond.code y_Until_init b_Until_init 5 none :: WALL) { frames := 2, cells := 1, slots := 24, locals := 35 } (pc0 K [.ref b, .int lo, .int hi, .ref a1, .ref a2] (fun H => H.size = sz ∧ va_at K.1 classes (b, .inr (7, [.int 0, .int 0, .int 0, .int 0, .null, .int 0, .int 0, .null, .null])) H ∧ va_at K.1 classes (a1, .inr (c1, .int g11 :: .int g21 :: .int g31 :: .int g41 :: .ref sa1 :: xs1)) H ∧ va_at K.1 classes (a2, .inr (c2, .int g12 :: .int g22 :: .int g32 :: .int g42 :: .ref sa2 :: xs2)) H)) (va_Qv (fun H => H.size = sz + 1 ∧ va_at K.1 classes (b, .inr (7, [.int (g11 ||| g12), .int g22, .int (if g31 = 0 then 0 else if g32 = 0 then 0 else 1), .int 0, .ref sz, .int lo, .int hi, .ref a1, .ref a2])) H ∧ va_at K.1 classes (sz, .inl (kJ K, 24, .inr (.inl (fun _ => 0)))) H) (fun u t => t.heap = u) (fun q => q = b ∨ sz ≤ q)) 1 24 (fun q => q = b ∨ sz ≤ q) := by
  refine met0 (own := "MetricLogMonitor$Until") (by decide) rfl (Nat.le_of_ble_eq_true rfl) (fun p e s m below meth c ls S hr hk hnm hC hH hl => ?_)
  obtain ⟨hsz, hb, hp1, hp2⟩ := hH
  have hl : lv_has ls 5 [(0, .ref b), (1, .int lo), (2, .int hi), (3, .ref a1), (4, .ref a2)] := hl
  have hS : va_S (fun q => q = b ∨ sz ≤ q) s.heap s.heap [] := va_S.rf
  have hA : ∀ q, (fun q => q = b ∨ sz ≤ q) q → kz K ≤ q := fun q h => h.elim (fun z => by rw [z]; exact hzb) (fun z => by have := hC.2.2.2.2.2.2.1; omega)
  have hbs : b ≠ sz := hb.apt hsz.symm
  refine lv_aload_n S.1 S.2.1 d_Until_init_0 rfl (lv_at hl 0 rfl) ?_
  refine lv_aload_n S.1 S.2.1 d_Until_init_1 rfl (lv_at hl 3 rfl) ?_
  refine fm_get (v := .int g11) S hC hc1 0 (by decide) hp1 q_141  rfl d_Until_init_2 ?_
  refine lv_aload S.1 S.2.1 d_Until_init_5 (lv_at hl 4 rfl) ?_
  refine fm_get (v := .int g12) S hC hc2 0 (by decide) hp2 q_141  rfl d_Until_init_7 ?_
  refine lv_ior S.1 S.2.1 d_Until_init_10 ?_
  refine lv_aload S.1 S.2.1 d_Until_init_11 (lv_at hl 4 rfl) ?_
  refine fm_get (v := .int g22) S hC hc2 1 (by decide) hp2 q_147  rfl d_Until_init_13 ?_
  refine lv_aload_n S.1 S.2.1 d_Until_init_16 rfl (lv_at hl 3 rfl) ?_
  refine fm_get (v := .int g31) S hC hc1 2 (by decide) hp1 q_155  rfl d_Until_init_17 ?_
  refine lv_if_eq (tgt := 35) S.1 S.2.1 d_Until_init_20 (by decide) (fun hbr1 => ?_) (fun hbr1 => ?_)
  · refine lv_iconst (v := 0) S.1 S.2.1 d_Until_init_35 (by decide) ?_
    refine kw_v (A := fun q => q = b ∨ sz ≤ q) (k_I (rest := []) S (c_Form_init (ci := 7) (sz := sz) l (by decide) (g11 ||| g12) g22 0 (Or.inl rfl) hzb) kc_Form_init ⟨q_438, q_130⟩ rfl rfl rfl ⟨Nat.le_of_ble_eq_true rfl, Nat.le_of_ble_eq_true rfl⟩ hC hS hA ⟨hsz, hb⟩ rfl hl.1 rfl (Nat.le_of_ble_eq_true rfl) ⟨(Nat.le_of_ble_eq_true rfl), (Nat.le_of_ble_eq_true rfl)⟩ d_Until_init_36) hS (fun q h => h) (fun H locs er hz hkp hS => ?_)
    obtain ⟨hsz, hb, hsa⟩ := er
    have hp1 := hp1.cl hkp (fun z => z.elim hnb1 (by have := hp1.lt; omega))
    have hp2 := hp2.cl hkp (fun z => z.elim hnb2 (by have := hp2.lt; omega))
    have hb : va_at K.1 classes (b, .inr (7, [.int (g11 ||| g12), .int g22, .int 0, .int 0, .ref sz, .int 0, .int 0, .null, .null])) H := hb
    refine lv_aload_n S.1 S.2.1 d_Until_init_39 rfl (lv_at hl 0 rfl) ?_
    refine lv_iload_n S.1 S.2.1 d_Until_init_40 rfl (lv_at hl 1 rfl) ?_
    refine f_putF (A := fun q => q = b ∨ sz ≤ q) (ty := .int) (v := .int lo) S hC kf_Until hb (Or.inl rfl) hS rfl 5 (by decide) q_439 rfl hnm rfl (by decide +kernel) rfl rfl (Nat.le_of_ble_eq_true rfl) d_Until_init_41 (fun H locs hb oq hz hS => ?_)
    have hb : va_at K.1 classes (b, .inr (7, [.int (g11 ||| g12), .int g22, .int 0, .int 0, .ref sz, .int lo, .int 0, .null, .null])) H := hb
    have hp1 := hp1.sty oq hnb1
    have hp2 := hp2.sty oq hnb2
    have hsa := hsa.sty oq (fun z => hbs z.symm)
    have hsz := hz.trans hsz
    refine lv_aload_n S.1 S.2.1 d_Until_init_44 rfl (lv_at hl 0 rfl) ?_
    refine lv_iload_n S.1 S.2.1 d_Until_init_45 rfl (lv_at hl 2 rfl) ?_
    refine f_putF (A := fun q => q = b ∨ sz ≤ q) (ty := .int) (v := .int hi) S hC kf_Until hb (Or.inl rfl) hS rfl 6 (by decide) q_440 rfl hnm rfl (by decide +kernel) rfl rfl (Nat.le_of_ble_eq_true rfl) d_Until_init_46 (fun H locs hb oq hz hS => ?_)
    have hb : va_at K.1 classes (b, .inr (7, [.int (g11 ||| g12), .int g22, .int 0, .int 0, .ref sz, .int lo, .int hi, .null, .null])) H := hb
    have hp1 := hp1.sty oq hnb1
    have hp2 := hp2.sty oq hnb2
    have hsa := hsa.sty oq (fun z => hbs z.symm)
    have hsz := hz.trans hsz
    refine lv_aload_n S.1 S.2.1 d_Until_init_49 rfl (lv_at hl 0 rfl) ?_
    refine lv_aload_n S.1 S.2.1 d_Until_init_50 rfl (lv_at hl 3 rfl) ?_
    refine f_putF (A := fun q => q = b ∨ sz ≤ q) (ty := (.object "MetricLogMonitor$Formula")) (v := .ref a1) S hC kf_Until hb (Or.inl rfl) hS rfl 7 (by decide) q_441 rfl hnm rfl (by decide +kernel) rfl rfl (Nat.le_of_ble_eq_true rfl) d_Until_init_51 (fun H locs hb oq hz hS => ?_)
    have hb : va_at K.1 classes (b, .inr (7, [.int (g11 ||| g12), .int g22, .int 0, .int 0, .ref sz, .int lo, .int hi, .ref a1, .null])) H := hb
    have hp1 := hp1.sty oq hnb1
    have hp2 := hp2.sty oq hnb2
    have hsa := hsa.sty oq (fun z => hbs z.symm)
    have hsz := hz.trans hsz
    refine lv_aload_n S.1 S.2.1 d_Until_init_54 rfl (lv_at hl 0 rfl) ?_
    refine lv_aload S.1 S.2.1 d_Until_init_55 (lv_at hl 4 rfl) ?_
    refine f_putF (A := fun q => q = b ∨ sz ≤ q) (ty := (.object "MetricLogMonitor$Formula")) (v := .ref a2) S hC kf_Until hb (Or.inl rfl) hS rfl 8 (by decide) q_442 rfl hnm rfl (by decide +kernel) rfl rfl (Nat.le_of_ble_eq_true rfl) d_Until_init_57 (fun H locs hb oq hz hS => ?_)
    have hb : va_at K.1 classes (b, .inr (7, [.int (g11 ||| g12), .int g22, .int 0, .int 0, .ref sz, .int lo, .int hi, .ref a1, .ref a2])) H := hb
    have hp1 := hp1.sty oq hnb1
    have hp2 := hp2.sty oq hnb2
    have hsa := hsa.sty oq (fun z => hbs z.symm)
    have hsz := hz.trans hsz
    exact rw_v S hr hk hS d_Until_init_60 ⟨hsz, by rw [if_pos hbr1]; exact hb, hsa⟩
  · refine lv_aload S.1 S.2.1 d_Until_init_23 (lv_at hl 4 rfl) ?_
    refine fm_get (v := .int g32) S hC hc2 2 (by decide) hp2 q_155  rfl d_Until_init_25 ?_
    refine lv_if_eq (tgt := 35) S.1 S.2.1 d_Until_init_28 (by decide) (fun hbr2 => ?_) (fun hbr2 => ?_)
    · refine lv_iconst (v := 0) S.1 S.2.1 d_Until_init_35 (by decide) ?_
      refine kw_v (A := fun q => q = b ∨ sz ≤ q) (k_I (rest := []) S (c_Form_init (ci := 7) (sz := sz) l (by decide) (g11 ||| g12) g22 0 (Or.inl rfl) hzb) kc_Form_init ⟨q_438, q_130⟩ rfl rfl rfl ⟨Nat.le_of_ble_eq_true rfl, Nat.le_of_ble_eq_true rfl⟩ hC hS hA ⟨hsz, hb⟩ rfl hl.1 rfl (Nat.le_of_ble_eq_true rfl) ⟨(Nat.le_of_ble_eq_true rfl), (Nat.le_of_ble_eq_true rfl)⟩ d_Until_init_36) hS (fun q h => h) (fun H locs er hz hkp hS => ?_)
      obtain ⟨hsz, hb, hsa⟩ := er
      have hp1 := hp1.cl hkp (fun z => z.elim hnb1 (by have := hp1.lt; omega))
      have hp2 := hp2.cl hkp (fun z => z.elim hnb2 (by have := hp2.lt; omega))
      have hb : va_at K.1 classes (b, .inr (7, [.int (g11 ||| g12), .int g22, .int 0, .int 0, .ref sz, .int 0, .int 0, .null, .null])) H := hb
      refine lv_aload_n S.1 S.2.1 d_Until_init_39 rfl (lv_at hl 0 rfl) ?_
      refine lv_iload_n S.1 S.2.1 d_Until_init_40 rfl (lv_at hl 1 rfl) ?_
      refine f_putF (A := fun q => q = b ∨ sz ≤ q) (ty := .int) (v := .int lo) S hC kf_Until hb (Or.inl rfl) hS rfl 5 (by decide) q_439 rfl hnm rfl (by decide +kernel) rfl rfl (Nat.le_of_ble_eq_true rfl) d_Until_init_41 (fun H locs hb oq hz hS => ?_)
      have hb : va_at K.1 classes (b, .inr (7, [.int (g11 ||| g12), .int g22, .int 0, .int 0, .ref sz, .int lo, .int 0, .null, .null])) H := hb
      have hp1 := hp1.sty oq hnb1
      have hp2 := hp2.sty oq hnb2
      have hsa := hsa.sty oq (fun z => hbs z.symm)
      have hsz := hz.trans hsz
      refine lv_aload_n S.1 S.2.1 d_Until_init_44 rfl (lv_at hl 0 rfl) ?_
      refine lv_iload_n S.1 S.2.1 d_Until_init_45 rfl (lv_at hl 2 rfl) ?_
      refine f_putF (A := fun q => q = b ∨ sz ≤ q) (ty := .int) (v := .int hi) S hC kf_Until hb (Or.inl rfl) hS rfl 6 (by decide) q_440 rfl hnm rfl (by decide +kernel) rfl rfl (Nat.le_of_ble_eq_true rfl) d_Until_init_46 (fun H locs hb oq hz hS => ?_)
      have hb : va_at K.1 classes (b, .inr (7, [.int (g11 ||| g12), .int g22, .int 0, .int 0, .ref sz, .int lo, .int hi, .null, .null])) H := hb
      have hp1 := hp1.sty oq hnb1
      have hp2 := hp2.sty oq hnb2
      have hsa := hsa.sty oq (fun z => hbs z.symm)
      have hsz := hz.trans hsz
      refine lv_aload_n S.1 S.2.1 d_Until_init_49 rfl (lv_at hl 0 rfl) ?_
      refine lv_aload_n S.1 S.2.1 d_Until_init_50 rfl (lv_at hl 3 rfl) ?_
      refine f_putF (A := fun q => q = b ∨ sz ≤ q) (ty := (.object "MetricLogMonitor$Formula")) (v := .ref a1) S hC kf_Until hb (Or.inl rfl) hS rfl 7 (by decide) q_441 rfl hnm rfl (by decide +kernel) rfl rfl (Nat.le_of_ble_eq_true rfl) d_Until_init_51 (fun H locs hb oq hz hS => ?_)
      have hb : va_at K.1 classes (b, .inr (7, [.int (g11 ||| g12), .int g22, .int 0, .int 0, .ref sz, .int lo, .int hi, .ref a1, .null])) H := hb
      have hp1 := hp1.sty oq hnb1
      have hp2 := hp2.sty oq hnb2
      have hsa := hsa.sty oq (fun z => hbs z.symm)
      have hsz := hz.trans hsz
      refine lv_aload_n S.1 S.2.1 d_Until_init_54 rfl (lv_at hl 0 rfl) ?_
      refine lv_aload S.1 S.2.1 d_Until_init_55 (lv_at hl 4 rfl) ?_
      refine f_putF (A := fun q => q = b ∨ sz ≤ q) (ty := (.object "MetricLogMonitor$Formula")) (v := .ref a2) S hC kf_Until hb (Or.inl rfl) hS rfl 8 (by decide) q_442 rfl hnm rfl (by decide +kernel) rfl rfl (Nat.le_of_ble_eq_true rfl) d_Until_init_57 (fun H locs hb oq hz hS => ?_)
      have hb : va_at K.1 classes (b, .inr (7, [.int (g11 ||| g12), .int g22, .int 0, .int 0, .ref sz, .int lo, .int hi, .ref a1, .ref a2])) H := hb
      have hp1 := hp1.sty oq hnb1
      have hp2 := hp2.sty oq hnb2
      have hsa := hsa.sty oq (fun z => hbs z.symm)
      have hsz := hz.trans hsz
      exact rw_v S hr hk hS d_Until_init_60 ⟨hsz, by rw [if_neg hbr1, if_pos hbr2]; exact hb, hsa⟩
    · refine lv_iconst (v := 1) S.1 S.2.1 d_Until_init_31 (by decide) ?_
      refine lv_goto (tgt := 36) S.1 S.2.1 d_Until_init_32 (by decide) ?_
      refine kw_v (A := fun q => q = b ∨ sz ≤ q) (k_I (rest := []) S (c_Form_init (ci := 7) (sz := sz) l (by decide) (g11 ||| g12) g22 1 (Or.inr rfl) hzb) kc_Form_init ⟨q_438, q_130⟩ rfl rfl rfl ⟨Nat.le_of_ble_eq_true rfl, Nat.le_of_ble_eq_true rfl⟩ hC hS hA ⟨hsz, hb⟩ rfl hl.1 rfl (Nat.le_of_ble_eq_true rfl) ⟨(Nat.le_of_ble_eq_true rfl), (Nat.le_of_ble_eq_true rfl)⟩ d_Until_init_36) hS (fun q h => h) (fun H locs er hz hkp hS => ?_)
      obtain ⟨hsz, hb, hsa⟩ := er
      have hp1 := hp1.cl hkp (fun z => z.elim hnb1 (by have := hp1.lt; omega))
      have hp2 := hp2.cl hkp (fun z => z.elim hnb2 (by have := hp2.lt; omega))
      have hb : va_at K.1 classes (b, .inr (7, [.int (g11 ||| g12), .int g22, .int 1, .int 0, .ref sz, .int 0, .int 0, .null, .null])) H := hb
      refine lv_aload_n S.1 S.2.1 d_Until_init_39 rfl (lv_at hl 0 rfl) ?_
      refine lv_iload_n S.1 S.2.1 d_Until_init_40 rfl (lv_at hl 1 rfl) ?_
      refine f_putF (A := fun q => q = b ∨ sz ≤ q) (ty := .int) (v := .int lo) S hC kf_Until hb (Or.inl rfl) hS rfl 5 (by decide) q_439 rfl hnm rfl (by decide +kernel) rfl rfl (Nat.le_of_ble_eq_true rfl) d_Until_init_41 (fun H locs hb oq hz hS => ?_)
      have hb : va_at K.1 classes (b, .inr (7, [.int (g11 ||| g12), .int g22, .int 1, .int 0, .ref sz, .int lo, .int 0, .null, .null])) H := hb
      have hp1 := hp1.sty oq hnb1
      have hp2 := hp2.sty oq hnb2
      have hsa := hsa.sty oq (fun z => hbs z.symm)
      have hsz := hz.trans hsz
      refine lv_aload_n S.1 S.2.1 d_Until_init_44 rfl (lv_at hl 0 rfl) ?_
      refine lv_iload_n S.1 S.2.1 d_Until_init_45 rfl (lv_at hl 2 rfl) ?_
      refine f_putF (A := fun q => q = b ∨ sz ≤ q) (ty := .int) (v := .int hi) S hC kf_Until hb (Or.inl rfl) hS rfl 6 (by decide) q_440 rfl hnm rfl (by decide +kernel) rfl rfl (Nat.le_of_ble_eq_true rfl) d_Until_init_46 (fun H locs hb oq hz hS => ?_)
      have hb : va_at K.1 classes (b, .inr (7, [.int (g11 ||| g12), .int g22, .int 1, .int 0, .ref sz, .int lo, .int hi, .null, .null])) H := hb
      have hp1 := hp1.sty oq hnb1
      have hp2 := hp2.sty oq hnb2
      have hsa := hsa.sty oq (fun z => hbs z.symm)
      have hsz := hz.trans hsz
      refine lv_aload_n S.1 S.2.1 d_Until_init_49 rfl (lv_at hl 0 rfl) ?_
      refine lv_aload_n S.1 S.2.1 d_Until_init_50 rfl (lv_at hl 3 rfl) ?_
      refine f_putF (A := fun q => q = b ∨ sz ≤ q) (ty := (.object "MetricLogMonitor$Formula")) (v := .ref a1) S hC kf_Until hb (Or.inl rfl) hS rfl 7 (by decide) q_441 rfl hnm rfl (by decide +kernel) rfl rfl (Nat.le_of_ble_eq_true rfl) d_Until_init_51 (fun H locs hb oq hz hS => ?_)
      have hb : va_at K.1 classes (b, .inr (7, [.int (g11 ||| g12), .int g22, .int 1, .int 0, .ref sz, .int lo, .int hi, .ref a1, .null])) H := hb
      have hp1 := hp1.sty oq hnb1
      have hp2 := hp2.sty oq hnb2
      have hsa := hsa.sty oq (fun z => hbs z.symm)
      have hsz := hz.trans hsz
      refine lv_aload_n S.1 S.2.1 d_Until_init_54 rfl (lv_at hl 0 rfl) ?_
      refine lv_aload S.1 S.2.1 d_Until_init_55 (lv_at hl 4 rfl) ?_
      refine f_putF (A := fun q => q = b ∨ sz ≤ q) (ty := (.object "MetricLogMonitor$Formula")) (v := .ref a2) S hC kf_Until hb (Or.inl rfl) hS rfl 8 (by decide) q_442 rfl hnm rfl (by decide +kernel) rfl rfl (Nat.le_of_ble_eq_true rfl) d_Until_init_57 (fun H locs hb oq hz hS => ?_)
      have hb : va_at K.1 classes (b, .inr (7, [.int (g11 ||| g12), .int g22, .int 1, .int 0, .ref sz, .int lo, .int hi, .ref a1, .ref a2])) H := hb
      have hp1 := hp1.sty oq hnb1
      have hp2 := hp2.sty oq hnb2
      have hsa := hsa.sty oq (fun z => hbs z.symm)
      have hsz := hz.trans hsz
      exact rw_v S hr hk hS d_Until_init_60 ⟨hsz, by rw [if_neg hbr1, if_neg hbr2]; exact hb, hsa⟩
