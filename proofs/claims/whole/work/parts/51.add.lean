/-! adding to the list: with room, with the first array, with a larger copy of the first one -/
theorem csO_0 : Cond.castable "MetricLogMonitor$Atom" "java/lang/Object" ∈ NALL := qn_918
theorem csO_1 : Cond.castable "MetricLogMonitor$Comparison" "java/lang/Object" ∈ NALL := qn_919
theorem csO_2 : Cond.castable "MetricLogMonitor$Not" "java/lang/Object" ∈ NALL := qn_920
theorem csO_3 : Cond.castable "MetricLogMonitor$Join" "java/lang/Object" ∈ NALL := qn_921
theorem csO_4 : Cond.castable "MetricLogMonitor$Exists" "java/lang/Object" ∈ NALL := qn_922
theorem csO_5 : Cond.castable "MetricLogMonitor$Previous" "java/lang/Object" ∈ NALL := qn_923
theorem csO_6 : Cond.castable "MetricLogMonitor$Since" "java/lang/Object" ∈ NALL := qn_924
theorem csO_7 : Cond.castable "MetricLogMonitor$Until" "java/lang/Object" ∈ NALL := qn_925
def isFo (c : Nat) : Prop := ∃ (C : String) (T : u_T) (N : Nat), classes[c]? = some (C, T, N) ∧ Cond.castable C "java/lang/Object" ∈ NALL
theorem fcastO {c : Nat} (hc : c < 8) : isFo c := lt8 (P := isFo) ⟨_, _, _, rfl, csO_0⟩ ⟨_, _, _, rfl, csO_1⟩ ⟨_, _, _, rfl, csO_2⟩ ⟨_, _, _, rfl, csO_3⟩ ⟨_, _, _, rfl, csO_4⟩ ⟨_, _, _, rfl, csO_5⟩ ⟨_, _, _, rfl, csO_6⟩ ⟨_, _, _, rfl, csO_7⟩ hc
section
variable {p : Program} {l : Launch} {e : Env} {R : Room} {s : State} {m : MethodId} {args : Array Value} {below : List Frame} {meth : Method} {c : Code} {H : Heap} {locs : List Loc} {cells slots : Nat} {Q : State → Prop}
variable {cc : ByteArray} {pc nL : Nat} {ls : Array Slot} {st rest : List Value} {K : KT} {own : String} {A : Nat → Prop} {a : Nat} {H0 : Heap}
theorem o_alen {n : Nat} {f : Nat → Option Nat} (S : CallFix p m c cc nL s args WALL own) (hC : CX K s) (h : va_at K.1 classes (a, .inl (kO K, n, .inr (.inr (.inr (.inr f))))) H) (hdg : decode cc pc = .ok (.arraylength, 1))
    (kk : W p l e R s m args below meth c H locs cells slots Q (F0 m (pc + 1) ls (.int (nI n) :: rest))) : W p l e R s m args below meth c H locs cells slots Q (F0 m pc ls (.ref a :: rest)) :=
  va_alen S.1 S.2.1 hC.1 (vs h) 0 3 rfl (ty := .object "java/lang/Object") rfl rfl hdg kk
theorem f_newQ {N' : Nat} {n : Int32} {index : Nat} (S : CallFix p m c cc nL s args WALL own) (hC : CX K s) (hcl : Cond.classLink own index "java/lang/Object" ∈ WALL) (hS : va_S A H0 H locs) (hn : ¬ n < 0) (hN : n.toNatClampNeg = N') (hbytes : N' * 4 ≤ 536870912) (hcells : cells + 1 ≤ R.cells) (hslots : slots + N' ≤ R.slots) (hdg : decode cc pc = .ok (.anewarray index, 3))
    (kk : ∀ (q : Nat) (H1 : Heap), q = H.size → va_at K.1 classes (q, .inl (kO K, N', .inr (.inr (.inr (.inr (fun _ => none)))))) H1 → (∀ x : Nat, x < H.size → H1[x]? = H[x]?) → H1.size = H.size + 1 → va_S A H0 H1 locs →
      W p l e R s m args below meth c H1 locs (cells + 1) (slots + N') Q (F0 m (pc + 3) ls (.ref q :: rest))) : W p l e R s m args below meth c H locs cells slots Q (F0 m pc ls (.int n :: rest)) := by
  subst hN
  refine W.anew S.1 S.2.1 S.2.2.2.1 (S.2.2.2.2 _ hcl) (va_AO.use hC.2.2.2.2.2.2.2.2.2) rfl hdg rfl hn hbytes hcells hslots fun cA kA comp f1 f2 f3 f4 => ?_
  obtain ⟨-, -, -, -, -, g4⟩ := (hC.1.2 3 _ rfl).2
  have e0 : cA = kO K := Option.some.inj (f1.symm.trans g4)
  subst e0
  generalize hH1 : H.push ({ cls := kO K, slots := Array.replicate n.toNatClampNeg .null, vm := .none } : Cell) = H1
  have z1 : H1.size = H.size + 1 := by rw [← hH1, Array.size_push]
  have e1 : H1[H.size]? = some (arrV (kO K) n.toNatClampNeg (fun _ => .null)) := by rw [← hH1, Array.getElem?_push_size, ← arrV_new]
  have o1 : ∀ q : Nat, q < H.size → H1[q]? = H[q]? := fun q hq => by rw [← hH1, Array.getElem?_push, if_neg (Nat.ne_of_lt hq)]
  refine kk H.size H1 rfl ?_ o1 z1 ⟨Nat.le_trans hS.1 (by omega), fun x h1 h2 => (o1 x (Nat.lt_of_lt_of_le h1 hS.1)).trans (hS.2.1 x h1 h2), hS.2.2⟩
  show H1[H.size]? = some (vp_cell _ _)
  rw [vp_cell_q]
  exact e1
theorem any_of {y ci : Nat} {fs : List Value} (hC : CX K s) (hc : ci < 8) (h : va_at K.1 classes (y, .inr (ci, fs)) H) : va_Any "java/lang/Object" s H y := by
  obtain ⟨C, T, N, h1, h2⟩ := fcastO hc
  exact va_rAny (q0 := 0) hC.1 (vs h) rfl h1 (fun comp c0 e1 e2 => vb_asgC (hC.2.1 _ h2) comp c0 e1 e2)
end
theorem vD2 {A : Nat → Prop} {a b : Nat} {e1 e2 : va_E} (ha : A a) (hb : A b) (hne : a ≠ b) : va_D A [(a, e1), (b, e2)] := by
  refine ⟨fun i j x y hx hy hxy => ?_, fun k x hx => ?_⟩
  · rcases (show i = 0 ∨ i = 1 by have := (List.getElem?_eq_some_iff.mp hx).1; simp at this; omega) with rfl | rfl <;> rcases (show j = 0 ∨ j = 1 by have := (List.getElem?_eq_some_iff.mp hy).1; simp at this; omega) with rfl | rfl
    · rfl
    · cases hx; cases hy; exact absurd hxy hne
    · cases hx; cases hy; exact absurd hxy.symm hne
    · rfl
  · rcases (show k = 0 ∨ k = 1 by have := (List.getElem?_eq_some_iff.mp hx).1; simp at this; omega) with rfl | rfl
    · cases hx; exact ha
    · cases hx; exact hb
theorem vP2 {K : KT} {q1 q2 : Nat × va_E} {H : Heap} (h1 : va_at K.1 classes q1 H) (h2 : va_at K.1 classes q2 H) : va_P K.1 classes [q1, q2] H := (vs h1).app (vs h2)
set_option maxHeartbeats 4000000 in
set_option maxRecDepth 100000 in
theorem c_ArraysSupport_newLength (l : Launch) {K : KT}  : Met l y_ArraysSupport_newLength (Cond.code y_ArraysSupport_newLength b_ArraysSupport_newLength 4 (some Jvm.ClassFile.FieldType.int) :: WALL) { frames := 1, cells := 0, slots := 0, locals := 14 } (pc0 K [.int 10, .int 1, .int 5] (fun H => True)) (vp_Si (fun r => r = 15)) 0 0 (fun _ => False) := by
  refine met0 (own := "jdk/internal/util/ArraysSupport") (by decide) rfl (Nat.le_of_ble_eq_true rfl) (fun p e s m below meth c ls S hr hk hnm hC hH hl => ?_)
  have hl : lv_has ls 4 [(0, .int 10), (1, .int 1), (2, .int 5)] := hl
  refine lv_iload_n S.1 S.2.1 d_ArraysSupport_newLength_0 rfl (lv_at hl 0 rfl) ?_
  refine lv_iload_n S.1 S.2.1 d_ArraysSupport_newLength_1 rfl (lv_at hl 1 rfl) ?_
  refine lv_iload_n S.1 S.2.1 d_ArraysSupport_newLength_2 rfl (lv_at hl 2 rfl) ?_
  refine va_mmax (rest := [.int 10]) S.1 S.2.1 (by rw [S.2.2.1]; exact hl.1.symm) S.2.2.2.1 (S.2.2.2.2 _ q_207) (S.2.2.2.2 _ q_208) (S.2.2.2.2 _ q_10) (S.2.2.2.2 _ q_209) (by exact Nat.le_of_ble_eq_true rfl) (by exact Nat.le_of_ble_eq_true rfl) (by exact Nat.le_of_ble_eq_true rfl) (by exact Nat.le_of_ble_eq_true rfl) d_ArraysSupport_newLength_3 ?_
  refine lv_iadd S.1 S.2.1 d_ArraysSupport_newLength_6 ?_
  refine tpi (y := 15) (by decide) ?_
  refine lv_istore_n S.1 S.2.1 d_ArraysSupport_newLength_7 rfl hl (by decide) rfl (fun ls hl => ?_)
  have hl : lv_has ls 4 [(3, .int 15), (0, .int 10), (1, .int 1), (2, .int 5)] := hl
  refine lv_iconst (v := 0) S.1 S.2.1 d_ArraysSupport_newLength_8 (by decide) ?_
  refine lv_iload_n S.1 S.2.1 d_ArraysSupport_newLength_9 rfl (lv_at hl 0 rfl) ?_
  refine lv_icmp_ge (tgt := 21) S.1 S.2.1 d_ArraysSupport_newLength_10 (by decide) (fun hx9 => absurd hx9 (by decide)) (fun _ => ?_)
  refine lv_iload_n S.1 S.2.1 d_ArraysSupport_newLength_13 rfl (lv_at hl 0 rfl) ?_
  refine lv_ldc (v := 2147483639) S.1 S.2.1 S.2.2.2.1 (S.2.2.2.2 _ q_210) d_ArraysSupport_newLength_14 ?_
  refine lv_icmp_gt (tgt := 21) S.1 S.2.1 d_ArraysSupport_newLength_16 (by decide) (fun hx9 => absurd hx9 (by decide)) (fun _ => ?_)
  refine lv_iload_n S.1 S.2.1 d_ArraysSupport_newLength_19 rfl (lv_at hl 0 rfl) ?_
  exact r_i S hr hk d_ArraysSupport_newLength_20 rfl
set_option maxHeartbeats 4000000 in
set_option maxRecDepth 100000 in
theorem c_Arrays_copyOf3 (l : Launch) {K : KT} {els sz : Nat} {fE : Nat → Option Nat} (hze : kz K ≤ els) : Met l y_Arrays_copyOf3 (Cond.code y_Arrays_copyOf3 b_Arrays_copyOf3 4 (some (Jvm.ClassFile.FieldType.array (Jvm.ClassFile.FieldType.object "java/lang/Object"))) :: WALL) { frames := 1, cells := 1, slots := 15, locals := 40 } (pc0 K [.ref els, .int 15, .ref (kmi K)] (fun H => H.size = sz ∧ va_at K.1 classes (els, .inl (kO K, 10, .inr (.inr (.inr (.inr fE))))) H ∧ ∀ i, i < 10 → ∀ y, fE i = some y → ∃ (c : Nat) (fs : List Value), c < 8 ∧ va_at K.1 classes (y, .inr (c, fs)) H)) (va_Qq (fun r H => r = some sz ∧ True ∧ va_at K.1 classes (els, .inl (kO K, 10, .inr (.inr (.inr (.inr fE))))) H ∧ va_at K.1 classes (sz, .inl (kO K, 15, .inr (.inr (.inr (.inr (va_cpy fE (fun _ => none) 0 0 10)))))) H) (fun u t => t.heap = u) (fun q => q = els ∨ sz ≤ q)) 1 15 (fun q => q = els ∨ sz ≤ q) := by
  refine met0 (own := "java/util/Arrays") (by decide) rfl (Nat.le_of_ble_eq_true rfl) (fun p e s m below meth c ls S hr hk hnm hC hH hl => ?_)
  obtain ⟨hsz, he, hob⟩ := hH
  have hl : lv_has ls 4 [(0, .ref els), (1, .int 15), (2, .ref (kmi K))] := hl
  have hS : va_S (fun q => q = els ∨ sz ≤ q) s.heap s.heap [] := va_S.rf
  have hA : ∀ q, (fun q => q = els ∨ sz ≤ q) q → kz K ≤ q := fun q h => h.elim (fun z => by rw [z]; exact hze) (fun z => by have := hC.2.2.2.2.2.2.1; omega)
  refine lv_aload_n S.1 S.2.1 d_Arrays_copyOf3_0 rfl (lv_at hl 2 rfl) ?_
  refine va_ldcM (C := "[Ljava/lang/Object;") S.1 S.2.1 S.2.2.2.1 (S.2.2.2.2 _ q_236) hC.2.2.2.2.2.2.2.1 d_Arrays_copyOf3_1 ?_
  refine lv_acmp_ne (rx := some (kmi K)) (ry := some (kmi K)) (tgt := 13) S.1 S.2.1 d_Arrays_copyOf3_3 (by decide) (fun h => absurd rfl h) (fun _ => ?_)
  refine lv_iload_n S.1 S.2.1 d_Arrays_copyOf3_6 rfl (lv_at hl 1 rfl) ?_
  refine f_newQ (A := fun q => q = els ∨ sz ≤ q) (N' := 15) S hC q_238 hS (by decide) (by decide) (by decide) (Nat.le_of_ble_eq_true rfl) (Nat.le_of_ble_eq_true rfl) d_Arrays_copyOf3_7 (fun q H hq0 hn o1 hz hS => ?_)
  have hq : q = sz := hq0.trans hsz
  clear hq0
  subst q
  have ne_he := he.apt hsz.symm
  have he := he.nw o1
  have hob : ∀ i, i < 10 → ∀ y, fE i = some y → ∃ (c : Nat) (fs : List Value), c < 8 ∧ va_at K.1 classes (y, .inr (c, fs)) H := fun i hi y hy => by obtain ⟨c0, fs0, h1, h2⟩ := hob i hi y hy; exact ⟨c0, fs0, h1, h2.nw o1⟩
  have hsz : H.size = sz + 1 := by omega
  refine lv_goto (tgt := 24) S.1 S.2.1 d_Arrays_copyOf3_10 (by decide) ?_
  refine lv_astore_n S.1 S.2.1 d_Arrays_copyOf3_24 rfl hl (by decide) rfl (fun ls hl => ?_)
  have hl : lv_has ls 4 [(3, .ref sz), (0, .ref els), (1, .int 15), (2, .ref (kmi K))] := hl
  refine lv_aload_n S.1 S.2.1 d_Arrays_copyOf3_25 rfl (lv_at hl 1 rfl) ?_
  refine lv_iconst (v := 0) S.1 S.2.1 d_Arrays_copyOf3_26 (by decide) ?_
  refine lv_aload_n S.1 S.2.1 d_Arrays_copyOf3_27 rfl (lv_at hl 0 rfl) ?_
  refine lv_iconst (v := 0) S.1 S.2.1 d_Arrays_copyOf3_28 (by decide) ?_
  refine lv_aload_n S.1 S.2.1 d_Arrays_copyOf3_29 rfl (lv_at hl 1 rfl) ?_
  refine o_alen S hC he d_Arrays_copyOf3_30 ?_
  refine lv_iload_n S.1 S.2.1 d_Arrays_copyOf3_31 rfl (lv_at hl 2 rfl) ?_
  refine va_mmin (rest := [.int 0, .ref sz, .int 0, .ref els]) S.1 S.2.1 (by rw [S.2.2.1]; exact hl.1.symm) S.2.2.2.1 (S.2.2.2.2 _ q_239) (S.2.2.2.2 _ q_240) (S.2.2.2.2 _ q_10) (S.2.2.2.2 _ q_241) (by exact Nat.le_of_ble_eq_true rfl) (by exact Nat.le_of_ble_eq_true rfl) (by exact Nat.le_of_ble_eq_true rfl) (by exact Nat.le_of_ble_eq_true rfl) d_Arrays_copyOf3_32 ?_
  refine tpi (y := 10) (by decide) ?_
  refine va_copyM (D := K.1) (cl := classes) (A := fun q => q = els ∨ sz ≤ q) (n0 := 10) (n1 := 15) (f := fE) (g := fun _ => none) (E0 := "java/lang/Object") (E1 := "java/lang/Object") (rest := []) S.1 S.2.1 (by rw [S.2.2.1]; exact hl.1.symm) S.2.2.2.1 (S.2.2.2.2 _ q_242) (S.2.2.2.2 _ q_244) (S.2.2.2.2 _ q_243) (S.2.2.2.2 _ q_12) hC.1 (vP2 he hn) (vD2 (Or.inl rfl) (Or.inr (Nat.le_refl _)) ne_he) hS 0 1 3 3 rfl rfl rfl rfl (by decide) (by decide) (by decide) (by decide) (by decide) (fun i hi y hy => by obtain ⟨c0, fs0, h1, h2⟩ := hob i hi y (by rw [← hy]; congr 1; exact (Nat.zero_add i).symm); exact any_of hC h1 h2) (Nat.le_of_ble_eq_true rfl) (by decide) d_Arrays_copyOf3_35 (fun H locs hP _ hS => ?_)
  have he := hP 0 _ rfl
  have hn := hP 1 _ rfl
  refine lv_aload_n S.1 S.2.1 d_Arrays_copyOf3_38 rfl (lv_at hl 0 rfl) ?_
  exact rw_q (r := some sz) (Or.inr ⟨_, rfl⟩) S hr hk hS d_Arrays_copyOf3_39 ⟨rfl, trivial, he, hn⟩
set_option maxHeartbeats 4000000 in
set_option maxRecDepth 100000 in
theorem c_Arrays_copyOf2 (l : Launch) {K : KT} {els sz : Nat} {fE : Nat → Option Nat} (hze : kz K ≤ els) : Met l y_Arrays_copyOf2 (Cond.code y_Arrays_copyOf2 b_Arrays_copyOf2 2 (some (Jvm.ClassFile.FieldType.array (Jvm.ClassFile.FieldType.object "java/lang/Object"))) :: WALL) { frames := 2, cells := 1, slots := 15, locals := 63 } (pc0 K [.ref els, .int 15] (fun H => H.size = sz ∧ va_at K.1 classes (els, .inl (kO K, 10, .inr (.inr (.inr (.inr fE))))) H ∧ ∀ i, i < 10 → ∀ y, fE i = some y → ∃ (c : Nat) (fs : List Value), c < 8 ∧ va_at K.1 classes (y, .inr (c, fs)) H)) (va_Qq (fun r H => r = some sz ∧ True ∧ va_at K.1 classes (els, .inl (kO K, 10, .inr (.inr (.inr (.inr fE))))) H ∧ va_at K.1 classes (sz, .inl (kO K, 15, .inr (.inr (.inr (.inr (va_cpy fE (fun _ => none) 0 0 10)))))) H) (fun u t => t.heap = u) (fun q => q = els ∨ sz ≤ q)) 1 15 (fun q => q = els ∨ sz ≤ q) := by
  refine met0 (own := "java/util/Arrays") (by decide) rfl (Nat.le_of_ble_eq_true rfl) (fun p e s m below meth c ls S hr hk hnm hC hH hl => ?_)
  obtain ⟨hsz, he, hob⟩ := hH
  have hl : lv_has ls 2 [(0, .ref els), (1, .int 15)] := hl
  have hS : va_S (fun q => q = els ∨ sz ≤ q) s.heap s.heap [] := va_S.rf
  have hA : ∀ q, (fun q => q = els ∨ sz ≤ q) q → kz K ≤ q := fun q h => h.elim (fun z => by rw [z]; exact hze) (fun z => by have := hC.2.2.2.2.2.2.1; omega)
  refine lv_aload_n S.1 S.2.1 d_Arrays_copyOf2_0 rfl (lv_at hl 0 rfl) ?_
  refine lv_iload_n S.1 S.2.1 d_Arrays_copyOf2_1 rfl (lv_at hl 1 rfl) ?_
  refine lv_aload_n S.1 S.2.1 d_Arrays_copyOf2_2 rfl (lv_at hl 0 rfl) ?_
  refine va_getC (C := "[Ljava/lang/Object;") (rest := [.int 15, .ref els]) S.1 S.2.1 (by rw [S.2.2.1]; exact hl.1.symm) S.2.2.2.1 (S.2.2.2.2 _ q_217) (va_Dc.use hC.2.2.2.2.2.2.2.2.1) (S.2.2.2.2 _ q_913) (S.2.2.2.2 _ q_218) (S.2.2.2.2 _ q_232) hC.2.2.2.2.2.2.2.1 ⟨_, he, rfl, va_nmO (hC.1.2 3 _ rfl).2 (by decide)⟩ (Nat.le_of_ble_eq_true rfl) (Nat.le_of_ble_eq_true rfl) d_Arrays_copyOf2_3 ?_
  refine kw_q (A := fun q => q = els ∨ sz ≤ q) (k_S (rest := []) S (c_Arrays_copyOf3 l hze) kc_Arrays_copyOf3 ⟨q_233, q_234⟩ rfl rfl ⟨Nat.le_of_ble_eq_true rfl, Nat.le_of_ble_eq_true rfl⟩ hC hS hA ⟨hsz, he, hob⟩ rfl hl.1 rfl (Nat.le_of_ble_eq_true rfl) ⟨(Nat.le_of_ble_eq_true rfl), (Nat.le_of_ble_eq_true rfl)⟩ d_Arrays_copyOf2_6) hS (fun q h => h) (fun r H locs er hz hkp hS => ?_)
  obtain ⟨e0, -, he, hn⟩ := er
  refine tpq e0 ?_
  exact rw_q (r := some sz) (Or.inr ⟨_, rfl⟩) S hr hk hS d_Arrays_copyOf2_9 ⟨rfl, trivial, he, hn⟩
