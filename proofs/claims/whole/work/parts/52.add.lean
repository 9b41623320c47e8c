/-! a list grows; add -/
section
variable {p : Program} {l : Launch} {e : Env} {R : Room} {s : State} {m : MethodId} {args : Array Value} {below : List Frame} {meth : Method} {c : Code} {H : Heap} {locs : List Loc} {cells slots : Nat} {Q : State → Prop} {pc : Nat} {ls : Array Slot} {rest : List Value}
theorem tpr {x y : Nat} (h : x = y) (k : W p l e R s m args below meth c H locs cells slots Q (F0 m pc ls (.ref y :: rest))) : W p l e R s m args below meth c H locs cells slots Q (F0 m pc ls (.ref x :: rest)) := h ▸ k
end
set_option maxHeartbeats 4000000 in
set_option maxRecDepth 100000 in
theorem c_AL_grow_b (l : Launch) {K : KT} {lst sz : Nat} {md : Int32} (hzl : kz K ≤ lst) : Met l y_AL_grow (Cond.code y_AL_grow b_AL_grow 4 (some (Jvm.ClassFile.FieldType.array (Jvm.ClassFile.FieldType.object "java/lang/Object"))) :: WALL) { frames := 1, cells := 1, slots := 15, locals := 14 } (pc0 K [.ref lst, .int (nI 1)] (fun H => H.size = sz ∧ va_at K.1 classes (lst, .inr (10, [.int md, .ref (kte K), .int (nI 0)])) H)) (va_Qq (fun r H => r = some sz ∧ va_at K.1 classes (lst, .inr (10, [.int md, .ref sz, .int (nI 0)])) H ∧ va_at K.1 classes (sz, .inl (kO K, 10, .inr (.inr (.inr (.inr (fun _ => none)))))) H) (fun u t => t.heap = u) (fun q => q = lst ∨ sz ≤ q)) 1 15 (fun q => q = lst ∨ sz ≤ q) := by
  refine met0 (own := "java/util/ArrayList") (by decide) rfl (Nat.le_of_ble_eq_true rfl) (fun p e s m below meth c ls S hr hk hnm hC hH hl => ?_)
  obtain ⟨hsz, ha⟩ := hH
  have hl : lv_has ls 4 [(0, .ref lst), (1, .int (nI 1))] := hl
  have hS : va_S (fun q => q = lst ∨ sz ≤ q) s.heap s.heap [] := va_S.rf
  have hA : ∀ q, (fun q => q = lst ∨ sz ≤ q) q → kz K ≤ q := fun q h => h.elim (fun z => by rw [z]; exact hzl) (fun z => by have := hC.2.2.2.2.2.2.1; omega)
  refine lv_aload_n S.1 S.2.1 d_AL_grow_0 rfl (lv_at hl 0 rfl) ?_
  refine o_get (v := .ref (kte K)) S hC kf_AL ha rfl 1 (by decide) q_45 rfl d_AL_grow_1 ?_
  refine va_tlen (v := nI 0) (A := fun q => q = lst ∨ sz ≤ q) S.1 S.2.1 (hC.2.2.2.2.2.1.narrow hA) hS rfl d_AL_grow_4 ?_
  refine lv_istore_n S.1 S.2.1 d_AL_grow_5 rfl hl (by decide) rfl (fun ls hl => ?_)
  have hl : lv_has ls 4 [(2, .int (nI 0)), (0, .ref lst), (1, .int (nI 1))] := hl
  refine lv_iload_n S.1 S.2.1 d_AL_grow_6 rfl (lv_at hl 0 rfl) ?_
  refine lv_if_gt (tgt := 20) S.1 S.2.1 d_AL_grow_7 (by decide) (fun hx9 => absurd hx9 (by decide)) (fun _ => ?_)
  refine lv_aload_n S.1 S.2.1 d_AL_grow_10 rfl (lv_at hl 1 rfl) ?_
  refine o_get (v := .ref (kte K)) S hC kf_AL ha rfl 1 (by decide) q_45 rfl d_AL_grow_11 ?_
  refine va_gets (C := "java/util/ArrayList") (n := "DEFAULTCAPACITY_EMPTY_ELEMENTDATA") (d := "[Ljava/lang/Object;") (ref := "java/util/ArrayList") (A := fun q => q = lst ∨ sz ≤ q) S.1 S.2.1 (hC.2.2.2.2.1.narrow hA) hS S.2.2.2.1 (S.2.2.2.2 _ q_43) (fun _ h9 => h9) d_AL_grow_14 ?_
  refine lv_acmp_eq (rx := some (kte K)) (ry := some (kte K)) (tgt := 45) S.1 S.2.1 d_AL_grow_17 (by decide) (fun _ => ?_) (fun h => absurd rfl h)
  refine lv_aload_n S.1 S.2.1 d_AL_grow_45 rfl (lv_at hl 1 rfl) ?_
  refine lv_bipush (v := 10) S.1 S.2.1 d_AL_grow_46 (by decide) ?_
  refine lv_iload_n S.1 S.2.1 d_AL_grow_48 rfl (lv_at hl 2 rfl) ?_
  refine va_mmax (rest := [.ref lst]) S.1 S.2.1 (by rw [S.2.2.1]; exact hl.1.symm) S.2.2.2.1 (S.2.2.2.2 _ q_245) (S.2.2.2.2 _ q_208) (S.2.2.2.2 _ q_10) (S.2.2.2.2 _ q_209) (by exact Nat.le_of_ble_eq_true rfl) (by exact Nat.le_of_ble_eq_true rfl) (by exact Nat.le_of_ble_eq_true rfl) (by exact Nat.le_of_ble_eq_true rfl) d_AL_grow_49 ?_
  refine tpi (y := 10) (by decide) ?_
  refine f_newQ (A := fun q => q = lst ∨ sz ≤ q) (N' := 10) S hC q_246 hS (by decide) (by decide) (by decide) (Nat.le_of_ble_eq_true rfl) (Nat.le_of_ble_eq_true rfl) d_AL_grow_52 (fun q H hq0 hn o1 hz hS => ?_)
  have hq : q = sz := hq0.trans hsz
  clear hq0
  subst q
  have ne_ha := ha.apt hsz.symm
  have ha := ha.nw o1
  have hsz : H.size = sz + 1 := by omega
  refine lv_dup_x1 S.1 S.2.1 d_AL_grow_55 rfl rfl ?_
  refine f_put (A := fun q => q = lst ∨ sz ≤ q) (ty := (.array (.object "java/lang/Object"))) (v := .ref sz) S hC kf_AL ha (Or.inl rfl) hS rfl 1 (by decide) q_45 rfl (by decide +kernel) rfl rfl (Nat.le_of_ble_eq_true rfl) d_AL_grow_56 (fun H locs ha oq hz hS => ?_)
  have ha : va_at K.1 classes (lst, .inr (10, [.int md, .ref sz, .int (nI 0)])) H := ha
  have hn := hn.sty oq (fun z => ne_ha z.symm)
  refine W.widen (k := 1) (n := 15) (by decide) (by decide) ?_
  exact rw_q (r := some sz) (Or.inr ⟨_, rfl⟩) S hr hk hS d_AL_grow_59 ⟨rfl, ha, hn⟩
set_option maxHeartbeats 4000000 in
set_option maxRecDepth 100000 in
theorem c_AL_grow_c (l : Launch) {K : KT} {lst els sz : Nat} {md : Int32} {fE : Nat → Option Nat} (hzl : kz K ≤ lst) (hze : kz K ≤ els) (hle : lst ≠ els) : Met l y_AL_grow (Cond.code y_AL_grow b_AL_grow 4 (some (Jvm.ClassFile.FieldType.array (Jvm.ClassFile.FieldType.object "java/lang/Object"))) :: WALL) { frames := 3, cells := 1, slots := 15, locals := 84 } (pc0 K [.ref lst, .int (nI 11)] (fun H => H.size = sz ∧ va_at K.1 classes (lst, .inr (10, [.int md, .ref els, .int (nI 10)])) H ∧ va_at K.1 classes (els, .inl (kO K, 10, .inr (.inr (.inr (.inr fE))))) H ∧ ∀ i, i < 10 → ∀ y, fE i = some y → ∃ (c : Nat) (fs : List Value), c < 8 ∧ va_at K.1 classes (y, .inr (c, fs)) H)) (va_Qq (fun r H => r = some sz ∧ va_at K.1 classes (lst, .inr (10, [.int md, .ref sz, .int (nI 10)])) H ∧ va_at K.1 classes (sz, .inl (kO K, 15, .inr (.inr (.inr (.inr (va_cpy fE (fun _ => none) 0 0 10)))))) H) (fun u t => t.heap = u) (fun q => q = lst ∨ q = els ∨ sz ≤ q)) 1 15 (fun q => q = lst ∨ q = els ∨ sz ≤ q) := by
  refine met0 (own := "java/util/ArrayList") (by decide) rfl (Nat.le_of_ble_eq_true rfl) (fun p e s m below meth c ls S hr hk hnm hC hH hl => ?_)
  obtain ⟨hsz, ha, he, hob⟩ := hH
  have hl : lv_has ls 4 [(0, .ref lst), (1, .int (nI 11))] := hl
  have hS : va_S (fun q => q = lst ∨ q = els ∨ sz ≤ q) s.heap s.heap [] := va_S.rf
  have hA : ∀ q, (fun q => q = lst ∨ q = els ∨ sz ≤ q) q → kz K ≤ q := fun q h => h.elim (fun z => by rw [z]; exact hzl) (fun h => h.elim (fun z => by rw [z]; exact hze) (fun z => by have := hC.2.2.2.2.2.2.1; omega))
  have hls9 : lst ≠ sz := ha.apt hsz.symm
  refine lv_aload_n S.1 S.2.1 d_AL_grow_0 rfl (lv_at hl 0 rfl) ?_
  refine o_get (v := .ref els) S hC kf_AL ha rfl 1 (by decide) q_45 rfl d_AL_grow_1 ?_
  refine o_alen S hC he d_AL_grow_4 ?_
  refine lv_istore_n S.1 S.2.1 d_AL_grow_5 rfl hl (by decide) rfl (fun ls hl => ?_)
  have hl : lv_has ls 4 [(2, .int (nI 10)), (0, .ref lst), (1, .int (nI 11))] := hl
  refine lv_iload_n S.1 S.2.1 d_AL_grow_6 rfl (lv_at hl 0 rfl) ?_
  refine lv_if_gt (tgt := 20) S.1 S.2.1 d_AL_grow_7 (by decide) (fun _ => ?_) (fun hx9 => absurd (by decide) hx9)
  refine lv_iload_n S.1 S.2.1 d_AL_grow_20 rfl (lv_at hl 0 rfl) ?_
  refine lv_iload_n S.1 S.2.1 d_AL_grow_21 rfl (lv_at hl 2 rfl) ?_
  refine lv_iload_n S.1 S.2.1 d_AL_grow_22 rfl (lv_at hl 0 rfl) ?_
  refine lv_isub S.1 S.2.1 d_AL_grow_23 ?_
  refine tpi (y := 1) (by decide) ?_
  refine lv_iload_n S.1 S.2.1 d_AL_grow_24 rfl (lv_at hl 0 rfl) ?_
  refine lv_iconst (v := 1) S.1 S.2.1 d_AL_grow_25 (by decide) ?_
  refine lv_ishr S.1 S.2.1 d_AL_grow_26 ?_
  refine tpi (y := 5) (by decide) ?_
  refine kSi (rest := []) S (c_ArraysSupport_newLength l) kc_ArraysSupport_newLength ⟨q_204, q_205⟩ rfl rfl ⟨Nat.le_of_ble_eq_true rfl, Nat.le_of_ble_eq_true rfl⟩ hC hS hA trivial ⟨Nat.zero_le _, Nat.zero_le _⟩ hl.1 rfl rfl (Nat.le_of_ble_eq_true rfl) d_AL_grow_27 (fun r er => ?_)
  subst er
  refine lv_istore_n S.1 S.2.1 d_AL_grow_30 rfl hl (by decide) rfl (fun ls hl => ?_)
  have hl : lv_has ls 4 [(3, .int 15), (2, .int (nI 10)), (0, .ref lst), (1, .int (nI 11))] := hl
  refine lv_aload_n S.1 S.2.1 d_AL_grow_31 rfl (lv_at hl 2 rfl) ?_
  refine lv_aload_n S.1 S.2.1 d_AL_grow_32 rfl (lv_at hl 2 rfl) ?_
  refine o_get (v := .ref els) S hC kf_AL ha rfl 1 (by decide) q_45 rfl d_AL_grow_33 ?_
  refine lv_iload_n S.1 S.2.1 d_AL_grow_36 rfl (lv_at hl 0 rfl) ?_
  refine kw_q (A := fun q => q = lst ∨ q = els ∨ sz ≤ q) (k_S (rest := [.ref lst]) S (c_Arrays_copyOf2 l hze) kc_Arrays_copyOf2 ⟨q_214, q_215⟩ rfl rfl ⟨Nat.le_of_ble_eq_true rfl, Nat.le_of_ble_eq_true rfl⟩ hC hS hA ⟨hsz, he, hob⟩ rfl hl.1 rfl (Nat.le_of_ble_eq_true rfl) ⟨(Nat.le_of_ble_eq_true rfl), (Nat.le_of_ble_eq_true rfl)⟩ d_AL_grow_37) hS (fun q h => Or.inr h) (fun r H locs er hz hkp hS => ?_)
  obtain ⟨e0, -, he, hn⟩ := er
  have ha := ha.cl hkp (fun z => z.elim hle (by have := ha.lt; omega))
  refine tpq e0 ?_
  refine lv_dup_x1 S.1 S.2.1 d_AL_grow_40 rfl rfl ?_
  refine f_put (A := fun q => q = lst ∨ q = els ∨ sz ≤ q) (ty := (.array (.object "java/lang/Object"))) (v := .ref sz) S hC kf_AL ha (Or.inl rfl) hS rfl 1 (by decide) q_45 rfl (by decide +kernel) rfl rfl (Nat.le_of_ble_eq_true rfl) d_AL_grow_41 (fun H locs ha oq hz hS => ?_)
  have ha : va_at K.1 classes (lst, .inr (10, [.int md, .ref sz, .int (nI 10)])) H := ha
  have he := he.sty oq (fun z => hle z.symm)
  have hn := hn.sty oq (fun z => hls9 z.symm)
  exact rw_q (r := some sz) (Or.inr ⟨_, rfl⟩) S hr hk hS d_AL_grow_44 ⟨rfl, ha, hn⟩
set_option maxHeartbeats 4000000 in
set_option maxRecDepth 100000 in
theorem c_AL_grow0_b (l : Launch) {K : KT} {lst sz : Nat} {md : Int32} (hzl : kz K ≤ lst) : Met l y_AL_grow0 (Cond.code y_AL_grow0 b_AL_grow0 1 (some (Jvm.ClassFile.FieldType.array (Jvm.ClassFile.FieldType.object "java/lang/Object"))) :: WALL) { frames := 2, cells := 1, slots := 15, locals := 37 } (pc0 K [.ref lst] (fun H => H.size = sz ∧ va_at K.1 classes (lst, .inr (10, [.int md, .ref (kte K), .int (nI 0)])) H)) (va_Qq (fun r H => r = some sz ∧ va_at K.1 classes (lst, .inr (10, [.int md, .ref sz, .int (nI 0)])) H ∧ va_at K.1 classes (sz, .inl (kO K, 10, .inr (.inr (.inr (.inr (fun _ => none)))))) H) (fun u t => t.heap = u) (fun q => q = lst ∨ sz ≤ q)) 1 15 (fun q => q = lst ∨ sz ≤ q) := by
  refine met0 (own := "java/util/ArrayList") (by decide) rfl (Nat.le_of_ble_eq_true rfl) (fun p e s m below meth c ls S hr hk hnm hC hH hl => ?_)
  obtain ⟨hsz, ha⟩ := hH
  have hl : lv_has ls 1 [(0, .ref lst)] := hl
  have hS : va_S (fun q => q = lst ∨ sz ≤ q) s.heap s.heap [] := va_S.rf
  have hA : ∀ q, (fun q => q = lst ∨ sz ≤ q) q → kz K ≤ q := fun q h => h.elim (fun z => by rw [z]; exact hzl) (fun z => by have := hC.2.2.2.2.2.2.1; omega)
  refine lv_aload_n S.1 S.2.1 d_AL_grow0_0 rfl (lv_at hl 0 rfl) ?_
  refine lv_aload_n S.1 S.2.1 d_AL_grow0_1 rfl (lv_at hl 0 rfl) ?_
  refine o_get (v := .int (nI 0)) S hC kf_AL ha rfl 2 (by decide) q_46 rfl d_AL_grow0_2 ?_
  refine lv_iconst (v := 1) S.1 S.2.1 d_AL_grow0_5 (by decide) ?_
  refine lv_iadd S.1 S.2.1 d_AL_grow0_6 ?_
  refine tpi (y := nI 1) (by decide) ?_
  refine kw_q (A := fun q => q = lst ∨ sz ≤ q) (k_V (rest := []) S (c_AL_grow_b l hzl) kc_AL_grow ⟨q_200, q_202, qp_4⟩ rfl rfl ⟨Nat.le_of_ble_eq_true rfl, Nat.le_of_ble_eq_true rfl⟩ hC hS hA ⟨hsz, ha⟩ ⟨10, _, _, _, rfl, ha⟩ rfl hl.1 rfl (Nat.le_of_ble_eq_true rfl) ⟨(Nat.le_of_ble_eq_true rfl), (Nat.le_of_ble_eq_true rfl)⟩ d_AL_grow0_7) hS (fun q h => h) (fun r H locs er hz hkp hS => ?_)
  obtain ⟨e0, ha, hn⟩ := er
  refine tpq e0 ?_
  exact rw_q (r := some sz) (Or.inr ⟨_, rfl⟩) S hr hk hS d_AL_grow0_10 ⟨rfl, ha, hn⟩
set_option maxHeartbeats 4000000 in
set_option maxRecDepth 100000 in
theorem c_AL_grow0_c (l : Launch) {K : KT} {lst els sz : Nat} {md : Int32} {fE : Nat → Option Nat} (hzl : kz K ≤ lst) (hze : kz K ≤ els) (hle : lst ≠ els) : Met l y_AL_grow0 (Cond.code y_AL_grow0 b_AL_grow0 1 (some (Jvm.ClassFile.FieldType.array (Jvm.ClassFile.FieldType.object "java/lang/Object"))) :: WALL) { frames := 4, cells := 1, slots := 15, locals := 107 } (pc0 K [.ref lst] (fun H => H.size = sz ∧ va_at K.1 classes (lst, .inr (10, [.int md, .ref els, .int (nI 10)])) H ∧ va_at K.1 classes (els, .inl (kO K, 10, .inr (.inr (.inr (.inr fE))))) H ∧ ∀ i, i < 10 → ∀ y, fE i = some y → ∃ (c : Nat) (fs : List Value), c < 8 ∧ va_at K.1 classes (y, .inr (c, fs)) H)) (va_Qq (fun r H => r = some sz ∧ va_at K.1 classes (lst, .inr (10, [.int md, .ref sz, .int (nI 10)])) H ∧ va_at K.1 classes (sz, .inl (kO K, 15, .inr (.inr (.inr (.inr (va_cpy fE (fun _ => none) 0 0 10)))))) H) (fun u t => t.heap = u) (fun q => q = lst ∨ q = els ∨ sz ≤ q)) 1 15 (fun q => q = lst ∨ q = els ∨ sz ≤ q) := by
  refine met0 (own := "java/util/ArrayList") (by decide) rfl (Nat.le_of_ble_eq_true rfl) (fun p e s m below meth c ls S hr hk hnm hC hH hl => ?_)
  obtain ⟨hsz, ha, he, hob⟩ := hH
  have hl : lv_has ls 1 [(0, .ref lst)] := hl
  have hS : va_S (fun q => q = lst ∨ q = els ∨ sz ≤ q) s.heap s.heap [] := va_S.rf
  have hA : ∀ q, (fun q => q = lst ∨ q = els ∨ sz ≤ q) q → kz K ≤ q := fun q h => h.elim (fun z => by rw [z]; exact hzl) (fun h => h.elim (fun z => by rw [z]; exact hze) (fun z => by have := hC.2.2.2.2.2.2.1; omega))
  refine lv_aload_n S.1 S.2.1 d_AL_grow0_0 rfl (lv_at hl 0 rfl) ?_
  refine lv_aload_n S.1 S.2.1 d_AL_grow0_1 rfl (lv_at hl 0 rfl) ?_
  refine o_get (v := .int (nI 10)) S hC kf_AL ha rfl 2 (by decide) q_46 rfl d_AL_grow0_2 ?_
  refine lv_iconst (v := 1) S.1 S.2.1 d_AL_grow0_5 (by decide) ?_
  refine lv_iadd S.1 S.2.1 d_AL_grow0_6 ?_
  refine tpi (y := nI 11) (by decide) ?_
  refine kw_q (A := fun q => q = lst ∨ q = els ∨ sz ≤ q) (k_V (rest := []) S (c_AL_grow_c l hzl hze hle) kc_AL_grow ⟨q_200, q_202, qp_4⟩ rfl rfl ⟨Nat.le_of_ble_eq_true rfl, Nat.le_of_ble_eq_true rfl⟩ hC hS hA ⟨hsz, ha, he, hob⟩ ⟨10, _, _, _, rfl, ha⟩ rfl hl.1 rfl (Nat.le_of_ble_eq_true rfl) ⟨(Nat.le_of_ble_eq_true rfl), (Nat.le_of_ble_eq_true rfl)⟩ d_AL_grow0_7) hS (fun q h => h) (fun r H locs er hz hkp hS => ?_)
  obtain ⟨e0, ha, hn⟩ := er
  refine tpq e0 ?_
  exact rw_q (r := some sz) (Or.inr ⟨_, rfl⟩) S hr hk hS d_AL_grow0_10 ⟨rfl, ha, hn⟩
set_option maxHeartbeats 4000000 in
set_option maxRecDepth 100000 in
theorem c_AL_add3_a (l : Launch) {K : KT} {lst els sz x c0 n cap : Nat} {md : Int32} {fE : Nat → Option Nat} {ad : Nat → Nat} {fs0 : List Value} (hc0 : c0 < 8) (hcte : cap = 0 → els = kte K) (hze : 0 < cap → kz K ≤ els) (hzl : kz K ≤ lst) (hle : lst ≠ els) (hxl : x ≠ lst) (hxe : x ≠ els) (hcase : n < cap) : Met l y_AL_add3 (Cond.code y_AL_add3 b_AL_add3 4 none :: WALL) { frames := 5, cells := 1, slots := 15, locals := 127 } (pc0 K [.ref lst, .ref x, .ref els, .int (nI n)] (fun H => H.size = sz ∧ lsOk K lst els md n cap fE ad H ∧ va_at K.1 classes (x, .inr (c0, fs0)) H)) (va_Qv (fun H => ∃ els2 cap2 g, va_at K.1 classes (lst, .inr (10, [.int md, .ref els2, .int (nI (n + 1))])) H ∧ va_at K.1 classes (els2, .inl (kO K, cap2, .inr (.inr (.inr (.inr g))))) H ∧ (∀ k, k < n → g k = fE k) ∧ g n = some x ∧ n + 1 ≤ cap2 ∧ (cap2 = cap ∨ cap2 = 10 ∨ cap2 = 15) ∧ cap2 < 2147483648 ∧ ((els2 = els ∧ cap2 = cap) ∨ els2 = sz)) (fun u t => t.heap = u) (fun q => q = lst ∨ (0 < cap ∧ q = els) ∨ sz ≤ q)) 1 15 (fun q => q = lst ∨ (0 < cap ∧ q = els) ∨ sz ≤ q) := by
  refine met0 (own := "java/util/ArrayList") (by decide) rfl (Nat.le_of_ble_eq_true rfl) (fun p e s m below meth c ls S hr hk hnm hC hH hl => ?_)
  obtain ⟨hsz, hls, hx⟩ := hH
  have hl : lv_has ls 4 [(0, .ref lst), (1, .ref x), (2, .ref els), (3, .int (nI n))] := hl
  have hS : va_S (fun q => q = lst ∨ (0 < cap ∧ q = els) ∨ sz ≤ q) s.heap s.heap [] := va_S.rf
  have hA : ∀ q, (fun q => q = lst ∨ (0 < cap ∧ q = els) ∨ sz ≤ q) q → kz K ≤ q := fun q h => h.elim (fun z => by rw [z]; exact hzl) (fun h => h.elim (fun z => by rw [z.2]; exact hze z.1) (fun z => by have := hC.2.2.2.2.2.2.1; omega))
  have hls9 : lst ≠ sz := hls.1.apt hsz.symm
  have ha := hls.1
  have hcap := hls.2.1
  have hncap := hls.2.2.1
  have he := hls.2.2.2.1 (by omega)
  refine lv_iload_n S.1 S.2.1 d_AL_add3_0 rfl (lv_at hl 3 rfl) ?_
  refine lv_aload_n S.1 S.2.1 d_AL_add3_1 rfl (lv_at hl 2 rfl) ?_
  refine o_alen S hC he d_AL_add3_2 ?_
  refine lv_icmp_ne (tgt := 11) S.1 S.2.1 d_AL_add3_3 (by decide) (fun _ => ?_) (fun hx9 => absurd hx9 (fun z => by have := (nI_eq (by omega) (by omega)).mp z; omega))
  refine lv_aload_n S.1 S.2.1 d_AL_add3_11 rfl (lv_at hl 2 rfl) ?_
  refine lv_iload_n S.1 S.2.1 d_AL_add3_12 rfl (lv_at hl 3 rfl) ?_
  refine lv_aload_n S.1 S.2.1 d_AL_add3_13 rfl (lv_at hl 1 rfl) ?_
  obtain ⟨C1, T1, N1, hcl1, hca1⟩ := fcastO hc0
  refine f_aast (A := fun q => q = lst ∨ (0 < cap ∧ q = els) ∨ sz ≤ q) (j := n) S hC he hx hcl1 hca1 (Or.inr (Or.inl ⟨by omega, rfl⟩)) hS (by omega) (by omega) d_AL_add3_14 (fun H locs he oq hz hS => ?_)
  have ha := ha.sty oq hle
  refine lv_aload_n S.1 S.2.1 d_AL_add3_15 rfl (lv_at hl 0 rfl) ?_
  refine lv_iload_n S.1 S.2.1 d_AL_add3_16 rfl (lv_at hl 3 rfl) ?_
  refine lv_iconst (v := 1) S.1 S.2.1 d_AL_add3_17 (by decide) ?_
  refine lv_iadd S.1 S.2.1 d_AL_add3_18 ?_
  refine tpi (y := nI (n + 1)) (nI_1 n) ?_
  refine f_put (A := fun q => q = lst ∨ (0 < cap ∧ q = els) ∨ sz ≤ q) (ty := .int) (v := .int (nI (n + 1))) S hC kf_AL ha (Or.inl rfl) hS rfl 2 (by decide) q_46 rfl (by decide +kernel) rfl rfl (Nat.le_of_ble_eq_true rfl) d_AL_add3_19 (fun H locs ha oq hz hS => ?_)
  have ha : va_at K.1 classes (lst, .inr (10, [.int md, .ref els, .int (nI (n + 1))])) H := ha
  have he := he.sty oq (fun z => hle z.symm)
  refine W.widen (k := 1) (n := 15) (by decide) (by decide) ?_
  exact rw_v S hr hk hS d_AL_add3_22 ⟨els, cap, _, ha, he, fun k hk => va_up_ne _ _ (by omega), va_up_self _ _ _, by omega, Or.inl rfl, hcap, Or.inl ⟨rfl, rfl⟩⟩
set_option maxHeartbeats 4000000 in
set_option maxRecDepth 100000 in
theorem c_AL_add3_b (l : Launch) {K : KT} {lst els sz x c0 n cap : Nat} {md : Int32} {fE : Nat → Option Nat} {ad : Nat → Nat} {fs0 : List Value} (hc0 : c0 < 8) (hcte : cap = 0 → els = kte K) (hze : 0 < cap → kz K ≤ els) (hzl : kz K ≤ lst) (hle : lst ≠ els) (hxl : x ≠ lst) (hxe : x ≠ els) (hcase : n = 0 ∧ cap = 0) : Met l y_AL_add3 (Cond.code y_AL_add3 b_AL_add3 4 none :: WALL) { frames := 5, cells := 1, slots := 15, locals := 127 } (pc0 K [.ref lst, .ref x, .ref els, .int (nI n)] (fun H => H.size = sz ∧ lsOk K lst els md n cap fE ad H ∧ va_at K.1 classes (x, .inr (c0, fs0)) H)) (va_Qv (fun H => ∃ els2 cap2 g, va_at K.1 classes (lst, .inr (10, [.int md, .ref els2, .int (nI (n + 1))])) H ∧ va_at K.1 classes (els2, .inl (kO K, cap2, .inr (.inr (.inr (.inr g))))) H ∧ (∀ k, k < n → g k = fE k) ∧ g n = some x ∧ n + 1 ≤ cap2 ∧ (cap2 = cap ∨ cap2 = 10 ∨ cap2 = 15) ∧ cap2 < 2147483648 ∧ ((els2 = els ∧ cap2 = cap) ∨ els2 = sz)) (fun u t => t.heap = u) (fun q => q = lst ∨ (0 < cap ∧ q = els) ∨ sz ≤ q)) 1 15 (fun q => q = lst ∨ (0 < cap ∧ q = els) ∨ sz ≤ q) := by
  refine met0 (own := "java/util/ArrayList") (by decide) rfl (Nat.le_of_ble_eq_true rfl) (fun p e s m below meth c ls S hr hk hnm hC hH hl => ?_)
  obtain ⟨hsz, hls, hx⟩ := hH
  have hl : lv_has ls 4 [(0, .ref lst), (1, .ref x), (2, .ref els), (3, .int (nI n))] := hl
  have hS : va_S (fun q => q = lst ∨ (0 < cap ∧ q = els) ∨ sz ≤ q) s.heap s.heap [] := va_S.rf
  have hA : ∀ q, (fun q => q = lst ∨ (0 < cap ∧ q = els) ∨ sz ≤ q) q → kz K ≤ q := fun q h => h.elim (fun z => by rw [z]; exact hzl) (fun h => h.elim (fun z => by rw [z.2]; exact hze z.1) (fun z => by have := hC.2.2.2.2.2.2.1; omega))
  have hls9 : lst ≠ sz := hls.1.apt hsz.symm
  have ha := hls.1
  have hcap := hls.2.1
  have hncap := hls.2.2.1
  refine lv_iload_n S.1 S.2.1 d_AL_add3_0 rfl (lv_at hl 3 rfl) ?_
  refine lv_aload_n S.1 S.2.1 d_AL_add3_1 rfl (lv_at hl 2 rfl) ?_
  refine tpr (hcte hcase.2) ?_
  refine va_tlen (v := nI 0) (A := fun q => q = lst ∨ (0 < cap ∧ q = els) ∨ sz ≤ q) S.1 S.2.1 (hC.2.2.2.2.2.1.narrow hA) hS rfl d_AL_add3_2 ?_
  refine lv_icmp_ne (tgt := 11) S.1 S.2.1 d_AL_add3_3 (by decide) (fun hx9 => absurd (by rw [hcase.1]) hx9) (fun _ => ?_)
  refine lv_aload_n S.1 S.2.1 d_AL_add3_6 rfl (lv_at hl 0 rfl) ?_
  refine kw_q (A := fun q => q = lst ∨ (0 < cap ∧ q = els) ∨ sz ≤ q) (k_V (rest := []) S (c_AL_grow0_b l hzl) kc_AL_grow0 ⟨q_196, q_198, qp_3⟩ rfl rfl ⟨Nat.le_of_ble_eq_true rfl, Nat.le_of_ble_eq_true rfl⟩ hC hS hA ⟨hsz, by have h := ha; rw [hcte hcase.2, hcase.1] at h; exact h⟩ ⟨10, _, _, _, rfl, ha⟩ rfl hl.1 rfl (Nat.le_of_ble_eq_true rfl) ⟨(Nat.le_of_ble_eq_true rfl), (Nat.le_of_ble_eq_true rfl)⟩ d_AL_add3_7) hS (fun q h => h.elim Or.inl (fun z => Or.inr (Or.inr z))) (fun r H locs er hz hkp hS => ?_)
  obtain ⟨e0, ha, he⟩ := er
  have ha : va_at K.1 classes (lst, .inr (10, [.int md, .ref sz, .int (nI n)])) H := by rw [hcase.1]; exact ha
  have hx := hx.cl hkp (fun z => z.elim hxl (by have := hx.lt; omega))
  refine tpq e0 ?_
  refine lv_astore_n S.1 S.2.1 d_AL_add3_10 rfl hl (by decide) rfl (fun ls hl => ?_)
  have hl : lv_has ls 4 [(2, .ref sz), (0, .ref lst), (1, .ref x), (3, .int (nI n))] := hl
  refine lv_aload_n S.1 S.2.1 d_AL_add3_11 rfl (lv_at hl 0 rfl) ?_
  refine lv_iload_n S.1 S.2.1 d_AL_add3_12 rfl (lv_at hl 3 rfl) ?_
  refine lv_aload_n S.1 S.2.1 d_AL_add3_13 rfl (lv_at hl 2 rfl) ?_
  obtain ⟨C1, T1, N1, hcl1, hca1⟩ := fcastO hc0
  refine f_aast (A := fun q => q = lst ∨ (0 < cap ∧ q = els) ∨ sz ≤ q) (j := n) S hC he hx hcl1 hca1 (Or.inr (Or.inr (Nat.le_refl _))) hS (by omega) (by omega) d_AL_add3_14 (fun H locs he oq hz hS => ?_)
  have ha := ha.sty oq hls9
  refine lv_aload_n S.1 S.2.1 d_AL_add3_15 rfl (lv_at hl 1 rfl) ?_
  refine lv_iload_n S.1 S.2.1 d_AL_add3_16 rfl (lv_at hl 3 rfl) ?_
  refine lv_iconst (v := 1) S.1 S.2.1 d_AL_add3_17 (by decide) ?_
  refine lv_iadd S.1 S.2.1 d_AL_add3_18 ?_
  refine tpi (y := nI (n + 1)) (nI_1 n) ?_
  refine f_put (A := fun q => q = lst ∨ (0 < cap ∧ q = els) ∨ sz ≤ q) (ty := .int) (v := .int (nI (n + 1))) S hC kf_AL ha (Or.inl rfl) hS rfl 2 (by decide) q_46 rfl (by decide +kernel) rfl rfl (Nat.le_of_ble_eq_true rfl) d_AL_add3_19 (fun H locs ha oq hz hS => ?_)
  have ha : va_at K.1 classes (lst, .inr (10, [.int md, .ref sz, .int (nI (n + 1))])) H := ha
  have he := he.sty oq (fun z => hls9 z.symm)
  refine W.widen (k := 1) (n := 15) (by decide) (by decide) ?_
  exact rw_v S hr hk hS d_AL_add3_22 ⟨sz, 10, _, ha, he, fun k hk => absurd hk (by omega), va_up_self _ _ _, by omega, Or.inr (Or.inl rfl), by decide, Or.inr rfl⟩
set_option maxHeartbeats 4000000 in
set_option maxRecDepth 100000 in
theorem c_AL_add3_c (l : Launch) {K : KT} {lst els sz x c0 n cap : Nat} {md : Int32} {fE : Nat → Option Nat} {ad : Nat → Nat} {fs0 : List Value} (hc0 : c0 < 8) (hcte : cap = 0 → els = kte K) (hze : 0 < cap → kz K ≤ els) (hzl : kz K ≤ lst) (hle : lst ≠ els) (hxl : x ≠ lst) (hxe : x ≠ els) (hcase : n = 10 ∧ cap = 10) : Met l y_AL_add3 (Cond.code y_AL_add3 b_AL_add3 4 none :: WALL) { frames := 5, cells := 1, slots := 15, locals := 127 } (pc0 K [.ref lst, .ref x, .ref els, .int (nI n)] (fun H => H.size = sz ∧ lsOk K lst els md n cap fE ad H ∧ va_at K.1 classes (x, .inr (c0, fs0)) H)) (va_Qv (fun H => ∃ els2 cap2 g, va_at K.1 classes (lst, .inr (10, [.int md, .ref els2, .int (nI (n + 1))])) H ∧ va_at K.1 classes (els2, .inl (kO K, cap2, .inr (.inr (.inr (.inr g))))) H ∧ (∀ k, k < n → g k = fE k) ∧ g n = some x ∧ n + 1 ≤ cap2 ∧ (cap2 = cap ∨ cap2 = 10 ∨ cap2 = 15) ∧ cap2 < 2147483648 ∧ ((els2 = els ∧ cap2 = cap) ∨ els2 = sz)) (fun u t => t.heap = u) (fun q => q = lst ∨ (0 < cap ∧ q = els) ∨ sz ≤ q)) 1 15 (fun q => q = lst ∨ (0 < cap ∧ q = els) ∨ sz ≤ q) := by
  refine met0 (own := "java/util/ArrayList") (by decide) rfl (Nat.le_of_ble_eq_true rfl) (fun p e s m below meth c ls S hr hk hnm hC hH hl => ?_)
  obtain ⟨hsz, hls, hx⟩ := hH
  have hl : lv_has ls 4 [(0, .ref lst), (1, .ref x), (2, .ref els), (3, .int (nI n))] := hl
  have hS : va_S (fun q => q = lst ∨ (0 < cap ∧ q = els) ∨ sz ≤ q) s.heap s.heap [] := va_S.rf
  have hA : ∀ q, (fun q => q = lst ∨ (0 < cap ∧ q = els) ∨ sz ≤ q) q → kz K ≤ q := fun q h => h.elim (fun z => by rw [z]; exact hzl) (fun h => h.elim (fun z => by rw [z.2]; exact hze z.1) (fun z => by have := hC.2.2.2.2.2.2.1; omega))
  have hls9 : lst ≠ sz := hls.1.apt hsz.symm
  have ha := hls.1
  have hcap := hls.2.1
  have hncap := hls.2.2.1
  have he0 := hls.2.2.2.1 (by omega)
  refine lv_iload_n S.1 S.2.1 d_AL_add3_0 rfl (lv_at hl 3 rfl) ?_
  refine lv_aload_n S.1 S.2.1 d_AL_add3_1 rfl (lv_at hl 2 rfl) ?_
  refine o_alen S hC he0 d_AL_add3_2 ?_
  refine lv_icmp_ne (tgt := 11) S.1 S.2.1 d_AL_add3_3 (by decide) (fun hx9 => absurd (by rw [hcase.1, hcase.2]) hx9) (fun _ => ?_)
  refine lv_aload_n S.1 S.2.1 d_AL_add3_6 rfl (lv_at hl 0 rfl) ?_
  refine kw_q (A := fun q => q = lst ∨ (0 < cap ∧ q = els) ∨ sz ≤ q) (k_V (rest := []) S (c_AL_grow0_c (els := els) (fE := fE) l hzl (hze (by omega)) hle) kc_AL_grow0 ⟨q_196, q_198, qp_3⟩ rfl rfl ⟨Nat.le_of_ble_eq_true rfl, Nat.le_of_ble_eq_true rfl⟩ hC hS hA ⟨hsz, by have h := ha; rw [hcase.1] at h; exact h, by have h := hls.2.2.2.1 (by omega); rw [hcase.2] at h; exact h, fun i hi y hy => by obtain ⟨e1, c1, fs1, h1, h2⟩ := hls.2.2.2.2 i (by omega); rw [e1] at hy; cases hy; exact ⟨c1, fs1, h1, h2⟩⟩ ⟨10, _, _, _, rfl, ha⟩ rfl hl.1 rfl (Nat.le_of_ble_eq_true rfl) ⟨(Nat.le_of_ble_eq_true rfl), (Nat.le_of_ble_eq_true rfl)⟩ d_AL_add3_7) hS (fun q h => h.elim Or.inl (fun h => h.elim (fun z => Or.inr (Or.inl ⟨by omega, z⟩)) (fun z => Or.inr (Or.inr z)))) (fun r H locs er hz hkp hS => ?_)
  obtain ⟨e0, ha, he⟩ := er
  have ha : va_at K.1 classes (lst, .inr (10, [.int md, .ref sz, .int (nI n)])) H := by rw [hcase.1]; exact ha
  have hx := hx.cl hkp (fun z => z.elim hxl (fun z => z.elim hxe (by have := hx.lt; omega)))
  refine tpq e0 ?_
  refine lv_astore_n S.1 S.2.1 d_AL_add3_10 rfl hl (by decide) rfl (fun ls hl => ?_)
  have hl : lv_has ls 4 [(2, .ref sz), (0, .ref lst), (1, .ref x), (3, .int (nI n))] := hl
  refine lv_aload_n S.1 S.2.1 d_AL_add3_11 rfl (lv_at hl 0 rfl) ?_
  refine lv_iload_n S.1 S.2.1 d_AL_add3_12 rfl (lv_at hl 3 rfl) ?_
  refine lv_aload_n S.1 S.2.1 d_AL_add3_13 rfl (lv_at hl 2 rfl) ?_
  obtain ⟨C1, T1, N1, hcl1, hca1⟩ := fcastO hc0
  refine f_aast (A := fun q => q = lst ∨ (0 < cap ∧ q = els) ∨ sz ≤ q) (j := n) S hC he hx hcl1 hca1 (Or.inr (Or.inr (Nat.le_refl _))) hS (by omega) (by omega) d_AL_add3_14 (fun H locs he oq hz hS => ?_)
  have ha := ha.sty oq hls9
  refine lv_aload_n S.1 S.2.1 d_AL_add3_15 rfl (lv_at hl 1 rfl) ?_
  refine lv_iload_n S.1 S.2.1 d_AL_add3_16 rfl (lv_at hl 3 rfl) ?_
  refine lv_iconst (v := 1) S.1 S.2.1 d_AL_add3_17 (by decide) ?_
  refine lv_iadd S.1 S.2.1 d_AL_add3_18 ?_
  refine tpi (y := nI (n + 1)) (nI_1 n) ?_
  refine f_put (A := fun q => q = lst ∨ (0 < cap ∧ q = els) ∨ sz ≤ q) (ty := .int) (v := .int (nI (n + 1))) S hC kf_AL ha (Or.inl rfl) hS rfl 2 (by decide) q_46 rfl (by decide +kernel) rfl rfl (Nat.le_of_ble_eq_true rfl) d_AL_add3_19 (fun H locs ha oq hz hS => ?_)
  have ha : va_at K.1 classes (lst, .inr (10, [.int md, .ref sz, .int (nI (n + 1))])) H := ha
  have he := he.sty oq (fun z => hls9 z.symm)
  refine W.widen (k := 1) (n := 15) (by decide) (by decide) ?_
  exact rw_v S hr hk hS d_AL_add3_22 ⟨sz, 15, _, ha, he, fun k hk => (va_up_ne _ _ (by omega)).trans (pk_cpy_in (by omega) (by omega) |>.trans (by congr 1; omega)), va_up_self _ _ _, by omega, Or.inr (Or.inr rfl), by decide, Or.inr rfl⟩
theorem c_AL_add3 (l : Launch) {K : KT} {lst els sz x c0 n cap : Nat} {md : Int32} {fE : Nat → Option Nat} {ad : Nat → Nat} {fs0 : List Value} (hc0 : c0 < 8) (hcte : cap = 0 → els = kte K) (hze : 0 < cap → kz K ≤ els) (hzl : kz K ≤ lst) (hle : lst ≠ els) (hxl : x ≠ lst) (hxe : x ≠ els) (hcase : n < cap ∨ (n = 0 ∧ cap = 0) ∨ (n = 10 ∧ cap = 10)) : Met l y_AL_add3 (Cond.code y_AL_add3 b_AL_add3 4 none :: WALL) { frames := 5, cells := 1, slots := 15, locals := 127 } (pc0 K [.ref lst, .ref x, .ref els, .int (nI n)] (fun H => H.size = sz ∧ lsOk K lst els md n cap fE ad H ∧ va_at K.1 classes (x, .inr (c0, fs0)) H)) (va_Qv (fun H => ∃ els2 cap2 g, va_at K.1 classes (lst, .inr (10, [.int md, .ref els2, .int (nI (n + 1))])) H ∧ va_at K.1 classes (els2, .inl (kO K, cap2, .inr (.inr (.inr (.inr g))))) H ∧ (∀ k, k < n → g k = fE k) ∧ g n = some x ∧ n + 1 ≤ cap2 ∧ (cap2 = cap ∨ cap2 = 10 ∨ cap2 = 15) ∧ cap2 < 2147483648 ∧ ((els2 = els ∧ cap2 = cap) ∨ els2 = sz)) (fun u t => t.heap = u) (fun q => q = lst ∨ (0 < cap ∧ q = els) ∨ sz ≤ q)) 1 15 (fun q => q = lst ∨ (0 < cap ∧ q = els) ∨ sz ≤ q) := by
  rcases hcase with h | h | h
  · exact c_AL_add3_a l hc0 hcte hze hzl hle hxl hxe h
  · exact c_AL_add3_b l hc0 hcte hze hzl hle hxl hxe h
  · exact c_AL_add3_c l hc0 hcte hze hzl hle hxl hxe h
set_option maxHeartbeats 4000000 in
set_option maxRecDepth 100000 in
theorem c_AL_add (l : Launch) {K : KT} {lst els sz x c0 n cap : Nat} {md : Int32} {fE : Nat → Option Nat} {ad : Nat → Nat} {fs0 : List Value} (hc0 : c0 < 8) (hcte : cap = 0 → els = kte K) (hze : 0 < cap → kz K ≤ els) (hzl : kz K ≤ lst) (hle : lst ≠ els) (hxl : x ≠ lst) (hxe : x ≠ els) (hal : ∀ k, k < n → ad k ≠ lst) (hcase : n < cap ∨ (n = 0 ∧ cap = 0) ∨ (n = 10 ∧ cap = 10)) : Met l y_AL_add (Cond.code y_AL_add b_AL_add 2 (some Jvm.ClassFile.FieldType.boolean) :: WALL) { frames := 6, cells := 1, slots := 15, locals := 150 } (pc0 K [.ref lst, .ref x] (fun H => H.size = sz ∧ lsOk K lst els md n cap fE ad H ∧ va_at K.1 classes (x, .inr (c0, fs0)) H)) (va_Qi (fun r H => r = 1 ∧ ∃ els2 cap2 g, va_at K.1 classes (lst, .inr (10, [.int (md + 1), .ref els2, .int (nI (n + 1))])) H ∧ va_at K.1 classes (els2, .inl (kO K, cap2, .inr (.inr (.inr (.inr g))))) H ∧ (∀ k, k < n → g k = fE k) ∧ g n = some x ∧ n + 1 ≤ cap2 ∧ (cap2 = cap ∨ cap2 = 10 ∨ cap2 = 15) ∧ cap2 < 2147483648 ∧ ((els2 = els ∧ cap2 = cap) ∨ els2 = sz)) (fun u t => t.heap = u) (fun q => q = lst ∨ (0 < cap ∧ q = els) ∨ sz ≤ q)) 1 15 (fun q => q = lst ∨ (0 < cap ∧ q = els) ∨ sz ≤ q) := by
  refine met0 (own := "java/util/ArrayList") (by decide) rfl (Nat.le_of_ble_eq_true rfl) (fun p e s m below meth c ls S hr hk hnm hC hH hl => ?_)
  obtain ⟨hsz, hls, hx⟩ := hH
  have hl : lv_has ls 2 [(0, .ref lst), (1, .ref x)] := hl
  have hS : va_S (fun q => q = lst ∨ (0 < cap ∧ q = els) ∨ sz ≤ q) s.heap s.heap [] := va_S.rf
  have hA : ∀ q, (fun q => q = lst ∨ (0 < cap ∧ q = els) ∨ sz ≤ q) q → kz K ≤ q := fun q h => h.elim (fun z => by rw [z]; exact hzl) (fun h => h.elim (fun z => by rw [z.2]; exact hze z.1) (fun z => by have := hC.2.2.2.2.2.2.1; omega))
  have ha := hls.1
  refine lv_aload_n S.1 S.2.1 d_AL_add_0 rfl (lv_at hl 0 rfl) ?_
  refine lv_dup S.1 S.2.1 d_AL_add_1 rfl ?_
  refine va_get (D := K.1) (cl := classes) (ci := 10) (v := .int md) (C := "java/util/ArrayList") (T := F_AL) (N := 3) S.1 S.2.1 S.2.2.2.2 kf_AL.1 S.2.2.2.1 hC.1 (vs ha) 0 rfl rfl 0 (by decide) (S.2.2.2.2 _ q_48) (fun x9 h9 => u_same (S.2.2.2.2 _ q_49) x9 h9) rfl d_AL_add_2 ?_
  refine lv_iconst (v := 1) S.1 S.2.1 d_AL_add_5 (by decide) ?_
  refine lv_iadd S.1 S.2.1 d_AL_add_6 ?_
  refine f_putM (A := fun q => q = lst ∨ (0 < cap ∧ q = els) ∨ sz ≤ q) (x := md + 1) S hC ha (Or.inl rfl) hS q_48 d_AL_add_7 (fun H locs ha oq hz hS => ?_)
  have hls : lsOk K lst els (md + 1) n cap fE ad H := ⟨ha, hls.2.1, hls.2.2.1, fun hc => (hls.2.2.2.1 hc).sty oq (fun z => hle z.symm), fun k hk => ⟨(hls.2.2.2.2 k hk).1, by obtain ⟨-, c1, fs1, h1, h2⟩ := hls.2.2.2.2 k hk; exact ⟨c1, fs1, h1, h2.sty oq (hal k hk)⟩⟩⟩
  have hx := hx.sty oq hxl
  have hsz := hz.trans hsz
  refine lv_aload_n S.1 S.2.1 d_AL_add_10 rfl (lv_at hl 0 rfl) ?_
  refine lv_aload_n S.1 S.2.1 d_AL_add_11 rfl (lv_at hl 1 rfl) ?_
  refine lv_aload_n S.1 S.2.1 d_AL_add_12 rfl (lv_at hl 0 rfl) ?_
  refine o_get (v := .ref els) S hC kf_AL ha rfl 1 (by decide) q_45 rfl d_AL_add_13 ?_
  refine lv_aload_n S.1 S.2.1 d_AL_add_16 rfl (lv_at hl 0 rfl) ?_
  refine o_get (v := .int (nI n)) S hC kf_AL ha rfl 2 (by decide) q_46 rfl d_AL_add_17 ?_
  refine kw_v (A := fun q => q = lst ∨ (0 < cap ∧ q = els) ∨ sz ≤ q) (k_V (rest := []) S (c_AL_add3 (sz := sz) (ad := ad) l hc0 hcte hze hzl hle hxl hxe hcase) kc_AL_add3 ⟨q_192, q_194, qp_2⟩ rfl rfl ⟨Nat.le_of_ble_eq_true rfl, Nat.le_of_ble_eq_true rfl⟩ hC hS hA ⟨hsz, hls, hx⟩ ⟨10, _, _, _, rfl, ha⟩ rfl hl.1 rfl (Nat.le_of_ble_eq_true rfl) ⟨(Nat.le_of_ble_eq_true rfl), (Nat.le_of_ble_eq_true rfl)⟩ d_AL_add_20) hS (fun q h => h) (fun H locs er hz hkp hS => ?_)
  refine lv_iconst (v := 1) S.1 S.2.1 d_AL_add_23 (by decide) ?_
  exact rw_z S hr hk rfl hS d_AL_add_24 ⟨rfl, er⟩
set_option maxHeartbeats 4000000 in
set_option maxRecDepth 100000 in
theorem c_M_add (l : Launch) {K : KT} {mon lg : Nat} {wat : Int32} {lst els sz x c0 n cap : Nat} {md : Int32} {fE : Nat → Option Nat} {ad : Nat → Nat} {fs0 : List Value} (hc0 : c0 < 8) (hcte : cap = 0 → els = kte K) (hze : 0 < cap → kz K ≤ els) (hzl : kz K ≤ lst) (hle : lst ≠ els) (hxl : x ≠ lst) (hxe : x ≠ els) (hal : ∀ k, k < n → ad k ≠ lst) (hcase : n < cap ∨ (n = 0 ∧ cap = 0) ∨ (n = 10 ∧ cap = 10)) (hml : mon ≠ lst) (hme : mon ≠ els) : Met l y_M_add (Cond.code y_M_add b_M_add 2 (some Jvm.ClassFile.FieldType.int) :: WALL) { frames := 7, cells := 1, slots := 15, locals := 171 } (pc0 K [.ref mon, .ref x] (fun H => va_at K.1 classes (mon, .inr (8, [.ref lst, .ref lg, .int wat])) H ∧ H.size = sz ∧ lsOk K lst els md n cap fE ad H ∧ va_at K.1 classes (x, .inr (c0, fs0)) H)) (va_Qi (fun r H => r = nI n ∧ va_at K.1 classes (mon, .inr (8, [.ref lst, .ref lg, .int wat])) H ∧ ∃ els2 cap2 g, va_at K.1 classes (lst, .inr (10, [.int (md + 1), .ref els2, .int (nI (n + 1))])) H ∧ va_at K.1 classes (els2, .inl (kO K, cap2, .inr (.inr (.inr (.inr g))))) H ∧ (∀ k, k < n → g k = fE k) ∧ g n = some x ∧ n + 1 ≤ cap2 ∧ (cap2 = cap ∨ cap2 = 10 ∨ cap2 = 15) ∧ cap2 < 2147483648 ∧ ((els2 = els ∧ cap2 = cap) ∨ els2 = sz)) (fun u t => t.heap = u) (fun q => q = lst ∨ (0 < cap ∧ q = els) ∨ sz ≤ q)) 1 15 (fun q => q = lst ∨ (0 < cap ∧ q = els) ∨ sz ≤ q) := by
  refine met0 (own := "MetricLogMonitor") (by decide) rfl (Nat.le_of_ble_eq_true rfl) (fun p e s m below meth c ls S hr hk hnm hC hH hl => ?_)
  obtain ⟨hm, hsz, hls, hx⟩ := hH
  have hl : lv_has ls 2 [(0, .ref mon), (1, .ref x)] := hl
  have hS : va_S (fun q => q = lst ∨ (0 < cap ∧ q = els) ∨ sz ≤ q) s.heap s.heap [] := va_S.rf
  have hA : ∀ q, (fun q => q = lst ∨ (0 < cap ∧ q = els) ∨ sz ≤ q) q → kz K ≤ q := fun q h => h.elim (fun z => by rw [z]; exact hzl) (fun h => h.elim (fun z => by rw [z.2]; exact hze z.1) (fun z => by have := hC.2.2.2.2.2.2.1; omega))
  have ha := hls.1
  refine lv_aload_n S.1 S.2.1 d_M_add_0 rfl (lv_at hl 0 rfl) ?_
  refine o_get (v := .ref lst) S hC kf_M hm rfl 0 (by decide) q_84 rfl d_M_add_1 ?_
  refine lv_aload_n S.1 S.2.1 d_M_add_4 rfl (lv_at hl 1 rfl) ?_
  refine kw_i (A := fun q => q = lst ∨ (0 < cap ∧ q = els) ∨ sz ≤ q) (k_V (rest := []) S (c_AL_add (sz := sz) (ad := ad) l hc0 hcte hze hzl hle hxl hxe hal hcase) kc_AL_add ⟨q_188, q_189, q_190⟩ rfl rfl ⟨Nat.le_of_ble_eq_true rfl, Nat.le_of_ble_eq_true rfl⟩ hC hS hA ⟨hsz, hls, hx⟩ ⟨10, _, _, _, rfl, ha⟩ rfl hl.1 rfl (Nat.le_of_ble_eq_true rfl) ⟨(Nat.le_of_ble_eq_true rfl), (Nat.le_of_ble_eq_true rfl)⟩ d_M_add_5) hS (fun q h => h) (fun r H locs er hz hkp hS => ?_)
  obtain ⟨-, els2, cap2, g, ha, he, e1⟩ := er
  have hm := hm.cl hkp (fun z => z.elim hml (fun z => z.elim (fun z => hme z.2) (by have := hm.lt; omega)))
  refine lv_pop S.1 S.2.1 d_M_add_8 rfl ?_
  refine lv_aload_n S.1 S.2.1 d_M_add_9 rfl (lv_at hl 0 rfl) ?_
  refine o_get (v := .ref lst) S hC kf_M hm rfl 0 (by decide) q_84 rfl d_M_add_10 ?_
  refine kVi (rest := []) S (c_AL_size (n := n + 1) l) kc_AL_size ⟨q_102, q_103, q_104⟩ rfl rfl ⟨Nat.le_of_ble_eq_true rfl, Nat.le_of_ble_eq_true rfl⟩ hC hS hA ha ⟨10, _, _, _, rfl, ha⟩ ⟨(Nat.le_of_ble_eq_true rfl), (Nat.le_of_ble_eq_true rfl)⟩ hl.1 rfl rfl (Nat.le_of_ble_eq_true rfl) d_M_add_13 (fun r er => ?_)
  subst er
  refine lv_iconst (v := 1) S.1 S.2.1 d_M_add_16 (by decide) ?_
  refine lv_isub S.1 S.2.1 d_M_add_17 ?_
  refine tpi (y := nI n) (nI_pred n) ?_
  exact rw_i S hr hk hS d_M_add_18 ⟨rfl, hm, els2, cap2, g, ha, he, e1⟩
