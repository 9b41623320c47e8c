/-! constructors of the log, of the list, of the monitor -/
set_option maxHeartbeats 4000000 in
set_option maxRecDepth 100000 in
theorem c_Log_init (l : Launch) {K : KT} {lg sz : Nat} (hzb : kz K ≤ lg) : Met l y_Log_init (Cond.code y_Log_init b_Log_init 1 none :: WALL) { frames := 1, cells := 2, slots := 48, locals := 12 } (pc0 K [.ref lg] (fun H => H.size = sz ∧ va_at K.1 classes (lg, .inr (9, [.null, .null, .long 0, .int 0])) H)) (va_Qv (fun H => H.size = sz + 2 ∧ va_at K.1 classes (lg, .inr (9, [.ref sz, .ref (sz + 1), .long 0, .int 0])) H ∧ va_at K.1 classes (sz, .inl (kI K, 24, .inl (fun _ => 0))) H ∧ va_at K.1 classes ((sz + 1), .inl (kJ K, 24, .inr (.inl (fun _ => 0)))) H) (fun u t => t.heap = u) (fun q => q = lg ∨ sz ≤ q)) 2 48 (fun q => q = lg ∨ sz ≤ q) := by
  refine met0 (own := "MetricLogMonitor$Log") (by decide) rfl (Nat.le_of_ble_eq_true rfl) (fun p e s m below meth c ls S hr hk hnm hC hH hl => ?_)
  obtain ⟨hsz, hg⟩ := hH
  have hl : lv_has ls 1 [(0, .ref lg)] := hl
  have hS : va_S (fun q => q = lg ∨ sz ≤ q) s.heap s.heap [] := va_S.rf
  have hA : ∀ q, (fun q => q = lg ∨ sz ≤ q) q → kz K ≤ q := fun q h => h.elim (fun z => by rw [z]; exact hzb) (fun z => by have := hC.2.2.2.2.2.2.1; omega)
  refine lv_aload_n S.1 S.2.1 d_Log_init_0 rfl (lv_at hl 0 rfl) ?_
  refine W.objInit S.1 S.2.1 S.2.2.2.1 (S.2.2.2.2 _ q_62) (S.2.2.2.2 _ q_29) (S.2.2.2.2 _ q_30) rfl (by rw [S.2.2.1]; exact hl.1) rfl d_Log_init_1 (Nat.le_of_ble_eq_true rfl) (Nat.le_of_ble_eq_true rfl) ?_
  refine W.eq (g2 := F0 m 4 ls []) rfl ?_
  refine lv_aload_n S.1 S.2.1 d_Log_init_4 rfl (lv_at hl 0 rfl) ?_
  refine lv_bipush (v := 24) S.1 S.2.1 d_Log_init_5 (by decide) ?_
  refine f_newI (A := fun q => q = lg ∨ sz ≤ q) (N' := 24) S hC q_82 hS (by decide) (by decide) (by decide) (Nat.le_of_ble_eq_true rfl) (Nat.le_of_ble_eq_true rfl) d_Log_init_7 (fun q H hq0 ht o1 hz hS => ?_)
  have hq : q = sz := hq0.trans hsz
  clear hq0
  subst q
  have ne_hg_ht := hg.apt hsz.symm
  have hg := hg.nw o1
  have hsz : H.size = (sz + 1) := by omega
  refine f_putF (A := fun q => q = lg ∨ sz ≤ q) (ty := (.array .int)) (v := .ref sz) S hC kf_Log hg (Or.inl rfl) hS rfl 0 (by decide) q_63 rfl hnm rfl (by decide +kernel) rfl rfl (Nat.le_of_ble_eq_true rfl) d_Log_init_9 (fun H locs hg oq hz hS => ?_)
  have hg : va_at K.1 classes (lg, .inr (9, [.ref sz, .null, .long 0, .int 0])) H := hg
  have ht := ht.sty oq (fun z => ne_hg_ht z.symm)
  have hsz := hz.trans hsz
  refine lv_aload_n S.1 S.2.1 d_Log_init_12 rfl (lv_at hl 0 rfl) ?_
  refine lv_bipush (v := 24) S.1 S.2.1 d_Log_init_13 (by decide) ?_
  refine f_newJ (A := fun q => q = lg ∨ sz ≤ q) (N' := 24) S hC q_83 hS (by decide) (by decide) (by decide) (Nat.le_of_ble_eq_true rfl) (Nat.le_of_ble_eq_true rfl) d_Log_init_15 (fun q H hq0 hq o1 hz hS => ?_)
  have hq : q = (sz + 1) := hq0.trans hsz
  clear hq0
  subst q
  have ne_hg_hq := hg.apt hsz.symm
  have hg := hg.nw o1
  have ne_ht_hq := ht.apt hsz.symm
  have ht := ht.nw o1
  have hsz : H.size = (sz + 2) := by omega
  refine f_putF (A := fun q => q = lg ∨ sz ≤ q) (ty := (.array .long)) (v := .ref (sz + 1)) S hC kf_Log hg (Or.inl rfl) hS rfl 1 (by decide) q_64 rfl hnm rfl (by decide +kernel) rfl rfl (Nat.le_of_ble_eq_true rfl) d_Log_init_17 (fun H locs hg oq hz hS => ?_)
  have hg : va_at K.1 classes (lg, .inr (9, [.ref sz, .ref (sz + 1), .long 0, .int 0])) H := hg
  have ht := ht.sty oq (fun z => ne_hg_ht z.symm)
  have hq := hq.sty oq (fun z => ne_hg_hq z.symm)
  have hsz := hz.trans hsz
  exact rw_v S hr hk hS d_Log_init_20 ⟨hsz, hg, ht, hq⟩
set_option maxHeartbeats 4000000 in
set_option maxRecDepth 100000 in
theorem c_AbsC_init (l : Launch) {K : KT} {b sz : Nat} : Met l y_AbsC_init (Cond.code y_AbsC_init b_AbsC_init 1 none :: WALL) { frames := 1, cells := 0, slots := 0, locals := 12 } (pc0 K [.ref b] (fun H => H.size = sz)) (va_Qv (fun H => H.size = sz) (fun u t => t.heap = u) (fun _ => False)) 0 0 (fun _ => False) := by
  refine met0 (own := "java/util/AbstractCollection") (by decide) rfl (Nat.le_of_ble_eq_true rfl) (fun p e s m below meth c ls S hr hk hnm hC hH hl => ?_)
  have hl : lv_has ls 1 [(0, .ref b)] := hl
  have hS : va_S (fun _ => False) s.heap s.heap [] := va_S.rf
  refine lv_aload_n S.1 S.2.1 d_AbsC_init_0 rfl (lv_at hl 0 rfl) ?_
  refine W.objInit S.1 S.2.1 S.2.2.2.1 (S.2.2.2.2 _ q_42) (S.2.2.2.2 _ q_29) (S.2.2.2.2 _ q_30) rfl (by rw [S.2.2.1]; exact hl.1) rfl d_AbsC_init_1 (Nat.le_of_ble_eq_true rfl) (Nat.le_of_ble_eq_true rfl) ?_
  refine W.eq (g2 := F0 m 4 ls []) rfl ?_
  exact rw_v S hr hk hS d_AbsC_init_4 hH
set_option maxHeartbeats 4000000 in
set_option maxRecDepth 100000 in
theorem c_AbsL_init (l : Launch) {K : KT} {b sz : Nat} (hzb : kz K ≤ b) : Met l y_AbsL_init (Cond.code y_AbsL_init b_AbsL_init 1 none :: WALL) { frames := 2, cells := 0, slots := 0, locals := 32 } (pc0 K [.ref b] (fun H => H.size = sz ∧ va_at K.1 classes (b, .inr (10, [.int 0, .null, .int 0])) H)) (va_Qv (fun H => H.size = sz ∧ va_at K.1 classes (b, .inr (10, [.int 0, .null, .int 0])) H) (fun u t => t.heap = u) (fun q => q = b)) 0 0 (fun q => q = b) := by
  refine met0 (own := "java/util/AbstractList") (by decide) rfl (Nat.le_of_ble_eq_true rfl) (fun p e s m below meth c ls S hr hk hnm hC hH hl => ?_)
  obtain ⟨hsz, hb⟩ := hH
  have hl : lv_has ls 1 [(0, .ref b)] := hl
  have hS : va_S (fun q => q = b) s.heap s.heap [] := va_S.rf
  have hA : ∀ q, (fun q => q = b) q → kz K ≤ q := fun q h => by rw [h]; exact hzb
  refine lv_aload_n S.1 S.2.1 d_AbsL_init_0 rfl (lv_at hl 0 rfl) ?_
  refine kw_v (A := fun q => q = b) (k_I (rest := []) S (c_AbsC_init (sz := sz) l) kc_AbsC_init ⟨q_39, q_40⟩ rfl rfl rfl ⟨Nat.le_of_ble_eq_true rfl, Nat.le_of_ble_eq_true rfl⟩ hC hS hA hsz rfl hl.1 rfl (Nat.le_of_ble_eq_true rfl) ⟨Nat.zero_le _, Nat.zero_le _⟩ d_AbsL_init_1) hS (fun q h => h.elim) (fun H locs er hz hkp hS => ?_)
  have hb := hb.cl hkp (fun z => z)
  have hsz := er
  refine lv_aload_n S.1 S.2.1 d_AbsL_init_4 rfl (lv_at hl 0 rfl) ?_
  refine lv_iconst (v := 0) S.1 S.2.1 d_AbsL_init_5 (by decide) ?_
  refine f_put (A := fun q => q = b) (ty := .int) (v := .int 0) S hC kf_AL hb rfl hS rfl 0 (by decide) q_47 rfl (by decide +kernel) rfl rfl (Nat.le_of_ble_eq_true rfl) d_AbsL_init_6 (fun H locs hb oq hz hS => ?_)
  have hb : va_at K.1 classes (b, .inr (10, [.int 0, .null, .int 0])) H := hb
  have hsz := hz.trans hsz
  exact rw_v S hr hk hS d_AbsL_init_9 ⟨hsz, hb⟩
set_option maxHeartbeats 4000000 in
set_option maxRecDepth 100000 in
theorem c_AL_init (l : Launch) {K : KT} {b sz : Nat} (hzb : kz K ≤ b) : Met l y_AL_init (Cond.code y_AL_init b_AL_init 1 none :: WALL) { frames := 3, cells := 0, slots := 0, locals := 52 } (pc0 K [.ref b] (fun H => H.size = sz ∧ va_at K.1 classes (b, .inr (10, [.int 0, .null, .int 0])) H)) (va_Qv (fun H => H.size = sz ∧ va_at K.1 classes (b, .inr (10, [.int 0, .ref (kte K), .int 0])) H) (fun u t => t.heap = u) (fun q => q = b)) 0 0 (fun q => q = b) := by
  refine met0 (own := "java/util/ArrayList") (by decide) rfl (Nat.le_of_ble_eq_true rfl) (fun p e s m below meth c ls S hr hk hnm hC hH hl => ?_)
  obtain ⟨hsz, hb⟩ := hH
  have hl : lv_has ls 1 [(0, .ref b)] := hl
  have hS : va_S (fun q => q = b) s.heap s.heap [] := va_S.rf
  have hA : ∀ q, (fun q => q = b) q → kz K ≤ q := fun q h => by rw [h]; exact hzb
  refine lv_aload_n S.1 S.2.1 d_AL_init_0 rfl (lv_at hl 0 rfl) ?_
  refine kw_v (A := fun q => q = b) (k_I (rest := []) S (c_AbsL_init (sz := sz) l hzb) kc_AbsL_init ⟨q_36, q_37⟩ rfl rfl rfl ⟨Nat.le_of_ble_eq_true rfl, Nat.le_of_ble_eq_true rfl⟩ hC hS hA ⟨hsz, hb⟩ rfl hl.1 rfl (Nat.le_of_ble_eq_true rfl) ⟨Nat.zero_le _, Nat.zero_le _⟩ d_AL_init_1) hS (fun q h => h) (fun H locs er hz hkp hS => ?_)
  obtain ⟨hsz, hb⟩ := er
  refine lv_aload_n S.1 S.2.1 d_AL_init_4 rfl (lv_at hl 0 rfl) ?_
  refine va_gets (C := "java/util/ArrayList") (n := "DEFAULTCAPACITY_EMPTY_ELEMENTDATA") (d := "[Ljava/lang/Object;") (ref := "java/util/ArrayList") (A := fun q => q = b) S.1 S.2.1 (hC.2.2.2.2.1.narrow hA) hS S.2.2.2.1 (S.2.2.2.2 _ q_43) (fun _ h9 => h9) d_AL_init_5 ?_
  refine f_put (A := fun q => q = b) (ty := (.array (.object "java/lang/Object"))) (v := .ref (kte K)) S hC kf_AL hb rfl hS rfl 1 (by decide) q_45 rfl (by decide +kernel) rfl rfl (Nat.le_of_ble_eq_true rfl) d_AL_init_8 (fun H locs hb oq hz hS => ?_)
  have hb : va_at K.1 classes (b, .inr (10, [.int 0, .ref (kte K), .int 0])) H := hb
  have hsz := hz.trans hsz
  exact rw_v S hr hk hS d_AL_init_11 ⟨hsz, hb⟩
set_option maxHeartbeats 4000000 in
set_option maxRecDepth 100000 in
theorem c_M_init (l : Launch) {K : KT} {mon sz : Nat} (hzb : kz K ≤ mon) : Met l y_M_init (Cond.code y_M_init b_M_init 1 none :: WALL) { frames := 4, cells := 4, slots := 55, locals := 72 } (pc0 K [.ref mon] (fun H => H.size = sz ∧ va_at K.1 classes (mon, .inr (8, [.null, .null, .int 0])) H)) (va_Qv (fun H => H.size = sz + 4 ∧ va_at K.1 classes (mon, .inr (8, [.ref sz, .ref (sz + 1), .int 0])) H ∧ va_at K.1 classes (sz, .inr (10, [.int 0, .ref (kte K), .int 0])) H ∧ va_at K.1 classes (sz + 1, .inr (9, [.ref (sz + 2), .ref (sz + 3), .long 0, .int 0])) H ∧ va_at K.1 classes (sz + 2, .inl (kI K, 24, .inl (fun _ => 0))) H ∧ va_at K.1 classes (sz + 3, .inl (kJ K, 24, .inr (.inl (fun _ => 0)))) H) (fun u t => t.heap = u) (fun q => q = mon ∨ sz ≤ q)) 4 55 (fun q => q = mon ∨ sz ≤ q) := by
  refine met0 (own := "MetricLogMonitor") (by decide) rfl (Nat.le_of_ble_eq_true rfl) (fun p e s m below meth c ls S hr hk hnm hC hH hl => ?_)
  obtain ⟨hsz, hm⟩ := hH
  have hl : lv_has ls 1 [(0, .ref mon)] := hl
  have hS : va_S (fun q => q = mon ∨ sz ≤ q) s.heap s.heap [] := va_S.rf
  have hA : ∀ q, (fun q => q = mon ∨ sz ≤ q) q → kz K ≤ q := fun q h => h.elim (fun z => by rw [z]; exact hzb) (fun z => by have := hC.2.2.2.2.2.2.1; omega)
  have hmlt : mon < sz := by have := hm.lt; omega
  refine lv_aload_n S.1 S.2.1 d_M_init_0 rfl (lv_at hl 0 rfl) ?_
  refine W.objInit S.1 S.2.1 S.2.2.2.1 (S.2.2.2.2 _ q_28) (S.2.2.2.2 _ q_29) (S.2.2.2.2 _ q_30) rfl (by rw [S.2.2.1]; exact hl.1) rfl d_M_init_1 (Nat.le_of_ble_eq_true rfl) (Nat.le_of_ble_eq_true rfl) ?_
  refine W.eq (g2 := F0 m 4 ls []) rfl ?_
  refine lv_aload_n S.1 S.2.1 d_M_init_4 rfl (lv_at hl 0 rfl) ?_
  refine f_new (A := fun q => q = mon ∨ sz ≤ q) (ci := 10) (fs := [.int 0, .null, .int 0]) (C := "java/util/ArrayList") (T := F_AL) (N := 3) S hC kf_AL t_AL (by decide +kernel) q_31 q_32 q_4 hS rfl (fun j hj => by rcases (show j = 0 ∨ j = 1 ∨ j = 2 by omega) with rfl | rfl | rfl <;> rfl) (Nat.le_of_ble_eq_true rfl) (Nat.le_of_ble_eq_true rfl) d_M_init_5 (fun q H hq0 ha o1 hz hS => ?_)
  have hq : q = sz := hq0.trans hsz
  clear hq0
  subst q
  have ne_hm_ha := hm.apt hsz.symm
  have hm := hm.nw o1
  have hsz : H.size = (sz + 1) := by omega
  refine lv_dup S.1 S.2.1 d_M_init_8 rfl ?_
  refine kw_v (A := fun q => q = mon ∨ sz ≤ q) (k_I (rest := [.ref sz, .ref mon]) S (c_AL_init (b := sz) (sz := sz + 1) l (by have := hC.2.2.2.2.2.2.1; omega)) kc_AL_init ⟨q_33, q_34⟩ rfl rfl rfl ⟨Nat.le_of_ble_eq_true rfl, Nat.le_of_ble_eq_true rfl⟩ hC hS hA ⟨hsz, ha⟩ rfl hl.1 rfl (Nat.le_of_ble_eq_true rfl) ⟨(Nat.le_of_ble_eq_true rfl), (Nat.le_of_ble_eq_true rfl)⟩ d_M_init_9) hS (fun q h => Or.inr (by rw [h]; exact Nat.le_refl _)) (fun H locs er hz hkp hS => ?_)
  obtain ⟨hsz, ha⟩ := er
  have hm := hm.cl hkp ne_hm_ha
  refine f_putF (A := fun q => q = mon ∨ sz ≤ q) (ty := (.object "java/util/ArrayList")) (v := .ref sz) S hC kf_M hm (Or.inl rfl) hS rfl 0 (by decide) q_84 rfl hnm rfl (by decide +kernel) rfl rfl (Nat.le_of_ble_eq_true rfl) d_M_init_12 (fun H locs hm oq hz hS => ?_)
  have hm : va_at K.1 classes (mon, .inr (8, [.ref sz, .null, .int 0])) H := hm
  have ha := ha.sty oq (fun z => ne_hm_ha z.symm)
  have hsz := hz.trans hsz
  refine lv_aload_n S.1 S.2.1 d_M_init_15 rfl (lv_at hl 0 rfl) ?_
  refine f_new (A := fun q => q = mon ∨ sz ≤ q) (ci := 9) (fs := [.null, .null, .long 0, .int 0]) (C := "MetricLogMonitor$Log") (T := F_Log) (N := 4) S hC kf_Log t_Log (by decide +kernel) q_57 q_58 q_5 hS rfl (fun j hj => by rcases (show j = 0 ∨ j = 1 ∨ j = 2 ∨ j = 3 by omega) with rfl | rfl | rfl | rfl <;> rfl) (Nat.le_of_ble_eq_true rfl) (Nat.le_of_ble_eq_true rfl) d_M_init_16 (fun q H hq0 hg o1 hz hS => ?_)
  have hq : q = (sz + 1) := hq0.trans hsz
  clear hq0
  subst q
  have ne_hm_hg := hm.apt hsz.symm
  have hm := hm.nw o1
  have ne_ha_hg := ha.apt hsz.symm
  have ha := ha.nw o1
  have hsz : H.size = (sz + 2) := by omega
  refine lv_dup S.1 S.2.1 d_M_init_19 rfl ?_
  refine kw_v (A := fun q => q = mon ∨ sz ≤ q) (k_IN (rest := [.ref (sz + 1), .ref mon]) S (c_Log_init (lg := sz + 1) (sz := sz + 2) l (by have := hC.2.2.2.2.2.2.1; omega)) kc_Log_init ⟨qn_59, q_60⟩ rfl rfl rfl ⟨Nat.le_of_ble_eq_true rfl, Nat.le_of_ble_eq_true rfl⟩ hC hS hA ⟨hsz, hg⟩ rfl hl.1 rfl (Nat.le_of_ble_eq_true rfl) ⟨(Nat.le_of_ble_eq_true rfl), (Nat.le_of_ble_eq_true rfl)⟩ d_M_init_20) hS (fun q h => Or.inr (h.elim (fun z => by rw [z]; omega) (fun z => by omega))) (fun H locs er hz hkp hS => ?_)
  obtain ⟨hsz2, hg, ht, hq⟩ := er
  have hm := hm.cl hkp (fun z => z.elim ne_hm_hg (by have := hm.lt; omega))
  have ha := ha.cl hkp (fun z => z.elim ne_ha_hg (by have := ha.lt; omega))
  have hsz : H.size = sz + 4 := by omega
  have ne_hm_ht : mon ≠ sz + 2 := by have := hmlt; omega
  have ne_hm_hq : mon ≠ sz + 3 := by have := hmlt; omega
  refine f_putF (A := fun q => q = mon ∨ sz ≤ q) (ty := (.object "MetricLogMonitor$Log")) (v := .ref (sz + 1)) S hC kf_M hm (Or.inl rfl) hS rfl 1 (by decide) q_85 rfl hnm rfl (by decide +kernel) rfl rfl (Nat.le_of_ble_eq_true rfl) d_M_init_23 (fun H locs hm oq hz hS => ?_)
  have hm : va_at K.1 classes (mon, .inr (8, [.ref sz, .ref (sz + 1), .int 0])) H := hm
  have ha := ha.sty oq (fun z => ne_hm_ha z.symm)
  have hg := hg.sty oq (fun z => ne_hm_hg z.symm)
  have ht := ht.sty oq (fun z => ne_hm_ht z.symm)
  have hq := hq.sty oq (fun z => ne_hm_hq z.symm)
  have hsz := hz.trans hsz
  refine lv_aload_n S.1 S.2.1 d_M_init_26 rfl (lv_at hl 0 rfl) ?_
  refine lv_iconst (v := 0) S.1 S.2.1 d_M_init_27 (by decide) ?_
  refine f_put (A := fun q => q = mon ∨ sz ≤ q) (ty := .boolean) (v := .int 0) S hC kf_M hm (Or.inl rfl) hS rfl 2 (by decide) q_86 rfl (by decide +kernel) rfl rfl (Nat.le_of_ble_eq_true rfl) d_M_init_28 (fun H locs hm oq hz hS => ?_)
  have hm : va_at K.1 classes (mon, .inr (8, [.ref sz, .ref (sz + 1), .int 0])) H := hm
  have ha := ha.sty oq (fun z => ne_hm_ha z.symm)
  have hg := hg.sty oq (fun z => ne_hm_hg z.symm)
  have ht := ht.sty oq (fun z => ne_hm_ht z.symm)
  have hq := hq.sty oq (fun z => ne_hm_hq z.symm)
  have hsz := hz.trans hsz
  exact rw_v S hr hk hS d_M_init_31 ⟨hsz, hm, ha, hg, ht, hq⟩
