/-! the log: collect, append, clear; a formula: forget, advance -/
set_option maxHeartbeats 4000000 in
set_option maxRecDepth 100000 in
theorem c_Log_clear (l : Launch) {K : KT} {lg tm pr : Nat} {G : Int64} {N : Nat} : Met l y_Log_clear (Cond.code y_Log_clear b_Log_clear 1 none :: WALL) { frames := 0, cells := 0, slots := 0, locals := 0 } (pc0 K [.ref lg] (fun H => va_at K.1 classes (lg, .inr (9, [.ref tm, .ref pr, .long G, .int (nI N)])) H)) (va_Qv (fun H => va_at K.1 classes (lg, .inr (9, [.ref tm, .ref pr, .long 0, .int (nI 0)])) H) (fun u t => t.heap = u) (fun q => q = lg)) 0 0 (fun q => q = lg) := by
  refine met0 (own := "MetricLogMonitor$Log") (by decide) rfl (Nat.le_of_ble_eq_true rfl) (fun p e s m below meth c ls S hr hk hnm hC hH hl => ?_)
  have hl : lv_has ls 1 [(0, .ref lg)] := hl
  have hS : va_S (fun q => q = lg) s.heap s.heap [] := va_S.rf
  refine lv_aload_n S.1 S.2.1 d_Log_clear_0 rfl (lv_at hl 0 rfl) ?_
  refine lv_iconst (v := 0) S.1 S.2.1 d_Log_clear_1 (by decide) ?_
  refine f_put (A := fun q => q = lg) (ty := .int) (v := .int 0) S hC kf_Log hH rfl hS rfl 3 (by decide) q_71 rfl (by decide +kernel) rfl rfl (Nat.le_of_ble_eq_true rfl) d_Log_clear_2 (fun H locs hH oq hz hS => ?_)
  have hH : va_at K.1 classes (lg, .inr (9, [.ref tm, .ref pr, .long G, .int 0])) H := hH
  refine lv_aload_n S.1 S.2.1 d_Log_clear_5 rfl (lv_at hl 0 rfl) ?_
  refine lv_lconst (v := 0) S.1 S.2.1 d_Log_clear_6 (by decide) ?_
  refine f_put (A := fun q => q = lg) (ty := .long) (v := .long 0) S hC kf_Log hH rfl hS rfl 2 (by decide) q_66 rfl (by decide +kernel) rfl rfl (Nat.le_of_ble_eq_true rfl) d_Log_clear_7 (fun H locs hH oq hz hS => ?_)
  have hH : va_at K.1 classes (lg, .inr (9, [.ref tm, .ref pr, .long 0, .int 0])) H := hH
  exact rw_v S hr hk hS d_Log_clear_10 hH
set_option maxHeartbeats 4000000 in
set_option maxRecDepth 100000 in
theorem c_Log_collect (l : Launch) {K : KT} {lg tm pr : Nat} {G : Int64} {N : Nat} (x : Int64) : Met l y_Log_collect (Cond.code y_Log_collect b_Log_collect 4 (some Jvm.ClassFile.FieldType.boolean) :: WALL) { frames := 0, cells := 0, slots := 0, locals := 0 } (pc0 K [.ref lg, .long x] (fun H => va_at K.1 classes (lg, .inr (9, [.ref tm, .ref pr, .long G, .int (nI N)])) H)) (va_Qi (fun r H => (r = if lg_cmp (G &&& x) 0 = 0 then 1 else 0) ∧ va_at K.1 classes (lg, .inr (9, [.ref tm, .ref pr, .long (G ||| x), .int (nI N)])) H) (fun u t => t.heap = u) (fun q => q = lg)) 0 0 (fun q => q = lg) := by
  refine met0 (own := "MetricLogMonitor$Log") (by decide) rfl (Nat.le_of_ble_eq_true rfl) (fun p e s m below meth c ls S hr hk hnm hC hH hl => ?_)
  have hl : lv_has ls 4 [(0, .ref lg), (1, .long x)] := hl
  have hS : va_S (fun q => q = lg) s.heap s.heap [] := va_S.rf
  refine lv_aload_n S.1 S.2.1 d_Log_collect_0 rfl (lv_at hl 0 rfl) ?_
  refine o_get (v := .long G) S hC kf_Log hH rfl 2 (by decide) q_66 rfl d_Log_collect_1 ?_
  refine lv_lload_n S.1 S.2.1 d_Log_collect_4 rfl (lv_at hl 1 rfl) ?_
  refine lv_land S.1 S.2.1 d_Log_collect_5 ?_
  refine lv_lconst (v := 0) S.1 S.2.1 d_Log_collect_6 (by decide) ?_
  refine W.lcmp S.1 S.2.1 d_Log_collect_7 ?_
  refine lv_if_ne (tgt := 15) S.1 S.2.1 d_Log_collect_8 (by decide) (fun hbr1 => ?_) (fun hbr1 => ?_)
  · refine lv_iconst (v := 0) S.1 S.2.1 d_Log_collect_15 (by decide) ?_
    refine lv_istore_n S.1 S.2.1 d_Log_collect_16 rfl hl (by decide) rfl (fun ls hl => ?_)
    have hl : lv_has ls 4 [(3, .int 0), (0, .ref lg), (1, .long x)] := hl
    refine lv_aload_n S.1 S.2.1 d_Log_collect_17 rfl (lv_at hl 1 rfl) ?_
    refine lv_dup S.1 S.2.1 d_Log_collect_18 rfl ?_
    refine o_get (v := .long G) S hC kf_Log hH rfl 2 (by decide) q_66 rfl d_Log_collect_19 ?_
    refine lv_lload_n S.1 S.2.1 d_Log_collect_22 rfl (lv_at hl 2 rfl) ?_
    refine lv_lor S.1 S.2.1 d_Log_collect_23 ?_
    refine f_put (A := fun q => q = lg) (ty := .long) (v := .long (G ||| x)) S hC kf_Log hH rfl hS rfl 2 (by decide) q_66 rfl (by decide +kernel) rfl rfl (Nat.le_of_ble_eq_true rfl) d_Log_collect_24 (fun H locs hH oq hz hS => ?_)
    have hH : va_at K.1 classes (lg, .inr (9, [.ref tm, .ref pr, .long (G ||| x), .int (nI N)])) H := hH
    refine lv_iload_n S.1 S.2.1 d_Log_collect_27 rfl (lv_at hl 0 rfl) ?_
    exact rw_z S hr hk rfl hS d_Log_collect_28 ⟨by rw [if_neg hbr1], hH⟩
  · refine lv_iconst (v := 1) S.1 S.2.1 d_Log_collect_11 (by decide) ?_
    refine lv_goto (tgt := 16) S.1 S.2.1 d_Log_collect_12 (by decide) ?_
    refine lv_istore_n S.1 S.2.1 d_Log_collect_16 rfl hl (by decide) rfl (fun ls hl => ?_)
    have hl : lv_has ls 4 [(3, .int 1), (0, .ref lg), (1, .long x)] := hl
    refine lv_aload_n S.1 S.2.1 d_Log_collect_17 rfl (lv_at hl 1 rfl) ?_
    refine lv_dup S.1 S.2.1 d_Log_collect_18 rfl ?_
    refine o_get (v := .long G) S hC kf_Log hH rfl 2 (by decide) q_66 rfl d_Log_collect_19 ?_
    refine lv_lload_n S.1 S.2.1 d_Log_collect_22 rfl (lv_at hl 2 rfl) ?_
    refine lv_lor S.1 S.2.1 d_Log_collect_23 ?_
    refine f_put (A := fun q => q = lg) (ty := .long) (v := .long (G ||| x)) S hC kf_Log hH rfl hS rfl 2 (by decide) q_66 rfl (by decide +kernel) rfl rfl (Nat.le_of_ble_eq_true rfl) d_Log_collect_24 (fun H locs hH oq hz hS => ?_)
    have hH : va_at K.1 classes (lg, .inr (9, [.ref tm, .ref pr, .long (G ||| x), .int (nI N)])) H := hH
    refine lv_iload_n S.1 S.2.1 d_Log_collect_27 rfl (lv_at hl 0 rfl) ?_
    exact rw_z S hr hk rfl hS d_Log_collect_28 ⟨by rw [if_pos hbr1], hH⟩
set_option maxHeartbeats 4000000 in
set_option maxRecDepth 100000 in
theorem c_Log_append (l : Launch) {K : KT} {lg tm pr : Nat} {G : Int64} {N : Nat} {T : Nat → Int32} {Qp : Nat → Int64} (time : Int32) (hN : N < 24) (h1 : lg ≠ tm) (h2 : lg ≠ pr) (h3 : tm ≠ pr) : Met l y_Log_append (Cond.code y_Log_append b_Log_append 2 none :: WALL) { frames := 0, cells := 0, slots := 0, locals := 0 } (pc0 K [.ref lg, .int time] (fun H => va_at K.1 classes (lg, .inr (9, [.ref tm, .ref pr, .long G, .int (nI N)])) H ∧ va_at K.1 classes (tm, .inl (kI K, 24, .inl T)) H ∧ va_at K.1 classes (pr, .inl (kJ K, 24, .inr (.inl Qp))) H)) (va_Qv (fun H => va_at K.1 classes (lg, .inr (9, [.ref tm, .ref pr, .long 0, .int (nI (N + 1))])) H ∧ va_at K.1 classes (tm, .inl (kI K, 24, .inl (upd T N time))) H ∧ va_at K.1 classes (pr, .inl (kJ K, 24, .inr (.inl (vp_updL Qp N G)))) H) (fun u t => t.heap = u) (fun q => q = lg ∨ q = tm ∨ q = pr)) 0 0 (fun q => q = lg ∨ q = tm ∨ q = pr) := by
  refine met0 (own := "MetricLogMonitor$Log") (by decide) rfl (Nat.le_of_ble_eq_true rfl) (fun p e s m below meth c ls S hr hk hnm hC hH hl => ?_)
  obtain ⟨hg, ht, hq⟩ := hH
  have hl : lv_has ls 2 [(0, .ref lg), (1, .int time)] := hl
  have hS : va_S (fun q => q = lg ∨ q = tm ∨ q = pr) s.heap s.heap [] := va_S.rf
  refine lv_aload_n S.1 S.2.1 d_Log_append_0 rfl (lv_at hl 0 rfl) ?_
  refine o_get (v := .ref tm) S hC kf_Log hg rfl 0 (by decide) q_63 rfl d_Log_append_1 ?_
  refine lv_aload_n S.1 S.2.1 d_Log_append_4 rfl (lv_at hl 0 rfl) ?_
  refine o_get (v := .int (nI N)) S hC kf_Log hg rfl 3 (by decide) q_71 rfl d_Log_append_5 ?_
  refine lv_iload_n S.1 S.2.1 d_Log_append_8 rfl (lv_at hl 1 rfl) ?_
  refine f_iast (A := fun q => q = lg ∨ q = tm ∨ q = pr) (j := N) (x := time) S hC ht (Or.inr (Or.inl rfl)) hS (by decide) (by omega) d_Log_append_9 (fun H locs ht oq hz hS => ?_)
  have hg := hg.sty oq h1
  have hq := hq.sty oq h3.symm
  refine lv_aload_n S.1 S.2.1 d_Log_append_10 rfl (lv_at hl 0 rfl) ?_
  refine o_get (v := .ref pr) S hC kf_Log hg rfl 1 (by decide) q_64 rfl d_Log_append_11 ?_
  refine lv_aload_n S.1 S.2.1 d_Log_append_14 rfl (lv_at hl 0 rfl) ?_
  refine o_get (v := .int (nI N)) S hC kf_Log hg rfl 3 (by decide) q_71 rfl d_Log_append_15 ?_
  refine lv_aload_n S.1 S.2.1 d_Log_append_18 rfl (lv_at hl 0 rfl) ?_
  refine o_get (v := .long G) S hC kf_Log hg rfl 2 (by decide) q_66 rfl d_Log_append_19 ?_
  refine f_last (A := fun q => q = lg ∨ q = tm ∨ q = pr) (j := N) (x := G) S hC hq (Or.inr (Or.inr rfl)) hS (by decide) (by omega) d_Log_append_22 (fun H locs hq oq hz hS => ?_)
  have hg := hg.sty oq h2
  have ht := ht.sty oq h3
  refine lv_aload_n S.1 S.2.1 d_Log_append_23 rfl (lv_at hl 0 rfl) ?_
  refine lv_dup S.1 S.2.1 d_Log_append_24 rfl ?_
  refine o_get (v := .int (nI N)) S hC kf_Log hg rfl 3 (by decide) q_71 rfl d_Log_append_25 ?_
  refine lv_iconst (v := 1) S.1 S.2.1 d_Log_append_28 (by decide) ?_
  refine lv_iadd S.1 S.2.1 d_Log_append_29 ?_
  refine tpi (y := nI (N + 1)) (nI_1 N) ?_
  refine f_put (A := fun q => q = lg ∨ q = tm ∨ q = pr) (ty := .int) (v := .int (nI (N + 1))) S hC kf_Log hg (Or.inl rfl) hS rfl 3 (by decide) q_71 rfl (by decide +kernel) rfl rfl (Nat.le_of_ble_eq_true rfl) d_Log_append_30 (fun H locs hg oq hz hS => ?_)
  have hg : va_at K.1 classes (lg, .inr (9, [.ref tm, .ref pr, .long G, .int (nI (N + 1))])) H := hg
  have ht := ht.sty oq h1.symm
  have hq := hq.sty oq h2.symm
  refine lv_aload_n S.1 S.2.1 d_Log_append_33 rfl (lv_at hl 0 rfl) ?_
  refine lv_lconst (v := 0) S.1 S.2.1 d_Log_append_34 (by decide) ?_
  refine f_put (A := fun q => q = lg ∨ q = tm ∨ q = pr) (ty := .long) (v := .long 0) S hC kf_Log hg (Or.inl rfl) hS rfl 2 (by decide) q_66 rfl (by decide +kernel) rfl rfl (Nat.le_of_ble_eq_true rfl) d_Log_append_35 (fun H locs hg oq hz hS => ?_)
  have hg : va_at K.1 classes (lg, .inr (9, [.ref tm, .ref pr, .long 0, .int (nI (N + 1))])) H := hg
  have ht := ht.sty oq h1.symm
  have hq := hq.sty oq h2.symm
  exact rw_v S hr hk hS d_Log_append_38 ⟨hg, ht, hq⟩
set_option maxHeartbeats 4000000 in
set_option maxRecDepth 100000 in
theorem c_Form_forget (l : Launch) {K : KT} {b ci : Nat} {f1 f2 f3 f4 : Int32} {sa : Nat} {xs : List Value} (hc : ci < 8) : Met l y_Form_forget (Cond.code y_Form_forget b_Form_forget 1 none :: WALL) { frames := 0, cells := 0, slots := 0, locals := 0 } (pc0 K [.ref b] (fun H => va_at K.1 classes (b, .inr (ci, .int f1 :: .int f2 :: .int f3 :: .int f4 :: .ref sa :: xs)) H)) (va_Qv (fun H => va_at K.1 classes (b, .inr (ci, .int f1 :: .int f2 :: .int f3 :: .int 0 :: .ref sa :: xs)) H) (fun u t => t.heap = u) (fun q => q = b)) 0 0 (fun q => q = b) := by
  refine met0 (own := "MetricLogMonitor$Formula") (by decide) rfl (Nat.le_of_ble_eq_true rfl) (fun p e s m below meth c ls S hr hk hnm hC hH hl => ?_)
  have hl : lv_has ls 1 [(0, .ref b)] := hl
  have hS : va_S (fun q => q = b) s.heap s.heap [] := va_S.rf
  refine lv_aload_n S.1 S.2.1 d_Form_forget_0 rfl (lv_at hl 0 rfl) ?_
  refine lv_iconst (v := 0) S.1 S.2.1 d_Form_forget_1 (by decide) ?_
  refine fm_put (A := fun q => q = b) (x := 0) S hC hc hH rfl hS q_164 (by simp) d_Form_forget_2 (fun H locs hH oq hz hS => ?_)
  have hH : va_at K.1 classes (b, .inr (ci, .int f1 :: .int f2 :: .int f3 :: .int 0 :: .ref sa :: xs)) H := hH
  exact rw_v S hr hk hS d_Form_forget_5 hH
