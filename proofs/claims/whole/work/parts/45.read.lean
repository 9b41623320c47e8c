/-! the class's answers that change nothing: free, ranged, bounded, progress, satisfied, rows -/
/-- the class's objects in the heap: the monitor, its list, its log, its n formulas -/
def cw (K : KT) (mon lst els lg tm pr : Nat) (wat md : Int32) (n cap : Nat) (fE : Nat → Option Nat) (kd wh fi se : Nat → Nat) (lo hi fr rg er : Nat → Int32) (dc ad sa : Nat → Nat) (stt : Nat → Nat → Int64) (G : Int64) (N : Nat) (T : Nat → Int32) (Qp : Nat → Int64) (H : Heap) : Prop :=
  va_at K.1 classes (mon, .inr (8, [.ref lst, .ref lg, .int wat])) H ∧ lsOk K lst els md n cap fE ad H ∧ va_at K.1 classes (lg, .inr (9, [.ref tm, .ref pr, .long G, .int (nI N)])) H ∧ va_at K.1 classes (tm, .inl (kI K, 24, .inl T)) H ∧ va_at K.1 classes (pr, .inl (kJ K, 24, .inr (.inl Qp))) H ∧ ∀ k, k < n → fmk K kd wh fi se lo hi fr rg er dc ad sa stt H k
set_option maxHeartbeats 4000000 in
set_option maxRecDepth 100000 in
theorem c_M_free_y (l : Launch) {K : KT} {mon lst els lg tm pr : Nat} {wat md : Int32} {n cap : Nat} {fE : Nat → Option Nat} {kd wh fi se : Nat → Nat} {lo hi fr rg xr : Nat → Int32} {dc ad sa : Nat → Nat} {stt : Nat → Nat → Int64} {G : Int64} {N : Nat} {T : Nat → Int32} {Qp : Nat → Int64} {k : Nat} (hkn : k < n)  : Met l y_M_free (Cond.code y_M_free b_M_free 3 (some Jvm.ClassFile.FieldType.int) :: WALL) { frames := 4, cells := 0, slots := 0, locals := 85 } (pc0 K [.ref mon, .int (nI k)] (fun H => cw K mon lst els lg tm pr wat md n cap fE kd wh fi se lo hi fr rg xr dc ad sa stt G N T Qp H)) (vp_Si (fun r => r = fr k)) 0 0 (fun _ => False) := by
  refine met0 (own := "MetricLogMonitor") (by decide) rfl (Nat.le_of_ble_eq_true rfl) (fun p e s m below meth c ls S hr hk hnm hC hH hl => ?_)
  obtain ⟨hm, hls, hg, ht, hq, hfm⟩ := hH
  have hl : lv_has ls 3 [(0, .ref mon), (1, .int (nI k))] := hl
  have hk1 := (hfm k hkn).1
  have hs1 := (hfm k hkn).2
  refine lv_aload_n S.1 S.2.1 d_M_free_0 rfl (lv_at hl 0 rfl) ?_
  refine lv_iload_n S.1 S.2.1 d_M_free_1 rfl (lv_at hl 1 rfl) ?_
  refine kVq (rest := []) S (c_M_find l) kc_M_find ⟨q_281, q_283, qp_5⟩ rfl rfl ⟨Nat.le_of_ble_eq_true rfl, Nat.le_of_ble_eq_true rfl⟩ hC (hSF s) (hAF K) ⟨hm, hls⟩ ⟨8, _, _, _, rfl, hm⟩ ⟨Nat.zero_le _, Nat.zero_le _⟩ hl.1 rfl rfl (Nat.le_of_ble_eq_true rfl) d_M_free_2 (fun r er => ?_)
  refine tpq (er.1 k hkn rfl) ?_
  refine lv_astore_n S.1 S.2.1 d_M_free_5 rfl hl (by decide) rfl (fun ls hl => ?_)
  have hl : lv_has ls 3 [(2, .ref (ad k)), (0, .ref mon), (1, .int (nI k))] := hl
  refine lv_aload_n S.1 S.2.1 d_M_free_6 rfl (lv_at hl 0 rfl) ?_
  refine lv_ifnonnull (tgt := 14) S.1 S.2.1 d_M_free_7 (by decide) ?_
  refine lv_aload_n S.1 S.2.1 d_M_free_14 rfl (lv_at hl 0 rfl) ?_
  refine fm_get (v := .int (fr k)) S hC (cx_lt (kd k)) 0 (by decide) hk1 q_143  rfl d_M_free_15 ?_
  exact r_i S hr hk d_M_free_18 rfl
set_option maxHeartbeats 4000000 in
set_option maxRecDepth 100000 in
theorem c_M_free_n (l : Launch) {K : KT} {mon lst els lg tm pr : Nat} {wat md : Int32} {n cap : Nat} {fE : Nat → Option Nat} {kd wh fi se : Nat → Nat} {lo hi fr rg xr : Nat → Int32} {dc ad sa : Nat → Nat} {stt : Nat → Nat → Int64} {G : Int64} {N : Nat} {T : Nat → Int32} {Qp : Nat → Int64} (f : Int32) (hno : ∀ k, k < n → ¬ f = nI k)  : Met l y_M_free (Cond.code y_M_free b_M_free 3 (some Jvm.ClassFile.FieldType.int) :: WALL) { frames := 4, cells := 0, slots := 0, locals := 85 } (pc0 K [.ref mon, .int f] (fun H => cw K mon lst els lg tm pr wat md n cap fE kd wh fi se lo hi fr rg xr dc ad sa stt G N T Qp H)) (vp_Si (fun r => r = -1)) 0 0 (fun _ => False) := by
  refine met0 (own := "MetricLogMonitor") (by decide) rfl (Nat.le_of_ble_eq_true rfl) (fun p e s m below meth c ls S hr hk hnm hC hH hl => ?_)
  obtain ⟨hm, hls, hg, ht, hq, hfm⟩ := hH
  have hl : lv_has ls 3 [(0, .ref mon), (1, .int f)] := hl
  refine lv_aload_n S.1 S.2.1 d_M_free_0 rfl (lv_at hl 0 rfl) ?_
  refine lv_iload_n S.1 S.2.1 d_M_free_1 rfl (lv_at hl 1 rfl) ?_
  refine kVq (rest := []) S (c_M_find l) kc_M_find ⟨q_281, q_283, qp_5⟩ rfl rfl ⟨Nat.le_of_ble_eq_true rfl, Nat.le_of_ble_eq_true rfl⟩ hC (hSF s) (hAF K) ⟨hm, hls⟩ ⟨8, _, _, _, rfl, hm⟩ ⟨Nat.zero_le _, Nat.zero_le _⟩ hl.1 rfl rfl (Nat.le_of_ble_eq_true rfl) d_M_free_2 (fun r er => ?_)
  refine tpq (er.2 hno) ?_
  refine lv_astore_nN S.1 S.2.1 d_M_free_5 rfl hl (by decide) rfl (fun ls hl => ?_)
  have hl : lv_has ls 3 [(2, .null), (0, .ref mon), (1, .int f)] := hl
  refine lv_aload_nN S.1 S.2.1 d_M_free_6 rfl (lv_at hl 0 rfl) ?_
  refine lv_ifnonnullN S.1 S.2.1 d_M_free_7 ?_
  refine lv_iconst (v := (-1)) S.1 S.2.1 d_M_free_10 (by decide) ?_
  refine lv_goto (tgt := 18) S.1 S.2.1 d_M_free_11 (by decide) ?_
  exact r_i S hr hk d_M_free_18 rfl
set_option maxHeartbeats 4000000 in
set_option maxRecDepth 100000 in
theorem c_M_ranged_y (l : Launch) {K : KT} {mon lst els lg tm pr : Nat} {wat md : Int32} {n cap : Nat} {fE : Nat → Option Nat} {kd wh fi se : Nat → Nat} {lo hi fr rg xr : Nat → Int32} {dc ad sa : Nat → Nat} {stt : Nat → Nat → Int64} {G : Int64} {N : Nat} {T : Nat → Int32} {Qp : Nat → Int64} {k : Nat} (hkn : k < n)  : Met l y_M_ranged (Cond.code y_M_ranged b_M_ranged 3 (some Jvm.ClassFile.FieldType.int) :: WALL) { frames := 4, cells := 0, slots := 0, locals := 85 } (pc0 K [.ref mon, .int (nI k)] (fun H => cw K mon lst els lg tm pr wat md n cap fE kd wh fi se lo hi fr rg xr dc ad sa stt G N T Qp H)) (vp_Si (fun r => r = rg k)) 0 0 (fun _ => False) := by
  refine met0 (own := "MetricLogMonitor") (by decide) rfl (Nat.le_of_ble_eq_true rfl) (fun p e s m below meth c ls S hr hk hnm hC hH hl => ?_)
  obtain ⟨hm, hls, hg, ht, hq, hfm⟩ := hH
  have hl : lv_has ls 3 [(0, .ref mon), (1, .int (nI k))] := hl
  have hk1 := (hfm k hkn).1
  have hs1 := (hfm k hkn).2
  refine lv_aload_n S.1 S.2.1 d_M_ranged_0 rfl (lv_at hl 0 rfl) ?_
  refine lv_iload_n S.1 S.2.1 d_M_ranged_1 rfl (lv_at hl 1 rfl) ?_
  refine kVq (rest := []) S (c_M_find l) kc_M_find ⟨q_281, q_283, qp_5⟩ rfl rfl ⟨Nat.le_of_ble_eq_true rfl, Nat.le_of_ble_eq_true rfl⟩ hC (hSF s) (hAF K) ⟨hm, hls⟩ ⟨8, _, _, _, rfl, hm⟩ ⟨Nat.zero_le _, Nat.zero_le _⟩ hl.1 rfl rfl (Nat.le_of_ble_eq_true rfl) d_M_ranged_2 (fun r er => ?_)
  refine tpq (er.1 k hkn rfl) ?_
  refine lv_astore_n S.1 S.2.1 d_M_ranged_5 rfl hl (by decide) rfl (fun ls hl => ?_)
  have hl : lv_has ls 3 [(2, .ref (ad k)), (0, .ref mon), (1, .int (nI k))] := hl
  refine lv_aload_n S.1 S.2.1 d_M_ranged_6 rfl (lv_at hl 0 rfl) ?_
  refine lv_ifnonnull (tgt := 14) S.1 S.2.1 d_M_ranged_7 (by decide) ?_
  refine lv_aload_n S.1 S.2.1 d_M_ranged_14 rfl (lv_at hl 0 rfl) ?_
  refine fm_get (v := .int (rg k)) S hC (cx_lt (kd k)) 1 (by decide) hk1 q_150  rfl d_M_ranged_15 ?_
  exact r_i S hr hk d_M_ranged_18 rfl
set_option maxHeartbeats 4000000 in
set_option maxRecDepth 100000 in
theorem c_M_ranged_n (l : Launch) {K : KT} {mon lst els lg tm pr : Nat} {wat md : Int32} {n cap : Nat} {fE : Nat → Option Nat} {kd wh fi se : Nat → Nat} {lo hi fr rg xr : Nat → Int32} {dc ad sa : Nat → Nat} {stt : Nat → Nat → Int64} {G : Int64} {N : Nat} {T : Nat → Int32} {Qp : Nat → Int64} (f : Int32) (hno : ∀ k, k < n → ¬ f = nI k)  : Met l y_M_ranged (Cond.code y_M_ranged b_M_ranged 3 (some Jvm.ClassFile.FieldType.int) :: WALL) { frames := 4, cells := 0, slots := 0, locals := 85 } (pc0 K [.ref mon, .int f] (fun H => cw K mon lst els lg tm pr wat md n cap fE kd wh fi se lo hi fr rg xr dc ad sa stt G N T Qp H)) (vp_Si (fun r => r = -1)) 0 0 (fun _ => False) := by
  refine met0 (own := "MetricLogMonitor") (by decide) rfl (Nat.le_of_ble_eq_true rfl) (fun p e s m below meth c ls S hr hk hnm hC hH hl => ?_)
  obtain ⟨hm, hls, hg, ht, hq, hfm⟩ := hH
  have hl : lv_has ls 3 [(0, .ref mon), (1, .int f)] := hl
  refine lv_aload_n S.1 S.2.1 d_M_ranged_0 rfl (lv_at hl 0 rfl) ?_
  refine lv_iload_n S.1 S.2.1 d_M_ranged_1 rfl (lv_at hl 1 rfl) ?_
  refine kVq (rest := []) S (c_M_find l) kc_M_find ⟨q_281, q_283, qp_5⟩ rfl rfl ⟨Nat.le_of_ble_eq_true rfl, Nat.le_of_ble_eq_true rfl⟩ hC (hSF s) (hAF K) ⟨hm, hls⟩ ⟨8, _, _, _, rfl, hm⟩ ⟨Nat.zero_le _, Nat.zero_le _⟩ hl.1 rfl rfl (Nat.le_of_ble_eq_true rfl) d_M_ranged_2 (fun r er => ?_)
  refine tpq (er.2 hno) ?_
  refine lv_astore_nN S.1 S.2.1 d_M_ranged_5 rfl hl (by decide) rfl (fun ls hl => ?_)
  have hl : lv_has ls 3 [(2, .null), (0, .ref mon), (1, .int f)] := hl
  refine lv_aload_nN S.1 S.2.1 d_M_ranged_6 rfl (lv_at hl 0 rfl) ?_
  refine lv_ifnonnullN S.1 S.2.1 d_M_ranged_7 ?_
  refine lv_iconst (v := (-1)) S.1 S.2.1 d_M_ranged_10 (by decide) ?_
  refine lv_goto (tgt := 18) S.1 S.2.1 d_M_ranged_11 (by decide) ?_
  exact r_i S hr hk d_M_ranged_18 rfl
set_option maxHeartbeats 4000000 in
set_option maxRecDepth 100000 in
theorem c_M_progress_y (l : Launch) {K : KT} {mon lst els lg tm pr : Nat} {wat md : Int32} {n cap : Nat} {fE : Nat → Option Nat} {kd wh fi se : Nat → Nat} {lo hi fr rg xr : Nat → Int32} {dc ad sa : Nat → Nat} {stt : Nat → Nat → Int64} {G : Int64} {N : Nat} {T : Nat → Int32} {Qp : Nat → Int64} {k : Nat} (hkn : k < n)  : Met l y_M_progress (Cond.code y_M_progress b_M_progress 3 (some Jvm.ClassFile.FieldType.int) :: WALL) { frames := 4, cells := 0, slots := 0, locals := 85 } (pc0 K [.ref mon, .int (nI k)] (fun H => cw K mon lst els lg tm pr wat md n cap fE kd wh fi se lo hi fr rg xr dc ad sa stt G N T Qp H)) (vp_Si (fun r => r = nI (dc k))) 0 0 (fun _ => False) := by
  refine met0 (own := "MetricLogMonitor") (by decide) rfl (Nat.le_of_ble_eq_true rfl) (fun p e s m below meth c ls S hr hk hnm hC hH hl => ?_)
  obtain ⟨hm, hls, hg, ht, hq, hfm⟩ := hH
  have hl : lv_has ls 3 [(0, .ref mon), (1, .int (nI k))] := hl
  have hk1 := (hfm k hkn).1
  have hs1 := (hfm k hkn).2
  refine lv_aload_n S.1 S.2.1 d_M_progress_0 rfl (lv_at hl 0 rfl) ?_
  refine lv_iload_n S.1 S.2.1 d_M_progress_1 rfl (lv_at hl 1 rfl) ?_
  refine kVq (rest := []) S (c_M_find l) kc_M_find ⟨q_281, q_283, qp_5⟩ rfl rfl ⟨Nat.le_of_ble_eq_true rfl, Nat.le_of_ble_eq_true rfl⟩ hC (hSF s) (hAF K) ⟨hm, hls⟩ ⟨8, _, _, _, rfl, hm⟩ ⟨Nat.zero_le _, Nat.zero_le _⟩ hl.1 rfl rfl (Nat.le_of_ble_eq_true rfl) d_M_progress_2 (fun r er => ?_)
  refine tpq (er.1 k hkn rfl) ?_
  refine lv_astore_n S.1 S.2.1 d_M_progress_5 rfl hl (by decide) rfl (fun ls hl => ?_)
  have hl : lv_has ls 3 [(2, .ref (ad k)), (0, .ref mon), (1, .int (nI k))] := hl
  refine lv_aload_n S.1 S.2.1 d_M_progress_6 rfl (lv_at hl 0 rfl) ?_
  refine lv_ifnonnull (tgt := 14) S.1 S.2.1 d_M_progress_7 (by decide) ?_
  refine lv_aload_n S.1 S.2.1 d_M_progress_14 rfl (lv_at hl 0 rfl) ?_
  refine fm_get (v := .int (nI (dc k))) S hC (cx_lt (kd k)) 3 (by decide) hk1 q_165  rfl d_M_progress_15 ?_
  exact r_i S hr hk d_M_progress_18 rfl
set_option maxHeartbeats 4000000 in
set_option maxRecDepth 100000 in
theorem c_M_progress_n (l : Launch) {K : KT} {mon lst els lg tm pr : Nat} {wat md : Int32} {n cap : Nat} {fE : Nat → Option Nat} {kd wh fi se : Nat → Nat} {lo hi fr rg xr : Nat → Int32} {dc ad sa : Nat → Nat} {stt : Nat → Nat → Int64} {G : Int64} {N : Nat} {T : Nat → Int32} {Qp : Nat → Int64} (f : Int32) (hno : ∀ k, k < n → ¬ f = nI k)  : Met l y_M_progress (Cond.code y_M_progress b_M_progress 3 (some Jvm.ClassFile.FieldType.int) :: WALL) { frames := 4, cells := 0, slots := 0, locals := 85 } (pc0 K [.ref mon, .int f] (fun H => cw K mon lst els lg tm pr wat md n cap fE kd wh fi se lo hi fr rg xr dc ad sa stt G N T Qp H)) (vp_Si (fun r => r = -1)) 0 0 (fun _ => False) := by
  refine met0 (own := "MetricLogMonitor") (by decide) rfl (Nat.le_of_ble_eq_true rfl) (fun p e s m below meth c ls S hr hk hnm hC hH hl => ?_)
  obtain ⟨hm, hls, hg, ht, hq, hfm⟩ := hH
  have hl : lv_has ls 3 [(0, .ref mon), (1, .int f)] := hl
  refine lv_aload_n S.1 S.2.1 d_M_progress_0 rfl (lv_at hl 0 rfl) ?_
  refine lv_iload_n S.1 S.2.1 d_M_progress_1 rfl (lv_at hl 1 rfl) ?_
  refine kVq (rest := []) S (c_M_find l) kc_M_find ⟨q_281, q_283, qp_5⟩ rfl rfl ⟨Nat.le_of_ble_eq_true rfl, Nat.le_of_ble_eq_true rfl⟩ hC (hSF s) (hAF K) ⟨hm, hls⟩ ⟨8, _, _, _, rfl, hm⟩ ⟨Nat.zero_le _, Nat.zero_le _⟩ hl.1 rfl rfl (Nat.le_of_ble_eq_true rfl) d_M_progress_2 (fun r er => ?_)
  refine tpq (er.2 hno) ?_
  refine lv_astore_nN S.1 S.2.1 d_M_progress_5 rfl hl (by decide) rfl (fun ls hl => ?_)
  have hl : lv_has ls 3 [(2, .null), (0, .ref mon), (1, .int f)] := hl
  refine lv_aload_nN S.1 S.2.1 d_M_progress_6 rfl (lv_at hl 0 rfl) ?_
  refine lv_ifnonnullN S.1 S.2.1 d_M_progress_7 ?_
  refine lv_iconst (v := (-1)) S.1 S.2.1 d_M_progress_10 (by decide) ?_
  refine lv_goto (tgt := 18) S.1 S.2.1 d_M_progress_11 (by decide) ?_
  exact r_i S hr hk d_M_progress_18 rfl
set_option maxHeartbeats 4000000 in
set_option maxRecDepth 100000 in
theorem c_M_bounded_y (l : Launch) {K : KT} {mon lst els lg tm pr : Nat} {wat md : Int32} {n cap : Nat} {fE : Nat → Option Nat} {kd wh fi se : Nat → Nat} {lo hi fr rg xr : Nat → Int32} {dc ad sa : Nat → Nat} {stt : Nat → Nat → Int64} {G : Int64} {N : Nat} {T : Nat → Int32} {Qp : Nat → Int64} {k : Nat} (hkn : k < n)  : Met l y_M_bounded (Cond.code y_M_bounded b_M_bounded 3 (some Jvm.ClassFile.FieldType.boolean) :: WALL) { frames := 4, cells := 0, slots := 0, locals := 85 } (pc0 K [.ref mon, .int (nI k)] (fun H => cw K mon lst els lg tm pr wat md n cap fE kd wh fi se lo hi fr rg xr dc ad sa stt G N T Qp H)) (vp_Si (fun r => r = (if f_Form_isBounded (fr k) (rg k) (xr k) = 0 then 0 else 1))) 0 0 (fun _ => False) := by
  refine met0 (own := "MetricLogMonitor") (by decide) rfl (Nat.le_of_ble_eq_true rfl) (fun p e s m below meth c ls S hr hk hnm hC hH hl => ?_)
  obtain ⟨hm, hls, hg, ht, hq, hfm⟩ := hH
  have hl : lv_has ls 3 [(0, .ref mon), (1, .int (nI k))] := hl
  have hk1 := (hfm k hkn).1
  have hs1 := (hfm k hkn).2
  refine lv_aload_n S.1 S.2.1 d_M_bounded_0 rfl (lv_at hl 0 rfl) ?_
  refine lv_iload_n S.1 S.2.1 d_M_bounded_1 rfl (lv_at hl 1 rfl) ?_
  refine kVq (rest := []) S (c_M_find l) kc_M_find ⟨q_281, q_283, qp_5⟩ rfl rfl ⟨Nat.le_of_ble_eq_true rfl, Nat.le_of_ble_eq_true rfl⟩ hC (hSF s) (hAF K) ⟨hm, hls⟩ ⟨8, _, _, _, rfl, hm⟩ ⟨Nat.zero_le _, Nat.zero_le _⟩ hl.1 rfl rfl (Nat.le_of_ble_eq_true rfl) d_M_bounded_2 (fun r er => ?_)
  refine tpq (er.1 k hkn rfl) ?_
  refine lv_astore_n S.1 S.2.1 d_M_bounded_5 rfl hl (by decide) rfl (fun ls hl => ?_)
  have hl : lv_has ls 3 [(2, .ref (ad k)), (0, .ref mon), (1, .int (nI k))] := hl
  refine lv_aload_n S.1 S.2.1 d_M_bounded_6 rfl (lv_at hl 0 rfl) ?_
  refine lv_ifnull S.1 S.2.1 d_M_bounded_7 ?_
  refine lv_aload_n S.1 S.2.1 d_M_bounded_10 rfl (lv_at hl 0 rfl) ?_
  refine kFi (rest := []) S (c_Form_isBounded l (cx_lt (kd k))) kc_Form_isBounded fm_0 ⟨q_469, q_471, q_470⟩ rfl rfl rfl ⟨Nat.le_of_ble_eq_true rfl, Nat.le_of_ble_eq_true rfl⟩ hC (hSF s) (hAF K) hk1 (cx_lt (kd k)) hk1 ⟨Nat.zero_le _, Nat.zero_le _⟩ hl.1 rfl rfl (Nat.le_of_ble_eq_true rfl) d_M_bounded_11 (fun r er => ?_)
  subst er
  refine lv_if_eq (tgt := 21) S.1 S.2.1 d_M_bounded_14 (by decide) (fun hbr1 => ?_) (fun hbr1 => ?_)
  · refine lv_iconst (v := 0) S.1 S.2.1 d_M_bounded_21 (by decide) ?_
    exact r_z S hr hk rfl d_M_bounded_22 (by rw [if_pos hbr1])
  · refine lv_iconst (v := 1) S.1 S.2.1 d_M_bounded_17 (by decide) ?_
    refine lv_goto (tgt := 22) S.1 S.2.1 d_M_bounded_18 (by decide) ?_
    exact r_z S hr hk rfl d_M_bounded_22 (by rw [if_neg hbr1])
set_option maxHeartbeats 4000000 in
set_option maxRecDepth 100000 in
theorem c_M_bounded_n (l : Launch) {K : KT} {mon lst els lg tm pr : Nat} {wat md : Int32} {n cap : Nat} {fE : Nat → Option Nat} {kd wh fi se : Nat → Nat} {lo hi fr rg xr : Nat → Int32} {dc ad sa : Nat → Nat} {stt : Nat → Nat → Int64} {G : Int64} {N : Nat} {T : Nat → Int32} {Qp : Nat → Int64} (f : Int32) (hno : ∀ k, k < n → ¬ f = nI k)  : Met l y_M_bounded (Cond.code y_M_bounded b_M_bounded 3 (some Jvm.ClassFile.FieldType.boolean) :: WALL) { frames := 4, cells := 0, slots := 0, locals := 85 } (pc0 K [.ref mon, .int f] (fun H => cw K mon lst els lg tm pr wat md n cap fE kd wh fi se lo hi fr rg xr dc ad sa stt G N T Qp H)) (vp_Si (fun r => r = 0)) 0 0 (fun _ => False) := by
  refine met0 (own := "MetricLogMonitor") (by decide) rfl (Nat.le_of_ble_eq_true rfl) (fun p e s m below meth c ls S hr hk hnm hC hH hl => ?_)
  obtain ⟨hm, hls, hg, ht, hq, hfm⟩ := hH
  have hl : lv_has ls 3 [(0, .ref mon), (1, .int f)] := hl
  refine lv_aload_n S.1 S.2.1 d_M_bounded_0 rfl (lv_at hl 0 rfl) ?_
  refine lv_iload_n S.1 S.2.1 d_M_bounded_1 rfl (lv_at hl 1 rfl) ?_
  refine kVq (rest := []) S (c_M_find l) kc_M_find ⟨q_281, q_283, qp_5⟩ rfl rfl ⟨Nat.le_of_ble_eq_true rfl, Nat.le_of_ble_eq_true rfl⟩ hC (hSF s) (hAF K) ⟨hm, hls⟩ ⟨8, _, _, _, rfl, hm⟩ ⟨Nat.zero_le _, Nat.zero_le _⟩ hl.1 rfl rfl (Nat.le_of_ble_eq_true rfl) d_M_bounded_2 (fun r er => ?_)
  refine tpq (er.2 hno) ?_
  refine lv_astore_nN S.1 S.2.1 d_M_bounded_5 rfl hl (by decide) rfl (fun ls hl => ?_)
  have hl : lv_has ls 3 [(2, .null), (0, .ref mon), (1, .int f)] := hl
  refine lv_aload_nN S.1 S.2.1 d_M_bounded_6 rfl (lv_at hl 0 rfl) ?_
  refine lv_ifnullN (tgt := 21) S.1 S.2.1 d_M_bounded_7 (by decide) ?_
  refine lv_iconst (v := 0) S.1 S.2.1 d_M_bounded_21 (by decide) ?_
  exact r_z S hr hk rfl d_M_bounded_22 rfl
set_option maxHeartbeats 4000000 in
set_option maxRecDepth 100000 in
theorem c_M_satisfied_y (l : Launch) {K : KT} {mon lst els lg tm pr : Nat} {wat md : Int32} {n cap : Nat} {fE : Nat → Option Nat} {kd wh fi se : Nat → Nat} {lo hi fr rg xr : Nat → Int32} {dc ad sa : Nat → Nat} {stt : Nat → Nat → Int64} {G : Int64} {N : Nat} {T : Nat → Int32} {Qp : Nat → Int64} {k : Nat} (hkn : k < n) (hdc : ∀ j, j < n → dc j ≤ 24) (i : Int32) : Met l y_M_satisfied (Cond.code y_M_satisfied b_M_satisfied 4 (some Jvm.ClassFile.FieldType.long) :: WALL) { frames := 4, cells := 0, slots := 0, locals := 85 } (pc0 K [.ref mon, .int (nI k), .int i] (fun H => cw K mon lst els lg tm pr wat md n cap fE kd wh fi se lo hi fr rg xr dc ad sa stt G N T Qp H)) (vp_Sl (fun r => (f_Form_isDecidedAt (nI (dc k)) i = 0 → r = 0) ∧ ∀ j, j < dc k → i = nI j → r = stt k j)) 0 0 (fun _ => False) := by
  refine met0 (own := "MetricLogMonitor") (by decide) rfl (Nat.le_of_ble_eq_true rfl) (fun p e s m below meth c ls S hr hk hnm hC hH hl => ?_)
  obtain ⟨hm, hls, hg, ht, hq, hfm⟩ := hH
  have hl : lv_has ls 4 [(0, .ref mon), (1, .int (nI k)), (2, .int i)] := hl
  have hk1 := (hfm k hkn).1
  have hs1 := (hfm k hkn).2
  refine lv_aload_n S.1 S.2.1 d_M_satisfied_0 rfl (lv_at hl 0 rfl) ?_
  refine lv_iload_n S.1 S.2.1 d_M_satisfied_1 rfl (lv_at hl 1 rfl) ?_
  refine kVq (rest := []) S (c_M_find l) kc_M_find ⟨q_281, q_283, qp_5⟩ rfl rfl ⟨Nat.le_of_ble_eq_true rfl, Nat.le_of_ble_eq_true rfl⟩ hC (hSF s) (hAF K) ⟨hm, hls⟩ ⟨8, _, _, _, rfl, hm⟩ ⟨Nat.zero_le _, Nat.zero_le _⟩ hl.1 rfl rfl (Nat.le_of_ble_eq_true rfl) d_M_satisfied_2 (fun r er => ?_)
  refine tpq (er.1 k hkn rfl) ?_
  refine lv_astore_n S.1 S.2.1 d_M_satisfied_5 rfl hl (by decide) rfl (fun ls hl => ?_)
  have hl : lv_has ls 4 [(3, .ref (ad k)), (0, .ref mon), (1, .int (nI k)), (2, .int i)] := hl
  refine lv_aload_n S.1 S.2.1 d_M_satisfied_6 rfl (lv_at hl 0 rfl) ?_
  refine lv_ifnonnull (tgt := 14) S.1 S.2.1 d_M_satisfied_7 (by decide) ?_
  refine lv_aload_n S.1 S.2.1 d_M_satisfied_14 rfl (lv_at hl 0 rfl) ?_
  refine lv_iload_n S.1 S.2.1 d_M_satisfied_15 rfl (lv_at hl 3 rfl) ?_
  refine kFl (rest := []) S (c_Form_setAt l (cx_lt (kd k)) (hdc k hkn) i) kc_Form_setAt fm_2 ⟨q_674, q_583, q_582⟩ rfl rfl rfl ⟨Nat.le_of_ble_eq_true rfl, Nat.le_of_ble_eq_true rfl⟩ hC (hSF s) (hAF K) ⟨hk1, hs1⟩ (cx_lt (kd k)) hk1 ⟨Nat.zero_le _, Nat.zero_le _⟩ hl.1 rfl rfl (Nat.le_of_ble_eq_true rfl) d_M_satisfied_16 (fun r er => ?_)
  have erS := er
  clear er
  exact r_l S hr hk d_M_satisfied_19 erS
set_option maxHeartbeats 4000000 in
set_option maxRecDepth 100000 in
theorem c_M_satisfied_n (l : Launch) {K : KT} {mon lst els lg tm pr : Nat} {wat md : Int32} {n cap : Nat} {fE : Nat → Option Nat} {kd wh fi se : Nat → Nat} {lo hi fr rg xr : Nat → Int32} {dc ad sa : Nat → Nat} {stt : Nat → Nat → Int64} {G : Int64} {N : Nat} {T : Nat → Int32} {Qp : Nat → Int64} (f : Int32) (hno : ∀ k, k < n → ¬ f = nI k) (i : Int32) : Met l y_M_satisfied (Cond.code y_M_satisfied b_M_satisfied 4 (some Jvm.ClassFile.FieldType.long) :: WALL) { frames := 4, cells := 0, slots := 0, locals := 85 } (pc0 K [.ref mon, .int f, .int i] (fun H => cw K mon lst els lg tm pr wat md n cap fE kd wh fi se lo hi fr rg xr dc ad sa stt G N T Qp H)) (vp_Sl (fun r => r = 0)) 0 0 (fun _ => False) := by
  refine met0 (own := "MetricLogMonitor") (by decide) rfl (Nat.le_of_ble_eq_true rfl) (fun p e s m below meth c ls S hr hk hnm hC hH hl => ?_)
  obtain ⟨hm, hls, hg, ht, hq, hfm⟩ := hH
  have hl : lv_has ls 4 [(0, .ref mon), (1, .int f), (2, .int i)] := hl
  refine lv_aload_n S.1 S.2.1 d_M_satisfied_0 rfl (lv_at hl 0 rfl) ?_
  refine lv_iload_n S.1 S.2.1 d_M_satisfied_1 rfl (lv_at hl 1 rfl) ?_
  refine kVq (rest := []) S (c_M_find l) kc_M_find ⟨q_281, q_283, qp_5⟩ rfl rfl ⟨Nat.le_of_ble_eq_true rfl, Nat.le_of_ble_eq_true rfl⟩ hC (hSF s) (hAF K) ⟨hm, hls⟩ ⟨8, _, _, _, rfl, hm⟩ ⟨Nat.zero_le _, Nat.zero_le _⟩ hl.1 rfl rfl (Nat.le_of_ble_eq_true rfl) d_M_satisfied_2 (fun r er => ?_)
  refine tpq (er.2 hno) ?_
  refine lv_astore_nN S.1 S.2.1 d_M_satisfied_5 rfl hl (by decide) rfl (fun ls hl => ?_)
  have hl : lv_has ls 4 [(3, .null), (0, .ref mon), (1, .int f), (2, .int i)] := hl
  refine lv_aload_nN S.1 S.2.1 d_M_satisfied_6 rfl (lv_at hl 0 rfl) ?_
  refine lv_ifnonnullN S.1 S.2.1 d_M_satisfied_7 ?_
  refine lv_lconst (v := 0) S.1 S.2.1 d_M_satisfied_10 (by decide) ?_
  refine lv_goto (tgt := 19) S.1 S.2.1 d_M_satisfied_11 (by decide) ?_
  exact r_l S hr hk d_M_satisfied_19 rfl
theorem vbit_0 (x : Int32) {v : Nat} (hv : v < 3) : x &&& f_M_variableBit (nI v) = 0 ↔ bt x v = false := b_andbit x (by omega)
theorem fd_t {p : Nat → Bool} {x : Int64} {v : Nat} (h : p v = true) : fd p x v = fd p x (v + 1) := by
  show _ = (if p v = true then fd p x v else fold4 v (fd p x v))
  rw [if_pos h]
theorem fd_f {p : Nat → Bool} {x : Int64} {v : Nat} (h : p v = false) : fold4 v (fd p x v) = fd p x (v + 1) := by
  show _ = (if p v = true then fd p x v else fold4 v (fd p x v))
  rw [h]; rfl
set_option maxHeartbeats 4000000 in
set_option maxRecDepth 100000 in
theorem c_M_rows_y (l : Launch) {K : KT} {mon lst els lg tm pr : Nat} {wat md : Int32} {n cap : Nat} {fE : Nat → Option Nat} {kd wh fi se : Nat → Nat} {lo hi fr rg xr : Nat → Int32} {dc ad sa : Nat → Nat} {stt : Nat → Nat → Int64} {G : Int64} {N : Nat} {T : Nat → Int32} {Qp : Nat → Int64} {k : Nat} (hkn : k < n) (hdc : ∀ j, j < n → dc j ≤ 24) (i : Int32) : Met l y_M_rows (Cond.code y_M_rows b_M_rows 7 (some Jvm.ClassFile.FieldType.int) :: WALL) { frames := 4, cells := 0, slots := 0, locals := 85 } (pc0 K [.ref mon, .int (nI k), .int i] (fun H => cw K mon lst els lg tm pr wat md n cap fE kd wh fi se lo hi fr rg xr dc ad sa stt G N T Qp H)) (vp_Si (fun r => (f_Form_isDecidedAt (nI (dc k)) i = 0 → r = -1) ∧ ∀ j, j < dc k → i = nI j → r = nI (ct (tb (fd (fun v => bt (fr k) v) (stt k j) 3)) 64))) 0 0 (fun _ => False) := by
  refine met0 (own := "MetricLogMonitor") (by decide) rfl (Nat.le_of_ble_eq_true rfl) (fun p e s m below meth c ls S hr hk hnm hC hH hl => ?_)
  obtain ⟨hm, hls, hg, ht, hq, hfm⟩ := hH
  have hl : lv_has ls 7 [(0, .ref mon), (1, .int (nI k)), (2, .int i)] := hl
  have hk1 := (hfm k hkn).1
  have hs1 := (hfm k hkn).2
  refine lv_aload_n S.1 S.2.1 d_M_rows_0 rfl (lv_at hl 0 rfl) ?_
  refine lv_iload_n S.1 S.2.1 d_M_rows_1 rfl (lv_at hl 1 rfl) ?_
  refine kVq (rest := []) S (c_M_find l) kc_M_find ⟨q_281, q_283, qp_5⟩ rfl rfl ⟨Nat.le_of_ble_eq_true rfl, Nat.le_of_ble_eq_true rfl⟩ hC (hSF s) (hAF K) ⟨hm, hls⟩ ⟨8, _, _, _, rfl, hm⟩ ⟨Nat.zero_le _, Nat.zero_le _⟩ hl.1 rfl rfl (Nat.le_of_ble_eq_true rfl) d_M_rows_2 (fun r er => ?_)
  refine tpq (er.1 k hkn rfl) ?_
  refine lv_astore_n S.1 S.2.1 d_M_rows_5 rfl hl (by decide) rfl (fun ls hl => ?_)
  have hl : lv_has ls 7 [(3, .ref (ad k)), (0, .ref mon), (1, .int (nI k)), (2, .int i)] := hl
  refine lv_aload_n S.1 S.2.1 d_M_rows_6 rfl (lv_at hl 0 rfl) ?_
  refine lv_ifnull S.1 S.2.1 d_M_rows_7 ?_
  refine lv_aload_n S.1 S.2.1 d_M_rows_10 rfl (lv_at hl 0 rfl) ?_
  refine lv_iload_n S.1 S.2.1 d_M_rows_11 rfl (lv_at hl 3 rfl) ?_
  refine kFi (rest := []) S (c_Form_isDecidedAt l (cx_lt (kd k)) i) kc_Form_isDecidedAt fm_3 ⟨q_679, q_595, q_594⟩ rfl rfl rfl ⟨Nat.le_of_ble_eq_true rfl, Nat.le_of_ble_eq_true rfl⟩ hC (hSF s) (hAF K) hk1 (cx_lt (kd k)) hk1 ⟨Nat.zero_le _, Nat.zero_le _⟩ hl.1 rfl rfl (Nat.le_of_ble_eq_true rfl) d_M_rows_12 (fun r er => ?_)
  subst er
  refine lv_if_ne (tgt := 20) S.1 S.2.1 d_M_rows_15 (by decide) (fun hbr1 => ?_) (fun hbr1 => ?_)
  · refine lv_aload_n S.1 S.2.1 d_M_rows_20 rfl (lv_at hl 0 rfl) ?_
    refine lv_iload_n S.1 S.2.1 d_M_rows_21 rfl (lv_at hl 3 rfl) ?_
    refine kFl (rest := []) S (c_Form_setAt l (cx_lt (kd k)) (hdc k hkn) i) kc_Form_setAt fm_2 ⟨q_674, q_583, q_582⟩ rfl rfl rfl ⟨Nat.le_of_ble_eq_true rfl, Nat.le_of_ble_eq_true rfl⟩ hC (hSF s) (hAF K) ⟨hk1, hs1⟩ (cx_lt (kd k)) hk1 ⟨Nat.zero_le _, Nat.zero_le _⟩ hl.1 rfl rfl (Nat.le_of_ble_eq_true rfl) d_M_rows_22 (fun r er => ?_)
    obtain ⟨j, hj, ej⟩ := dec_no (hdc k hkn) hbr1
    have er := er.2 j hj ej
    subst er
    refine lv_lstore S.1 S.2.1 d_M_rows_25 hl (by decide) rfl (fun ls hl => ?_)
    have hl : lv_has ls 7 [(4, .long (stt k j)), (3, .ref (ad k)), (0, .ref mon), (1, .int (nI k)), (2, .int i)] := hl
    refine lv_iconst (v := 0) S.1 S.2.1 d_M_rows_27 (by decide) ?_
    refine lv_istore S.1 S.2.1 d_M_rows_28 hl (by decide) rfl (fun ls hl => ?_)
    have hl : lv_has ls 7 [(6, .int 0), (4, .long (stt k j)), (3, .ref (ad k)), (0, .ref mon), (1, .int (nI k)), (2, .int i)] := hl
    have key30 : ∀ (d30 : Nat) (v : Nat) (y : Int64) (ls : Array Slot), v + d30 = 3 → (y = fd (fun v => bt (fr k) v) (stt k j) v) → lv_has ls 7 [(6, .int (nI v)), (4, .long y), (3, .ref (ad k)), (0, .ref mon), (1, .int (nI k)), (2, .int i)] → W p l e ({ frames := 4, cells := 0, slots := 0, locals := 85 } : Room) s m ([.ref mon, .int (nI k), .int i] : List Value).toArray below meth c s.heap [] 0 0 (MQ below (vp_Si (fun r => (f_Form_isDecidedAt (nI (dc k)) i = 0 → r = -1) ∧ ∀ j, j < dc k → i = nI j → r = nI (ct (tb (fd (fun v => bt (fr k) v) (stt k j) 3)) 64))) ([.ref mon, .int (nI k), .int i] : List Value).toArray s 0 0 (fun _ => False)) (F0 m 30 ls []) := by
      intro d30
      induction d30 with
      | zero =>
        intro v y ls hd30 hI hl
        obtain rfl : v = 3 := by omega
        refine lv_iload S.1 S.2.1 d_M_rows_30 (lv_at hl 0 rfl) ?_
        refine lv_iconst (v := 3) S.1 S.2.1 d_M_rows_32 (by decide) ?_
        refine lv_icmp_ge (tgt := 64) S.1 S.2.1 d_M_rows_33 (by decide) (fun _ => ?_) (fun hx9 => absurd (by decide) hx9)
        refine lv_lload S.1 S.2.1 d_M_rows_64 (lv_at hl 1 rfl) ?_
        refine kSi (rest := []) S (c_Long_bitCount l y) kc_Long_bitCount ⟨q_681, q_682⟩ rfl rfl ⟨Nat.le_of_ble_eq_true rfl, Nat.le_of_ble_eq_true rfl⟩ hC (hSF s) (hAF K) trivial ⟨Nat.zero_le _, Nat.zero_le _⟩ hl.1 rfl rfl (Nat.le_of_ble_eq_true rfl) d_M_rows_66 (fun r er => ?_)
        subst er
        exact r_i S hr hk d_M_rows_69 ⟨fun h0 => absurd h0 hbr1, fun j2 hj2 ej2 => by rw [ej] at ej2; rw [bitCount_eq, hI, (nI_eq (by have := hdc k hkn; omega) (by have := hdc k hkn; omega)).mp ej2]⟩
      | succ d30 ih30 =>
        intro v y ls hd30 hI hl
        refine lv_iload S.1 S.2.1 d_M_rows_30 (lv_at hl 0 rfl) ?_
        refine lv_iconst (v := 3) S.1 S.2.1 d_M_rows_32 (by decide) ?_
        refine lv_icmp_ge (tgt := 64) S.1 S.2.1 d_M_rows_33 (by decide) (fun hx9 => absurd hx9 (nI_ge (b := 3) (by omega) (by decide))) (fun _ => ?_)
        refine lv_aload_n S.1 S.2.1 d_M_rows_36 rfl (lv_at hl 2 rfl) ?_
        refine fm_get (v := .int (fr k)) S hC (cx_lt (kd k)) 0 (by decide) hk1 q_143  rfl d_M_rows_37 ?_
        refine lv_iload S.1 S.2.1 d_M_rows_40 (lv_at hl 0 rfl) ?_
        refine kSi (rest := [.int (fr k)]) S (c_M_variableBit l (nI v)) kc_M_variableBit ⟨q_126, q_127⟩ rfl rfl ⟨Nat.le_of_ble_eq_true rfl, Nat.le_of_ble_eq_true rfl⟩ hC (hSF s) (hAF K) trivial ⟨Nat.zero_le _, Nat.zero_le _⟩ hl.1 rfl rfl (Nat.le_of_ble_eq_true rfl) d_M_rows_42 (fun r er => ?_)
        subst er
        refine lv_iand S.1 S.2.1 d_M_rows_45 ?_
        refine lv_if_ne (tgt := 58) S.1 S.2.1 d_M_rows_46 (by decide) (fun hbr2 => ?_) (fun hbr2 => ?_)
        · refine lv_iinc (v := nI (v + 1)) S.1 S.2.1 d_M_rows_58 hl (k := 0) rfl (nI_1 v) (by decide) rfl (fun ls hl => ?_)
          have hl : lv_has ls 7 [(6, .int (nI (v + 1))), (4, .long y), (3, .ref (ad k)), (0, .ref mon), (1, .int (nI k)), (2, .int i)] := hl
          refine lv_goto (tgt := 30) S.1 S.2.1 d_M_rows_61 (by decide) ?_
          exact ih30 (v + 1) y ls (by omega) (by rw [hI]; exact fd_t (bnf (fun hz => hbr2 ((vbit_0 _ (by omega)).mpr hz)))) (lv_sub hl [0, 1, 2, 3, 4, 5] rfl)
        · refine lv_iload S.1 S.2.1 d_M_rows_49 (lv_at hl 0 rfl) ?_
          refine lv_lload S.1 S.2.1 d_M_rows_51 (lv_at hl 1 rfl) ?_
          refine kSl (rest := []) S (c_M_fold l (v := v) (by omega) y) kc_M_fold ⟨q_680, q_606⟩ rfl rfl ⟨Nat.le_of_ble_eq_true rfl, Nat.le_of_ble_eq_true rfl⟩ hC (hSF s) (hAF K) trivial ⟨Nat.zero_le _, Nat.zero_le _⟩ hl.1 rfl rfl (Nat.le_of_ble_eq_true rfl) d_M_rows_53 (fun r er => ?_)
          subst er
          refine lv_lstore S.1 S.2.1 d_M_rows_56 hl (by decide) rfl (fun ls hl => ?_)
          have hl : lv_has ls 7 [(4, .long (f_M_fold v y)), (6, .int (nI v)), (3, .ref (ad k)), (0, .ref mon), (1, .int (nI k)), (2, .int i)] := hl
          refine lv_iinc (v := nI (v + 1)) S.1 S.2.1 d_M_rows_58 hl (k := 1) rfl (nI_1 v) (by decide) rfl (fun ls hl => ?_)
          have hl : lv_has ls 7 [(6, .int (nI (v + 1))), (4, .long (f_M_fold v y)), (3, .ref (ad k)), (0, .ref mon), (1, .int (nI k)), (2, .int i)] := hl
          refine lv_goto (tgt := 30) S.1 S.2.1 d_M_rows_61 (by decide) ?_
          exact ih30 (v + 1) _ ls (by omega) (by rw [hI, fold_eq (by omega)]; exact fd_f ((vbit_0 _ (by omega)).mp hbr2)) (lv_sub hl [0, 1, 2, 3, 4, 5] rfl)
    exact key30 3 0 _ ls rfl rfl (lv_sub hl [0, 1, 2, 3, 4, 5] rfl)
  · refine lv_iconst (v := (-1)) S.1 S.2.1 d_M_rows_18 (by decide) ?_
    exact r_i S hr hk d_M_rows_19 ⟨fun _ => rfl, fun j hj ej => absurd hbr1 (by rw [ej]; exact dec_yes (hdc k hkn) hj)⟩
set_option maxHeartbeats 4000000 in
set_option maxRecDepth 100000 in
theorem c_M_rows_n (l : Launch) {K : KT} {mon lst els lg tm pr : Nat} {wat md : Int32} {n cap : Nat} {fE : Nat → Option Nat} {kd wh fi se : Nat → Nat} {lo hi fr rg xr : Nat → Int32} {dc ad sa : Nat → Nat} {stt : Nat → Nat → Int64} {G : Int64} {N : Nat} {T : Nat → Int32} {Qp : Nat → Int64} (f : Int32) (hno : ∀ k, k < n → ¬ f = nI k) (i : Int32) : Met l y_M_rows (Cond.code y_M_rows b_M_rows 7 (some Jvm.ClassFile.FieldType.int) :: WALL) { frames := 4, cells := 0, slots := 0, locals := 85 } (pc0 K [.ref mon, .int f, .int i] (fun H => cw K mon lst els lg tm pr wat md n cap fE kd wh fi se lo hi fr rg xr dc ad sa stt G N T Qp H)) (vp_Si (fun r => r = -1)) 0 0 (fun _ => False) := by
  refine met0 (own := "MetricLogMonitor") (by decide) rfl (Nat.le_of_ble_eq_true rfl) (fun p e s m below meth c ls S hr hk hnm hC hH hl => ?_)
  obtain ⟨hm, hls, hg, ht, hq, hfm⟩ := hH
  have hl : lv_has ls 7 [(0, .ref mon), (1, .int f), (2, .int i)] := hl
  refine lv_aload_n S.1 S.2.1 d_M_rows_0 rfl (lv_at hl 0 rfl) ?_
  refine lv_iload_n S.1 S.2.1 d_M_rows_1 rfl (lv_at hl 1 rfl) ?_
  refine kVq (rest := []) S (c_M_find l) kc_M_find ⟨q_281, q_283, qp_5⟩ rfl rfl ⟨Nat.le_of_ble_eq_true rfl, Nat.le_of_ble_eq_true rfl⟩ hC (hSF s) (hAF K) ⟨hm, hls⟩ ⟨8, _, _, _, rfl, hm⟩ ⟨Nat.zero_le _, Nat.zero_le _⟩ hl.1 rfl rfl (Nat.le_of_ble_eq_true rfl) d_M_rows_2 (fun r er => ?_)
  refine tpq (er.2 hno) ?_
  refine lv_astore_nN S.1 S.2.1 d_M_rows_5 rfl hl (by decide) rfl (fun ls hl => ?_)
  have hl : lv_has ls 7 [(3, .null), (0, .ref mon), (1, .int f), (2, .int i)] := hl
  refine lv_aload_nN S.1 S.2.1 d_M_rows_6 rfl (lv_at hl 0 rfl) ?_
  refine lv_ifnullN (tgt := 18) S.1 S.2.1 d_M_rows_7 (by decide) ?_
  refine lv_iconst (v := (-1)) S.1 S.2.1 d_M_rows_18 (by decide) ?_
  exact r_i S hr hk d_M_rows_19 rfl
