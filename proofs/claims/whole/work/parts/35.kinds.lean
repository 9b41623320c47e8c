/-! the eight kinds: reach and evaluate -/
theorem bnf {x : Bool} (h : ¬ x = false) : x = true := by cases x <;> first | rfl | exact absurd rfl h
/-- what setAt answers at the place j -/
def sv (d : Nat) (stv : Nat → Int64) (j : Nat) : Int64 := if j < d then stv j else 0
theorem sv_of {d j : Nat} {stv : Nat → Int64} {r : Int64} (hd : d ≤ 24) (hj : j < 2147483648) (h : (f_Form_isDecidedAt (nI d) (nI j) = 0 → r = 0) ∧ ∀ k, k < d → nI j = nI k → r = stv k) : r = sv d stv j := by
  unfold sv
  by_cases c : j < d
  · rw [if_pos c]; exact h.2 j c rfl
  · rw [if_neg c]
    apply h.1
    unfold f_Form_isDecidedAt
    rw [if_neg (nI_pos hj), if_pos (nI_le (by omega) hj)]
theorem nI_min {a b : Nat} (ha : a < 2147483648) (hb : b < 2147483648) : (if nI b < nI a then nI b else nI a) = nI (min a b) := by
  by_cases h : b < a
  · rw [if_pos (nI_lt h ha), Nat.min_eq_right (by omega)]
  · rw [if_neg (nI_nlt (by omega) hb), Nat.min_eq_left (by omega)]
theorem nI_gt0 {i : Nat} (h : ¬ nI i ≤ 0) : 1 ≤ i := by
  rcases Nat.eq_zero_or_pos i with e | e
  · subst e; exact absurd (show nI 0 ≤ 0 by decide) h
  · exact e
theorem nI_dec (j : Nat) : nI j + Int32.ofInt (-1) = nI j - 1 := by
  show nI j + (-1) = nI j - 1
  rw [Int32.sub_eq_add_neg]
theorem atom_bit {x : Int64} {r a b n : Nat} (hr : r ≤ 2) (ha : tmr a) (hb : tmr b) (hn : n < 64) : lg_cmp (x &&& f_M_pairBit (nI r) (f_M_valueOf (nI a) (nI n)) (f_M_valueOf (nI b) (nI n))) 0 = 0 ↔ tb x (16 * r + 4 * vl a n + vl b n) = false := by
  have h1 : vl a n < 4 := vl_lt ha
  have h2 : vl b n < 4 := vl_lt hb
  rw [lg_cmp0, valueOf_eq ha hn, valueOf_eq hb hn, pairBit_eq, tb_andbit x (by omega)]
theorem cmp_le {a b n : Nat} (ha : tmr a) (hb : tmr b) (hn : n < 64) : f_M_valueOf (nI b) (nI n) ≤ f_M_valueOf (nI a) (nI n) ↔ vl b n ≤ vl a n := by
  have h1 : vl a n < 4 := vl_lt ha
  have h2 : vl b n < 4 := vl_lt hb
  rw [valueOf_eq ha hn, valueOf_eq hb hn, nI_leI (by omega) (by omega)]
theorem cmp_eq {a b n : Nat} (ha : tmr a) (hb : tmr b) (hn : n < 64) : f_M_valueOf (nI a) (nI n) = f_M_valueOf (nI b) (nI n) ↔ vl a n = vl b n := by
  have h1 : vl a n < 4 := vl_lt ha
  have h2 : vl b n < 4 := vl_lt hb
  rw [valueOf_eq ha hn, valueOf_eq hb hn, nI_eq (by omega) (by omega)]
/-- EQUAL or LESS at an assignment -/
def cmpAt (less : Int32) (a b x : Nat) : Bool := if less = 0 then decide (vl a x = vl b x) else decide (vl a x < vl b x)
theorem ly_t {lo hi d : Int32} (h1 : ¬ d < lo) (h2 : ¬ hi < d) : ly lo hi d = true := by
  unfold ly
  rw [decide_eq_true (i32_nlt.mp h1), decide_eq_true (i32_nlt.mp h2)]
  simp
theorem ly_f {lo hi d : Int32} (h1 : d < lo) : ly lo hi d = false := by
  unfold ly
  rw [decide_eq_false (fun h => (i32_nlt.mpr h) h1)]
  rfl
set_option maxHeartbeats 4000000 in
set_option maxRecDepth 100000 in
theorem c_Atom_reach (l : Launch) {K : KT} {b : Nat} {f1 f2 f3 f4 : Int32} {sa : Nat} {r a b2 : Nat} {lg tm pr : Nat} {G : Int64} {N : Nat} : Met l y_Atom_reach (Cond.code y_Atom_reach b_Atom_reach 2 (some Jvm.ClassFile.FieldType.int) :: WALL) { frames := 0, cells := 0, slots := 0, locals := 0 } (pc0 K [.ref b, .ref lg] (fun H => va_at K.1 classes (b, .inr (0, [.int f1, .int f2, .int f3, .int f4, .ref sa, .int (nI r), .int (nI a), .int (nI b2)])) H ∧ va_at K.1 classes (lg, .inr (9, [.ref tm, .ref pr, .long G, .int (nI N)])) H)) (vp_Si (fun r => r = nI N)) 0 0 (fun _ => False) := by
  refine met0 (own := "MetricLogMonitor$Atom") (by decide) rfl (Nat.le_of_ble_eq_true rfl) (fun p e s m below meth c ls S hr hk hnm hC hH hl => ?_)
  obtain ⟨hb, hg⟩ := hH
  have hl : lv_has ls 2 [(0, .ref b), (1, .ref lg)] := hl
  refine lv_aload_n S.1 S.2.1 d_Atom_reach_0 rfl (lv_at hl 1 rfl) ?_
  refine o_get (v := .int (nI N)) S hC kf_Log hg rfl 3 (by decide) q_67 rfl d_Atom_reach_1 ?_
  exact r_i S hr hk d_Atom_reach_4 rfl
set_option maxHeartbeats 4000000 in
set_option maxRecDepth 100000 in
theorem c_Comp_reach (l : Launch) {K : KT} {b : Nat} {f1 f2 f3 f4 : Int32} {sa : Nat} {less : Int32} {a b2 : Nat} {lg tm pr : Nat} {G : Int64} {N : Nat} : Met l y_Comp_reach (Cond.code y_Comp_reach b_Comp_reach 2 (some Jvm.ClassFile.FieldType.int) :: WALL) { frames := 0, cells := 0, slots := 0, locals := 0 } (pc0 K [.ref b, .ref lg] (fun H => va_at K.1 classes (b, .inr (1, [.int f1, .int f2, .int f3, .int f4, .ref sa, .int less, .int (nI a), .int (nI b2)])) H ∧ va_at K.1 classes (lg, .inr (9, [.ref tm, .ref pr, .long G, .int (nI N)])) H)) (vp_Si (fun r => r = nI N)) 0 0 (fun _ => False) := by
  refine met0 (own := "MetricLogMonitor$Comparison") (by decide) rfl (Nat.le_of_ble_eq_true rfl) (fun p e s m below meth c ls S hr hk hnm hC hH hl => ?_)
  obtain ⟨hb, hg⟩ := hH
  have hl : lv_has ls 2 [(0, .ref b), (1, .ref lg)] := hl
  refine lv_aload_n S.1 S.2.1 d_Comp_reach_0 rfl (lv_at hl 1 rfl) ?_
  refine o_get (v := .int (nI N)) S hC kf_Log hg rfl 3 (by decide) q_70 rfl d_Comp_reach_1 ?_
  exact r_i S hr hk d_Comp_reach_4 rfl
set_option maxHeartbeats 4000000 in
set_option maxRecDepth 100000 in
theorem c_Not_reach (l : Launch) {K : KT} {b : Nat} {f1 f2 f3 f4 : Int32} {sa : Nat} {a1 c1 d1 sa1 : Nat} {g11 g21 g31 : Int32} {xs1 : List Value} {st1 : Nat → Int64} {lg : Nat} (hc1 : c1 < 8) (hd1 : d1 ≤ 24) : Met l y_Not_reach (Cond.code y_Not_reach b_Not_reach 2 (some Jvm.ClassFile.FieldType.int) :: WALL) { frames := 0, cells := 0, slots := 0, locals := 0 } (pc0 K [.ref b, .ref lg] (fun H => va_at K.1 classes (b, .inr (2, [.int f1, .int f2, .int f3, .int f4, .ref sa, .ref a1])) H ∧ va_at K.1 classes (a1, .inr (c1, .int g11 :: .int g21 :: .int g31 :: .int (nI d1) :: .ref sa1 :: xs1)) H ∧ va_at K.1 classes (sa1, .inl (kJ K, 24, .inr (.inl st1))) H)) (vp_Si (fun r => r = nI d1)) 0 0 (fun _ => False) := by
  refine met0 (own := "MetricLogMonitor$Not") (by decide) rfl (Nat.le_of_ble_eq_true rfl) (fun p e s m below meth c ls S hr hk hnm hC hH hl => ?_)
  obtain ⟨hb, hp1, hs1⟩ := hH
  have hl : lv_has ls 2 [(0, .ref b), (1, .ref lg)] := hl
  refine lv_aload_n S.1 S.2.1 d_Not_reach_0 rfl (lv_at hl 0 rfl) ?_
  refine o_get (v := .ref a1) S hC kf_Not hb rfl 5 (by decide) q_306 rfl d_Not_reach_1 ?_
  refine fm_get (v := .int (nI d1)) S hC hc1 3 (by decide) hp1 q_159  rfl d_Not_reach_4 ?_
  exact r_i S hr hk d_Not_reach_7 rfl
set_option maxHeartbeats 4000000 in
set_option maxRecDepth 100000 in
theorem c_Exi_reach (l : Launch) {K : KT} {b : Nat} {f1 f2 f3 f4 : Int32} {sa : Nat} {v : Nat} {a1 c1 d1 sa1 : Nat} {g11 g21 g31 : Int32} {xs1 : List Value} {st1 : Nat → Int64} {lg : Nat} (hc1 : c1 < 8) (hd1 : d1 ≤ 24) : Met l y_Exi_reach (Cond.code y_Exi_reach b_Exi_reach 2 (some Jvm.ClassFile.FieldType.int) :: WALL) { frames := 0, cells := 0, slots := 0, locals := 0 } (pc0 K [.ref b, .ref lg] (fun H => va_at K.1 classes (b, .inr (4, [.int f1, .int f2, .int f3, .int f4, .ref sa, .int (nI v), .ref a1])) H ∧ va_at K.1 classes (a1, .inr (c1, .int g11 :: .int g21 :: .int g31 :: .int (nI d1) :: .ref sa1 :: xs1)) H ∧ va_at K.1 classes (sa1, .inl (kJ K, 24, .inr (.inl st1))) H)) (vp_Si (fun r => r = nI d1)) 0 0 (fun _ => False) := by
  refine met0 (own := "MetricLogMonitor$Exists") (by decide) rfl (Nat.le_of_ble_eq_true rfl) (fun p e s m below meth c ls S hr hk hnm hC hH hl => ?_)
  obtain ⟨hb, hp1, hs1⟩ := hH
  have hl : lv_has ls 2 [(0, .ref b), (1, .ref lg)] := hl
  refine lv_aload_n S.1 S.2.1 d_Exi_reach_0 rfl (lv_at hl 0 rfl) ?_
  refine o_get (v := .ref a1) S hC kf_Exi hb rfl 6 (by decide) q_355 rfl d_Exi_reach_1 ?_
  refine fm_get (v := .int (nI d1)) S hC hc1 3 (by decide) hp1 q_158  rfl d_Exi_reach_4 ?_
  exact r_i S hr hk d_Exi_reach_7 rfl
set_option maxHeartbeats 4000000 in
set_option maxRecDepth 100000 in
theorem c_Join_reach (l : Launch) {K : KT} {b : Nat} {f1 f2 f3 f4 : Int32} {sa : Nat} {both : Int32} {a1 c1 d1 sa1 : Nat} {g11 g21 g31 : Int32} {xs1 : List Value} {st1 : Nat → Int64} {a2 c2 d2 sa2 : Nat} {g12 g22 g32 : Int32} {xs2 : List Value} {st2 : Nat → Int64} {lg : Nat} (hc1 : c1 < 8) (hd1 : d1 ≤ 24) (hc2 : c2 < 8) (hd2 : d2 ≤ 24) : Met l y_Join_reach (Cond.code y_Join_reach b_Join_reach 2 (some Jvm.ClassFile.FieldType.int) :: WALL) { frames := 1, cells := 0, slots := 0, locals := 13 } (pc0 K [.ref b, .ref lg] (fun H => va_at K.1 classes (b, .inr (3, [.int f1, .int f2, .int f3, .int f4, .ref sa, .int both, .ref a1, .ref a2])) H ∧ (va_at K.1 classes (a1, .inr (c1, .int g11 :: .int g21 :: .int g31 :: .int (nI d1) :: .ref sa1 :: xs1)) H ∧ va_at K.1 classes (sa1, .inl (kJ K, 24, .inr (.inl st1))) H) ∧ va_at K.1 classes (a2, .inr (c2, .int g12 :: .int g22 :: .int g32 :: .int (nI d2) :: .ref sa2 :: xs2)) H ∧ va_at K.1 classes (sa2, .inl (kJ K, 24, .inr (.inl st2))) H)) (vp_Si (fun r => r = nI (min d1 d2))) 0 0 (fun _ => False) := by
  refine met0 (own := "MetricLogMonitor$Join") (by decide) rfl (Nat.le_of_ble_eq_true rfl) (fun p e s m below meth c ls S hr hk hnm hC hH hl => ?_)
  obtain ⟨hb, ⟨hp1, hs1⟩, hp2, hs2⟩ := hH
  have hl : lv_has ls 2 [(0, .ref b), (1, .ref lg)] := hl
  refine lv_aload_n S.1 S.2.1 d_Join_reach_0 rfl (lv_at hl 0 rfl) ?_
  refine o_get (v := .ref a1) S hC kf_Join hb rfl 6 (by decide) q_329 rfl d_Join_reach_1 ?_
  refine fm_get (v := .int (nI d1)) S hC hc1 3 (by decide) hp1 q_163  rfl d_Join_reach_4 ?_
  refine lv_aload_n S.1 S.2.1 d_Join_reach_7 rfl (lv_at hl 0 rfl) ?_
  refine o_get (v := .ref a2) S hC kf_Join hb rfl 7 (by decide) q_330 rfl d_Join_reach_8 ?_
  refine fm_get (v := .int (nI d2)) S hC hc2 3 (by decide) hp2 q_163  rfl d_Join_reach_11 ?_
  refine va_mmin S.1 S.2.1 (by rw [S.2.2.1]; exact hl.1.symm) S.2.2.2.1 (S.2.2.2.2 _ q_543) (S.2.2.2.2 _ q_240) (S.2.2.2.2 _ q_10) (S.2.2.2.2 _ q_241) (Nat.le_of_ble_eq_true rfl) (Nat.le_of_ble_eq_true rfl) (Nat.zero_le _) (Nat.zero_le _) d_Join_reach_14 ?_
  exact r_i S hr hk d_Join_reach_17 (nI_min (by omega) (by omega))
set_option maxHeartbeats 4000000 in
set_option maxRecDepth 100000 in
theorem c_Since_reach (l : Launch) {K : KT} {b : Nat} {f1 f2 f3 f4 : Int32} {sa : Nat} {lo hi : Int32} {a1 c1 d1 sa1 : Nat} {g11 g21 g31 : Int32} {xs1 : List Value} {st1 : Nat → Int64} {a2 c2 d2 sa2 : Nat} {g12 g22 g32 : Int32} {xs2 : List Value} {st2 : Nat → Int64} {lg : Nat} (hc1 : c1 < 8) (hd1 : d1 ≤ 24) (hc2 : c2 < 8) (hd2 : d2 ≤ 24) : Met l y_Since_reach (Cond.code y_Since_reach b_Since_reach 2 (some Jvm.ClassFile.FieldType.int) :: WALL) { frames := 1, cells := 0, slots := 0, locals := 13 } (pc0 K [.ref b, .ref lg] (fun H => va_at K.1 classes (b, .inr (6, [.int f1, .int f2, .int f3, .int f4, .ref sa, .int lo, .int hi, .ref a1, .ref a2])) H ∧ (va_at K.1 classes (a1, .inr (c1, .int g11 :: .int g21 :: .int g31 :: .int (nI d1) :: .ref sa1 :: xs1)) H ∧ va_at K.1 classes (sa1, .inl (kJ K, 24, .inr (.inl st1))) H) ∧ va_at K.1 classes (a2, .inr (c2, .int g12 :: .int g22 :: .int g32 :: .int (nI d2) :: .ref sa2 :: xs2)) H ∧ va_at K.1 classes (sa2, .inl (kJ K, 24, .inr (.inl st2))) H)) (vp_Si (fun r => r = nI (min d1 d2))) 0 0 (fun _ => False) := by
  refine met0 (own := "MetricLogMonitor$Since") (by decide) rfl (Nat.le_of_ble_eq_true rfl) (fun p e s m below meth c ls S hr hk hnm hC hH hl => ?_)
  obtain ⟨hb, ⟨hp1, hs1⟩, hp2, hs2⟩ := hH
  have hl : lv_has ls 2 [(0, .ref b), (1, .ref lg)] := hl
  refine lv_aload_n S.1 S.2.1 d_Since_reach_0 rfl (lv_at hl 0 rfl) ?_
  refine o_get (v := .ref a1) S hC kf_Since hb rfl 7 (by decide) q_413 rfl d_Since_reach_1 ?_
  refine fm_get (v := .int (nI d1)) S hC hc1 3 (by decide) hp1 q_160  rfl d_Since_reach_4 ?_
  refine lv_aload_n S.1 S.2.1 d_Since_reach_7 rfl (lv_at hl 0 rfl) ?_
  refine o_get (v := .ref a2) S hC kf_Since hb rfl 8 (by decide) q_414 rfl d_Since_reach_8 ?_
  refine fm_get (v := .int (nI d2)) S hC hc2 3 (by decide) hp2 q_160  rfl d_Since_reach_11 ?_
  refine va_mmin S.1 S.2.1 (by rw [S.2.2.1]; exact hl.1.symm) S.2.2.2.1 (S.2.2.2.2 _ q_554) (S.2.2.2.2 _ q_240) (S.2.2.2.2 _ q_10) (S.2.2.2.2 _ q_241) (Nat.le_of_ble_eq_true rfl) (Nat.le_of_ble_eq_true rfl) (Nat.zero_le _) (Nat.zero_le _) d_Since_reach_14 ?_
  exact r_i S hr hk d_Since_reach_17 (nI_min (by omega) (by omega))
set_option maxHeartbeats 4000000 in
set_option maxRecDepth 100000 in
theorem c_Prev_reach (l : Launch) {K : KT} {b : Nat} {f1 f2 f3 f4 : Int32} {sa : Nat} {lo hi : Int32} {a1 c1 d1 sa1 : Nat} {g11 g21 g31 : Int32} {xs1 : List Value} {st1 : Nat → Int64} {lg tm pr : Nat} {G : Int64} {N : Nat} (hc1 : c1 < 8) (hd1 : d1 ≤ 24) (hN : N ≤ 24) : Met l y_Prev_reach (Cond.code y_Prev_reach b_Prev_reach 2 (some Jvm.ClassFile.FieldType.int) :: WALL) { frames := 1, cells := 0, slots := 0, locals := 13 } (pc0 K [.ref b, .ref lg] (fun H => va_at K.1 classes (b, .inr (5, [.int f1, .int f2, .int f3, .int f4, .ref sa, .int lo, .int hi, .ref a1])) H ∧ (va_at K.1 classes (a1, .inr (c1, .int g11 :: .int g21 :: .int g31 :: .int (nI d1) :: .ref sa1 :: xs1)) H ∧ va_at K.1 classes (sa1, .inl (kJ K, 24, .inr (.inl st1))) H) ∧ va_at K.1 classes (lg, .inr (9, [.ref tm, .ref pr, .long G, .int (nI N)])) H)) (vp_Si (fun r => r = nI (min N (1 + d1)))) 0 0 (fun _ => False) := by
  refine met0 (own := "MetricLogMonitor$Previous") (by decide) rfl (Nat.le_of_ble_eq_true rfl) (fun p e s m below meth c ls S hr hk hnm hC hH hl => ?_)
  obtain ⟨hb, ⟨hp1, hs1⟩, hg⟩ := hH
  have hl : lv_has ls 2 [(0, .ref b), (1, .ref lg)] := hl
  refine lv_aload_n S.1 S.2.1 d_Prev_reach_0 rfl (lv_at hl 1 rfl) ?_
  refine o_get (v := .int (nI N)) S hC kf_Log hg rfl 3 (by decide) q_68 rfl d_Prev_reach_1 ?_
  refine lv_iconst (v := 1) S.1 S.2.1 d_Prev_reach_4 (by decide) ?_
  refine lv_aload_n S.1 S.2.1 d_Prev_reach_5 rfl (lv_at hl 0 rfl) ?_
  refine o_get (v := .ref a1) S hC kf_Prev hb rfl 7 (by decide) q_388 rfl d_Prev_reach_6 ?_
  refine fm_get (v := .int (nI d1)) S hC hc1 3 (by decide) hp1 q_162  rfl d_Prev_reach_9 ?_
  refine lv_iadd S.1 S.2.1 d_Prev_reach_12 ?_
  refine tpi (y := nI (1 + d1)) (nI_add 1 d1) ?_
  refine va_mmin S.1 S.2.1 (by rw [S.2.2.1]; exact hl.1.symm) S.2.2.2.1 (S.2.2.2.2 _ q_550) (S.2.2.2.2 _ q_240) (S.2.2.2.2 _ q_10) (S.2.2.2.2 _ q_241) (Nat.le_of_ble_eq_true rfl) (Nat.le_of_ble_eq_true rfl) (Nat.zero_le _) (Nat.zero_le _) d_Prev_reach_13 ?_
  exact r_i S hr hk d_Prev_reach_16 (nI_min (by omega) (by omega))
theorem ct_s0 {p : Nat → Bool} {n : Nat} (h : p n = false) : ct p n = ct p (n + 1) := by
  show _ = ct p n + _
  rw [h]; simp
theorem ct_s1 {p : Nat → Bool} {n : Nat} (h : p n = true) : ct p n + 1 = ct p (n + 1) := by
  show _ = ct p n + _
  rw [h]; simp
theorem i32_nlt2 {x y : Int32} (h : ¬ x ≤ y) : y < x := Int32.not_le.mp h
set_option maxHeartbeats 4000000 in
set_option maxRecDepth 100000 in
theorem c_Until_reach (l : Launch) {K : KT} {b : Nat} {f1 f2 f3 f4 : Int32} {sa : Nat} {lo hi : Int32} {a1 c1 d1 sa1 : Nat} {g11 g21 g31 : Int32} {xs1 : List Value} {st1 : Nat → Int64} {a2 c2 d2 sa2 : Nat} {g12 g22 g32 : Int32} {xs2 : List Value} {st2 : Nat → Int64} {lg tm pr : Nat} {G : Int64} {N : Nat} {T : Nat → Int32} (hc1 : c1 < 8) (hd1 : d1 ≤ 24) (hc2 : c2 < 8) (hd2 : d2 ≤ 24) (hN : N ≤ 24) (hN1 : 1 ≤ N) : Met l y_Until_reach (Cond.code y_Until_reach b_Until_reach 5 (some Jvm.ClassFile.FieldType.int) :: WALL) { frames := 1, cells := 0, slots := 0, locals := 22 } (pc0 K [.ref b, .ref lg] (fun H => va_at K.1 classes (b, .inr (7, [.int f1, .int f2, .int f3, .int f4, .ref sa, .int lo, .int hi, .ref a1, .ref a2])) H ∧ (va_at K.1 classes (a1, .inr (c1, .int g11 :: .int g21 :: .int g31 :: .int (nI d1) :: .ref sa1 :: xs1)) H ∧ va_at K.1 classes (sa1, .inl (kJ K, 24, .inr (.inl st1))) H) ∧ (va_at K.1 classes (a2, .inr (c2, .int g12 :: .int g22 :: .int g32 :: .int (nI d2) :: .ref sa2 :: xs2)) H ∧ va_at K.1 classes (sa2, .inl (kJ K, 24, .inr (.inl st2))) H) ∧ va_at K.1 classes (lg, .inr (9, [.ref tm, .ref pr, .long G, .int (nI N)])) H ∧ va_at K.1 classes (tm, .inl (kI K, 24, .inl T)) H)) (vp_Si (fun r => r = nI (ct (fun x => decide (hi < T (min (min d1 d2) (N - 1)) - T x))  (min (min d1 d2) (N - 1))))) 0 0 (fun _ => False) := by
  refine met0 (own := "MetricLogMonitor$Until") (by decide) rfl (Nat.le_of_ble_eq_true rfl) (fun p e s m below meth c ls S hr hk hnm hC hH hl => ?_)
  obtain ⟨hb, ⟨hp1, hs1⟩, ⟨hp2, hs2⟩, hg, ht⟩ := hH
  have hl : lv_has ls 5 [(0, .ref b), (1, .ref lg)] := hl
  refine lv_aload_n S.1 S.2.1 d_Until_reach_0 rfl (lv_at hl 0 rfl) ?_
  refine o_get (v := .ref a1) S hC kf_Until hb rfl 7 (by decide) q_441 rfl d_Until_reach_1 ?_
  refine fm_get (v := .int (nI d1)) S hC hc1 3 (by decide) hp1 q_161  rfl d_Until_reach_4 ?_
  refine lv_aload_n S.1 S.2.1 d_Until_reach_7 rfl (lv_at hl 0 rfl) ?_
  refine o_get (v := .ref a2) S hC kf_Until hb rfl 8 (by decide) q_442 rfl d_Until_reach_8 ?_
  refine fm_get (v := .int (nI d2)) S hC hc2 3 (by decide) hp2 q_161  rfl d_Until_reach_11 ?_
  refine va_mmin S.1 S.2.1 (by rw [S.2.2.1]; exact hl.1.symm) S.2.2.2.1 (S.2.2.2.2 _ q_558) (S.2.2.2.2 _ q_240) (S.2.2.2.2 _ q_10) (S.2.2.2.2 _ q_241) (Nat.le_of_ble_eq_true rfl) (Nat.le_of_ble_eq_true rfl) (Nat.zero_le _) (Nat.zero_le _) d_Until_reach_14 ?_
  refine tpi (y := nI (min d1 d2)) (nI_min (by omega) (by omega)) ?_
  refine lv_aload_n S.1 S.2.1 d_Until_reach_17 rfl (lv_at hl 1 rfl) ?_
  refine o_get (v := .int (nI N)) S hC kf_Log hg rfl 3 (by decide) q_69 rfl d_Until_reach_18 ?_
  refine lv_iconst (v := 1) S.1 S.2.1 d_Until_reach_21 (by decide) ?_
  refine lv_isub S.1 S.2.1 d_Until_reach_22 ?_
  refine tpi (y := nI (N - 1)) (nI_m1 hN1) ?_
  refine va_mmin S.1 S.2.1 (by rw [S.2.2.1]; exact hl.1.symm) S.2.2.2.1 (S.2.2.2.2 _ q_558) (S.2.2.2.2 _ q_240) (S.2.2.2.2 _ q_10) (S.2.2.2.2 _ q_241) (Nat.le_of_ble_eq_true rfl) (Nat.le_of_ble_eq_true rfl) (Nat.zero_le _) (Nat.zero_le _) d_Until_reach_23 ?_
  refine tpi (y := nI (min (min d1 d2) (N - 1))) (nI_min (by omega) (by omega)) ?_
  refine lv_istore_n S.1 S.2.1 d_Until_reach_26 rfl hl (by decide) rfl (fun ls hl => ?_)
  have hl : lv_has ls 5 [(2, .int (nI (min (min d1 d2) (N - 1)))), (0, .ref b), (1, .ref lg)] := hl
  refine lv_iconst (v := 0) S.1 S.2.1 d_Until_reach_27 (by decide) ?_
  refine lv_istore_n S.1 S.2.1 d_Until_reach_28 rfl hl (by decide) rfl (fun ls hl => ?_)
  have hl : lv_has ls 5 [(3, .int 0), (2, .int (nI (min (min d1 d2) (N - 1)))), (0, .ref b), (1, .ref lg)] := hl
  refine lv_iconst (v := 0) S.1 S.2.1 d_Until_reach_29 (by decide) ?_
  refine lv_istore S.1 S.2.1 d_Until_reach_30 hl (by decide) rfl (fun ls hl => ?_)
  have hl : lv_has ls 5 [(4, .int 0), (3, .int 0), (2, .int (nI (min (min d1 d2) (N - 1)))), (0, .ref b), (1, .ref lg)] := hl
  have key32 : ∀ (d32 : Nat) (n : Nat) (q : Int32) (ls : Array Slot), n + d32 = min (min d1 d2) (N - 1) → (q = nI (ct (fun x => decide (hi < T (min (min d1 d2) (N - 1)) - T x))  n)) → lv_has ls 5 [(4, .int (nI n)), (3, .int q), (2, .int (nI (min (min d1 d2) (N - 1)))), (0, .ref b), (1, .ref lg)] → W p l e ({ frames := 1, cells := 0, slots := 0, locals := 22 } : Room) s m ([.ref b, .ref lg] : List Value).toArray below meth c s.heap [] 0 0 (MQ below (vp_Si (fun r => r = nI (ct (fun x => decide (hi < T (min (min d1 d2) (N - 1)) - T x))  (min (min d1 d2) (N - 1))))) ([.ref b, .ref lg] : List Value).toArray s 0 0 (fun _ => False)) (F0 m 32 ls []) := by
    intro d32
    induction d32 with
    | zero =>
      intro n q ls hd32 hI hl
      refine lv_iload S.1 S.2.1 d_Until_reach_32 (lv_at hl 0 rfl) ?_
      refine lv_iload_n S.1 S.2.1 d_Until_reach_34 rfl (lv_at hl 2 rfl) ?_
      refine lv_icmp_ge (tgt := 61) S.1 S.2.1 d_Until_reach_35 (by decide) (fun _ => ?_) (fun hx9 => absurd (nI_le (by omega) (by omega)) hx9)
      refine lv_iload_n S.1 S.2.1 d_Until_reach_61 rfl (lv_at hl 1 rfl) ?_
      exact r_i S hr hk d_Until_reach_62 (by rw [hI, show n = min (min d1 d2) (N - 1) by omega])
    | succ d32 ih32 =>
      intro n q ls hd32 hI hl
      refine lv_iload S.1 S.2.1 d_Until_reach_32 (lv_at hl 0 rfl) ?_
      refine lv_iload_n S.1 S.2.1 d_Until_reach_34 rfl (lv_at hl 2 rfl) ?_
      refine lv_icmp_ge (tgt := 61) S.1 S.2.1 d_Until_reach_35 (by decide) (fun hx9 => absurd hx9 (nI_ge (by omega) (by omega))) (fun _ => ?_)
      refine lv_aload_n S.1 S.2.1 d_Until_reach_38 rfl (lv_at hl 4 rfl) ?_
      refine lv_iload S.1 S.2.1 d_Until_reach_39 (lv_at hl 0 rfl) ?_
      refine lv_iload_n S.1 S.2.1 d_Until_reach_41 rfl (lv_at hl 2 rfl) ?_
      refine kVi (rest := []) S (c_Log_duration (i := n) (j := (min (min d1 d2) (N - 1))) l (by omega) (by omega)) kc_Log_duration ⟨q_559, q_560, q_561⟩ rfl rfl ⟨Nat.le_of_ble_eq_true rfl, Nat.le_of_ble_eq_true rfl⟩ hC (hSF s) (hAF K) ⟨hg, ht⟩ ⟨9, _, _, _, rfl, hg⟩ ⟨Nat.zero_le _, Nat.zero_le _⟩ hl.1 rfl rfl (Nat.le_of_ble_eq_true rfl) d_Until_reach_42 (fun r er => ?_)
      subst er
      refine lv_aload_n S.1 S.2.1 d_Until_reach_45 rfl (lv_at hl 3 rfl) ?_
      refine o_get (v := .int hi) S hC kf_Until hb rfl 6 (by decide) q_440 rfl d_Until_reach_46 ?_
      refine lv_icmp_le (tgt := 55) S.1 S.2.1 d_Until_reach_49 (by decide) (fun hbr1 => ?_) (fun hbr1 => ?_)
      · refine lv_iinc (v := nI (n + 1)) S.1 S.2.1 d_Until_reach_55 hl (k := 0) rfl (nI_1 n) (by decide) rfl (fun ls hl => ?_)
        have hl : lv_has ls 5 [(4, .int (nI (n + 1))), (3, .int q), (2, .int (nI (min (min d1 d2) (N - 1)))), (0, .ref b), (1, .ref lg)] := hl
        refine lv_goto (tgt := 32) S.1 S.2.1 d_Until_reach_58 (by decide) ?_
        exact ih32 (n + 1) q ls (by omega) (by rw [hI]; exact congrArg nI (ct_s0 (decide_eq_false (fun h => (i32_nlt.mpr hbr1) h)))) (lv_sub hl [0, 1, 2, 3, 4] rfl)
      · refine lv_iinc (v := q + 1) S.1 S.2.1 d_Until_reach_52 hl (k := 1) rfl rfl (by decide) rfl (fun ls hl => ?_)
        have hl : lv_has ls 5 [(3, .int (q + 1)), (4, .int (nI n)), (2, .int (nI (min (min d1 d2) (N - 1)))), (0, .ref b), (1, .ref lg)] := hl
        refine lv_iinc (v := nI (n + 1)) S.1 S.2.1 d_Until_reach_55 hl (k := 1) rfl (nI_1 n) (by decide) rfl (fun ls hl => ?_)
        have hl : lv_has ls 5 [(4, .int (nI (n + 1))), (3, .int (q + 1)), (2, .int (nI (min (min d1 d2) (N - 1)))), (0, .ref b), (1, .ref lg)] := hl
        refine lv_goto (tgt := 32) S.1 S.2.1 d_Until_reach_58 (by decide) ?_
        exact ih32 (n + 1) (q + 1) ls (by omega) (by rw [hI, nI_1]; exact congrArg nI (ct_s1 (decide_eq_true (i32_nlt2 hbr1)))) (lv_sub hl [0, 1, 2, 3, 4] rfl)
  exact key32 (min (min d1 d2) (N - 1)) 0 0 ls (by omega) rfl (lv_sub hl [0, 1, 2, 3, 4] rfl)
set_option maxHeartbeats 4000000 in
set_option maxRecDepth 100000 in
theorem c_Atom_evaluate (l : Launch) {K : KT} {b : Nat} {f1 f2 f3 f4 : Int32} {sa : Nat} {r a b2 : Nat} {lg tm pr : Nat} {G : Int64} {N : Nat} {Qp : Nat → Int64} {i : Nat} (hi : i < 24) (hr2 : r ≤ 2) (ha2 : tmr a) (hb2 : tmr b2) : Met l y_Atom_evaluate (Cond.code y_Atom_evaluate b_Atom_evaluate 6 (some Jvm.ClassFile.FieldType.long) :: WALL) { frames := 2, cells := 0, slots := 0, locals := 41 } (pc0 K [.ref b, .ref lg, .int (nI i)] (fun H => va_at K.1 classes (b, .inr (0, [.int f1, .int f2, .int f3, .int f4, .ref sa, .int (nI r), .int (nI a), .int (nI b2)])) H ∧ va_at K.1 classes (lg, .inr (9, [.ref tm, .ref pr, .long G, .int (nI N)])) H ∧ va_at K.1 classes (pr, .inl (kJ K, 24, .inr (.inl Qp))) H)) (vp_Sl (fun z => ∀ x, x < 64 → tb z x = (fun x => tb (Qp i) (16 * r + 4 * vl a x + vl b2 x)) x)) 0 0 (fun _ => False) := by
  refine met0 (own := "MetricLogMonitor$Atom") (by decide) rfl (Nat.le_of_ble_eq_true rfl) (fun p e s m below meth c ls S hr hk hnm hC hH hl => ?_)
  obtain ⟨hb, hg, hq⟩ := hH
  have hl : lv_has ls 6 [(0, .ref b), (1, .ref lg), (2, .int (nI i))] := hl
  refine lv_lconst (v := 0) S.1 S.2.1 d_Atom_evaluate_0 (by decide) ?_
  refine lv_lstore_n S.1 S.2.1 d_Atom_evaluate_1 rfl hl (by decide) rfl (fun ls hl => ?_)
  have hl : lv_has ls 6 [(3, .long 0), (0, .ref b), (1, .ref lg), (2, .int (nI i))] := hl
  refine lv_iconst (v := 0) S.1 S.2.1 d_Atom_evaluate_2 (by decide) ?_
  refine lv_istore S.1 S.2.1 d_Atom_evaluate_3 hl (by decide) rfl (fun ls hl => ?_)
  have hl : lv_has ls 6 [(5, .int 0), (3, .long 0), (0, .ref b), (1, .ref lg), (2, .int (nI i))] := hl
  have key5 : ∀ (d5 : Nat) (n : Nat) (x : Int64) (ls : Array Slot), n + d5 = 64 → (bld (fun x => tb (Qp i) (16 * r + 4 * vl a x + vl b2 x)) n x) → lv_has ls 6 [(5, .int (nI n)), (3, .long x), (0, .ref b), (1, .ref lg), (2, .int (nI i))] → W p l e ({ frames := 2, cells := 0, slots := 0, locals := 41 } : Room) s m ([.ref b, .ref lg, .int (nI i)] : List Value).toArray below meth c s.heap [] 0 0 (MQ below (vp_Sl (fun z => ∀ x, x < 64 → tb z x = (fun x => tb (Qp i) (16 * r + 4 * vl a x + vl b2 x)) x)) ([.ref b, .ref lg, .int (nI i)] : List Value).toArray s 0 0 (fun _ => False)) (F0 m 5 ls []) := by
    intro d5
    induction d5 with
    | zero =>
      intro n x ls hd5 hI hl
      obtain rfl : n = 64 := by omega
      refine lv_iload S.1 S.2.1 d_Atom_evaluate_5 (lv_at hl 0 rfl) ?_
      refine lv_bipush (v := 64) S.1 S.2.1 d_Atom_evaluate_7 (by decide) ?_
      refine lv_icmp_ge (tgt := 62) S.1 S.2.1 d_Atom_evaluate_9 (by decide) (fun _ => ?_) (fun hx9 => absurd (by decide) hx9)
      refine lv_lload_n S.1 S.2.1 d_Atom_evaluate_62 rfl (lv_at hl 1 rfl) ?_
      exact r_l S hr hk d_Atom_evaluate_63 (bld_64 hI)
    | succ d5 ih5 =>
      intro n x ls hd5 hI hl
      refine lv_iload S.1 S.2.1 d_Atom_evaluate_5 (lv_at hl 0 rfl) ?_
      refine lv_bipush (v := 64) S.1 S.2.1 d_Atom_evaluate_7 (by decide) ?_
      refine lv_icmp_ge (tgt := 62) S.1 S.2.1 d_Atom_evaluate_9 (by decide) (fun hx9 => absurd hx9 (nI_ge (b := 64) (by omega) (by decide))) (fun _ => ?_)
      refine lv_aload_n S.1 S.2.1 d_Atom_evaluate_12 rfl (lv_at hl 3 rfl) ?_
      refine o_get (v := .ref pr) S hC kf_Log hg rfl 1 (by decide) q_65 rfl d_Atom_evaluate_13 ?_
      refine lv_iload_n S.1 S.2.1 d_Atom_evaluate_16 rfl (lv_at hl 4 rfl) ?_
      refine o_lald (j := i) S hC hq (by decide) (by omega) d_Atom_evaluate_17 ?_
      refine lv_aload_n S.1 S.2.1 d_Atom_evaluate_18 rfl (lv_at hl 2 rfl) ?_
      refine o_get (v := .int (nI r)) S hC kf_Atom hb rfl 5 (by decide) q_133 rfl d_Atom_evaluate_19 ?_
      refine lv_aload_n S.1 S.2.1 d_Atom_evaluate_22 rfl (lv_at hl 2 rfl) ?_
      refine o_get (v := .int (nI a)) S hC kf_Atom hb rfl 6 (by decide) q_134 rfl d_Atom_evaluate_23 ?_
      refine lv_iload S.1 S.2.1 d_Atom_evaluate_26 (lv_at hl 0 rfl) ?_
      refine kNi (rest := [.int (nI r), .long (Qp i)]) S (c_M_valueOf l (nI a) (nI n)) kc_M_valueOf ⟨qn_570, q_571⟩ rfl rfl ⟨Nat.le_of_ble_eq_true rfl, Nat.le_of_ble_eq_true rfl⟩ hC (hSF s) (hAF K) trivial ⟨Nat.zero_le _, Nat.zero_le _⟩ hl.1 rfl rfl (Nat.le_of_ble_eq_true rfl) d_Atom_evaluate_28 (fun r er => ?_)
      subst er
      refine lv_aload_n S.1 S.2.1 d_Atom_evaluate_31 rfl (lv_at hl 2 rfl) ?_
      refine o_get (v := .int (nI b2)) S hC kf_Atom hb rfl 7 (by decide) q_135 rfl d_Atom_evaluate_32 ?_
      refine lv_iload S.1 S.2.1 d_Atom_evaluate_35 (lv_at hl 0 rfl) ?_
      refine kNi (rest := [.int (f_M_valueOf (nI a) (nI n)), .int (nI r), .long (Qp i)]) S (c_M_valueOf l (nI b2) (nI n)) kc_M_valueOf ⟨qn_570, q_571⟩ rfl rfl ⟨Nat.le_of_ble_eq_true rfl, Nat.le_of_ble_eq_true rfl⟩ hC (hSF s) (hAF K) trivial ⟨Nat.zero_le _, Nat.zero_le _⟩ hl.1 rfl rfl (Nat.le_of_ble_eq_true rfl) d_Atom_evaluate_37 (fun r er => ?_)
      subst er
      refine kNl (rest := [.long (Qp i)]) S (c_M_pairBit l (nI r) (f_M_valueOf (nI a) (nI n)) (f_M_valueOf (nI b2) (nI n))) kc_M_pairBit ⟨qn_573, q_497⟩ rfl rfl ⟨Nat.le_of_ble_eq_true rfl, Nat.le_of_ble_eq_true rfl⟩ hC (hSF s) (hAF K) trivial ⟨Nat.zero_le _, Nat.zero_le _⟩ hl.1 rfl rfl (Nat.le_of_ble_eq_true rfl) d_Atom_evaluate_40 (fun r er => ?_)
      subst er
      refine lv_land S.1 S.2.1 d_Atom_evaluate_43 ?_
      refine lv_lconst (v := 0) S.1 S.2.1 d_Atom_evaluate_44 (by decide) ?_
      refine W.lcmp S.1 S.2.1 d_Atom_evaluate_45 ?_
      refine lv_if_eq (tgt := 56) S.1 S.2.1 d_Atom_evaluate_46 (by decide) (fun hbr1 => ?_) (fun hbr1 => ?_)
      · refine lv_iinc (v := nI (n + 1)) S.1 S.2.1 d_Atom_evaluate_56 hl (k := 0) rfl (nI_1 n) (by decide) rfl (fun ls hl => ?_)
        have hl : lv_has ls 6 [(5, .int (nI (n + 1))), (3, .long x), (0, .ref b), (1, .ref lg), (2, .int (nI i))] := hl
        refine lv_goto (tgt := 5) S.1 S.2.1 d_Atom_evaluate_59 (by decide) ?_
        exact ih5 (n + 1) x ls (by omega) (bld_f hI ((atom_bit hr2 ha2 hb2 (by omega)).mp hbr1)) (lv_sub hl [0, 1, 2, 3, 4] rfl)
      · refine lv_lload_n S.1 S.2.1 d_Atom_evaluate_49 rfl (lv_at hl 1 rfl) ?_
        refine lv_lconst (v := 1) S.1 S.2.1 d_Atom_evaluate_50 (by decide) ?_
        refine lv_iload S.1 S.2.1 d_Atom_evaluate_51 (lv_at hl 0 rfl) ?_
        refine lv_lshl (v := ((1 : Int64) <<< ((nI n : Int32).toInt64 &&& 63))) S.1 S.2.1 d_Atom_evaluate_53 rfl ?_
        refine lv_lor S.1 S.2.1 d_Atom_evaluate_54 ?_
        refine lv_lstore_n S.1 S.2.1 d_Atom_evaluate_55 rfl hl (by decide) rfl (fun ls hl => ?_)
        have hl : lv_has ls 6 [(3, .long (x ||| ((1 : Int64) <<< ((nI n : Int32).toInt64 &&& 63)))), (5, .int (nI n)), (0, .ref b), (1, .ref lg), (2, .int (nI i))] := hl
        refine lv_iinc (v := nI (n + 1)) S.1 S.2.1 d_Atom_evaluate_56 hl (k := 1) rfl (nI_1 n) (by decide) rfl (fun ls hl => ?_)
        have hl : lv_has ls 6 [(5, .int (nI (n + 1))), (3, .long (x ||| ((1 : Int64) <<< ((nI n : Int32).toInt64 &&& 63)))), (0, .ref b), (1, .ref lg), (2, .int (nI i))] := hl
        refine lv_goto (tgt := 5) S.1 S.2.1 d_Atom_evaluate_59 (by decide) ?_
        exact ih5 (n + 1) _ ls (by omega) (bld_t (by omega) hI (bnf (fun hz => hbr1 ((atom_bit hr2 ha2 hb2 (by omega)).mpr hz)))) (lv_sub hl [0, 1, 2, 3, 4] rfl)
  exact key5 64 0 0 ls rfl (bld_0 _) (lv_sub hl [0, 1, 2, 3, 4] rfl)
set_option maxHeartbeats 4000000 in
set_option maxRecDepth 100000 in
theorem c_Comp_evaluate (l : Launch) {K : KT} {b : Nat} {f1 f2 f3 f4 : Int32} {sa : Nat} {less : Int32} {a b2 i lg : Nat} (ha2 : tmr a) (hb2 : tmr b2) : Met l y_Comp_evaluate (Cond.code y_Comp_evaluate b_Comp_evaluate 8 (some Jvm.ClassFile.FieldType.long) :: WALL) { frames := 2, cells := 0, slots := 0, locals := 41 } (pc0 K [.ref b, .ref lg, .int (nI i)] (fun H => va_at K.1 classes (b, .inr (1, [.int f1, .int f2, .int f3, .int f4, .ref sa, .int less, .int (nI a), .int (nI b2)])) H)) (vp_Sl (fun z => ∀ x, x < 64 → tb z x = cmpAt less a b2 x)) 0 0 (fun _ => False) := by
  refine met0 (own := "MetricLogMonitor$Comparison") (by decide) rfl (Nat.le_of_ble_eq_true rfl) (fun p e s m below meth c ls S hr hk hnm hC hH hl => ?_)
  have hl : lv_has ls 8 [(0, .ref b), (1, .ref lg), (2, .int (nI i))] := hl
  refine lv_lconst (v := 0) S.1 S.2.1 d_Comp_evaluate_0 (by decide) ?_
  refine lv_lstore_n S.1 S.2.1 d_Comp_evaluate_1 rfl hl (by decide) rfl (fun ls hl => ?_)
  have hl : lv_has ls 8 [(3, .long 0), (0, .ref b), (1, .ref lg), (2, .int (nI i))] := hl
  refine lv_iconst (v := 0) S.1 S.2.1 d_Comp_evaluate_2 (by decide) ?_
  refine lv_istore S.1 S.2.1 d_Comp_evaluate_3 hl (by decide) rfl (fun ls hl => ?_)
  have hl : lv_has ls 8 [(5, .int 0), (3, .long 0), (0, .ref b), (1, .ref lg), (2, .int (nI i))] := hl
  have key5 : ∀ (d5 : Nat) (n : Nat) (x : Int64) (ls : Array Slot), n + d5 = 64 → (bld (cmpAt less a b2) n x) → lv_has ls 8 [(5, .int (nI n)), (3, .long x), (0, .ref b), (1, .ref lg), (2, .int (nI i))] → W p l e ({ frames := 2, cells := 0, slots := 0, locals := 41 } : Room) s m ([.ref b, .ref lg, .int (nI i)] : List Value).toArray below meth c s.heap [] 0 0 (MQ below (vp_Sl (fun z => ∀ x, x < 64 → tb z x = cmpAt less a b2 x)) ([.ref b, .ref lg, .int (nI i)] : List Value).toArray s 0 0 (fun _ => False)) (F0 m 5 ls []) := by
    intro d5
    induction d5 with
    | zero =>
      intro n x ls hd5 hI hl
      obtain rfl : n = 64 := by omega
      refine lv_iload S.1 S.2.1 d_Comp_evaluate_5 (lv_at hl 0 rfl) ?_
      refine lv_bipush (v := 64) S.1 S.2.1 d_Comp_evaluate_7 (by decide) ?_
      refine lv_icmp_ge (tgt := 71) S.1 S.2.1 d_Comp_evaluate_9 (by decide) (fun _ => ?_) (fun hx9 => absurd (by decide) hx9)
      refine lv_lload_n S.1 S.2.1 d_Comp_evaluate_71 rfl (lv_at hl 1 rfl) ?_
      exact r_l S hr hk d_Comp_evaluate_72 (bld_64 hI)
    | succ d5 ih5 =>
      intro n x ls hd5 hI hl
      refine lv_iload S.1 S.2.1 d_Comp_evaluate_5 (lv_at hl 0 rfl) ?_
      refine lv_bipush (v := 64) S.1 S.2.1 d_Comp_evaluate_7 (by decide) ?_
      refine lv_icmp_ge (tgt := 71) S.1 S.2.1 d_Comp_evaluate_9 (by decide) (fun hx9 => absurd hx9 (nI_ge (b := 64) (by omega) (by decide))) (fun _ => ?_)
      refine lv_aload_n S.1 S.2.1 d_Comp_evaluate_12 rfl (lv_at hl 2 rfl) ?_
      refine o_get (v := .int (nI a)) S hC kf_Comp hH rfl 6 (by decide) q_263 rfl d_Comp_evaluate_13 ?_
      refine lv_iload S.1 S.2.1 d_Comp_evaluate_16 (lv_at hl 0 rfl) ?_
      refine kNi (rest := []) S (c_M_valueOf l (nI a) (nI n)) kc_M_valueOf ⟨qn_577, q_571⟩ rfl rfl ⟨Nat.le_of_ble_eq_true rfl, Nat.le_of_ble_eq_true rfl⟩ hC (hSF s) (hAF K) trivial ⟨Nat.zero_le _, Nat.zero_le _⟩ hl.1 rfl rfl (Nat.le_of_ble_eq_true rfl) d_Comp_evaluate_18 (fun r er => ?_)
      subst er
      refine lv_istore S.1 S.2.1 d_Comp_evaluate_21 hl (by decide) rfl (fun ls hl => ?_)
      have hl : lv_has ls 8 [(6, .int (f_M_valueOf (nI a) (nI n))), (5, .int (nI n)), (3, .long x), (0, .ref b), (1, .ref lg), (2, .int (nI i))] := hl
      refine lv_aload_n S.1 S.2.1 d_Comp_evaluate_23 rfl (lv_at hl 3 rfl) ?_
      refine o_get (v := .int (nI b2)) S hC kf_Comp hH rfl 7 (by decide) q_264 rfl d_Comp_evaluate_24 ?_
      refine lv_iload S.1 S.2.1 d_Comp_evaluate_27 (lv_at hl 1 rfl) ?_
      refine kNi (rest := []) S (c_M_valueOf l (nI b2) (nI n)) kc_M_valueOf ⟨qn_577, q_571⟩ rfl rfl ⟨Nat.le_of_ble_eq_true rfl, Nat.le_of_ble_eq_true rfl⟩ hC (hSF s) (hAF K) trivial ⟨Nat.zero_le _, Nat.zero_le _⟩ hl.1 rfl rfl (Nat.le_of_ble_eq_true rfl) d_Comp_evaluate_29 (fun r er => ?_)
      subst er
      refine lv_istore S.1 S.2.1 d_Comp_evaluate_32 hl (by decide) rfl (fun ls hl => ?_)
      have hl : lv_has ls 8 [(7, .int (f_M_valueOf (nI b2) (nI n))), (6, .int (f_M_valueOf (nI a) (nI n))), (5, .int (nI n)), (3, .long x), (0, .ref b), (1, .ref lg), (2, .int (nI i))] := hl
      refine lv_aload_n S.1 S.2.1 d_Comp_evaluate_34 rfl (lv_at hl 4 rfl) ?_
      refine o_get (v := .int less) S hC kf_Comp hH rfl 5 (by decide) q_262 rfl d_Comp_evaluate_35 ?_
      refine lv_if_eq (tgt := 51) S.1 S.2.1 d_Comp_evaluate_38 (by decide) (fun hbr1 => ?_) (fun hbr1 => ?_)
      · refine lv_iload S.1 S.2.1 d_Comp_evaluate_51 (lv_at hl 1 rfl) ?_
        refine lv_iload S.1 S.2.1 d_Comp_evaluate_53 (lv_at hl 0 rfl) ?_
        refine lv_icmp_ne (tgt := 65) S.1 S.2.1 d_Comp_evaluate_55 (by decide) (fun hbr2 => ?_) (fun hbr2 => ?_)
        · refine lv_iinc (v := nI (n + 1)) S.1 S.2.1 d_Comp_evaluate_65 hl (k := 2) rfl (nI_1 n) (by decide) rfl (fun ls hl => ?_)
          have hl : lv_has ls 8 [(5, .int (nI (n + 1))), (7, .int (f_M_valueOf (nI b2) (nI n))), (6, .int (f_M_valueOf (nI a) (nI n))), (3, .long x), (0, .ref b), (1, .ref lg), (2, .int (nI i))] := hl
          refine lv_goto (tgt := 5) S.1 S.2.1 d_Comp_evaluate_68 (by decide) ?_
          exact ih5 (n + 1) x ls (by omega) (bld_f hI (by unfold cmpAt; rw [if_pos hbr1]; exact decide_eq_false (fun hz => hbr2 ((cmp_eq ha2 hb2 (by omega)).mpr hz)))) (lv_sub hl [0, 3, 4, 5, 6] rfl)
        · refine lv_lload_n S.1 S.2.1 d_Comp_evaluate_58 rfl (lv_at hl 3 rfl) ?_
          refine lv_lconst (v := 1) S.1 S.2.1 d_Comp_evaluate_59 (by decide) ?_
          refine lv_iload S.1 S.2.1 d_Comp_evaluate_60 (lv_at hl 2 rfl) ?_
          refine lv_lshl (v := ((1 : Int64) <<< ((nI n : Int32).toInt64 &&& 63))) S.1 S.2.1 d_Comp_evaluate_62 rfl ?_
          refine lv_lor S.1 S.2.1 d_Comp_evaluate_63 ?_
          refine lv_lstore_n S.1 S.2.1 d_Comp_evaluate_64 rfl hl (by decide) rfl (fun ls hl => ?_)
          have hl : lv_has ls 8 [(3, .long (x ||| ((1 : Int64) <<< ((nI n : Int32).toInt64 &&& 63)))), (7, .int (f_M_valueOf (nI b2) (nI n))), (6, .int (f_M_valueOf (nI a) (nI n))), (5, .int (nI n)), (0, .ref b), (1, .ref lg), (2, .int (nI i))] := hl
          refine lv_iinc (v := nI (n + 1)) S.1 S.2.1 d_Comp_evaluate_65 hl (k := 3) rfl (nI_1 n) (by decide) rfl (fun ls hl => ?_)
          have hl : lv_has ls 8 [(5, .int (nI (n + 1))), (3, .long (x ||| ((1 : Int64) <<< ((nI n : Int32).toInt64 &&& 63)))), (7, .int (f_M_valueOf (nI b2) (nI n))), (6, .int (f_M_valueOf (nI a) (nI n))), (0, .ref b), (1, .ref lg), (2, .int (nI i))] := hl
          refine lv_goto (tgt := 5) S.1 S.2.1 d_Comp_evaluate_68 (by decide) ?_
          exact ih5 (n + 1) _ ls (by omega) (bld_t (by omega) hI (by unfold cmpAt; rw [if_pos hbr1]; exact decide_eq_true ((cmp_eq ha2 hb2 (by omega)).mp hbr2))) (lv_sub hl [0, 1, 4, 5, 6] rfl)
      · refine lv_iload S.1 S.2.1 d_Comp_evaluate_41 (lv_at hl 1 rfl) ?_
        refine lv_iload S.1 S.2.1 d_Comp_evaluate_43 (lv_at hl 0 rfl) ?_
        refine lv_icmp_ge (tgt := 65) S.1 S.2.1 d_Comp_evaluate_45 (by decide) (fun hbr3 => ?_) (fun hbr3 => ?_)
        · refine lv_iinc (v := nI (n + 1)) S.1 S.2.1 d_Comp_evaluate_65 hl (k := 2) rfl (nI_1 n) (by decide) rfl (fun ls hl => ?_)
          have hl : lv_has ls 8 [(5, .int (nI (n + 1))), (7, .int (f_M_valueOf (nI b2) (nI n))), (6, .int (f_M_valueOf (nI a) (nI n))), (3, .long x), (0, .ref b), (1, .ref lg), (2, .int (nI i))] := hl
          refine lv_goto (tgt := 5) S.1 S.2.1 d_Comp_evaluate_68 (by decide) ?_
          exact ih5 (n + 1) x ls (by omega) (bld_f hI (by unfold cmpAt; rw [if_neg hbr1]; exact decide_eq_false (by have := (cmp_le ha2 hb2 (by omega)).mp hbr3; omega))) (lv_sub hl [0, 3, 4, 5, 6] rfl)
        · refine lv_goto (tgt := 58) S.1 S.2.1 d_Comp_evaluate_48 (by decide) ?_
          refine lv_lload_n S.1 S.2.1 d_Comp_evaluate_58 rfl (lv_at hl 3 rfl) ?_
          refine lv_lconst (v := 1) S.1 S.2.1 d_Comp_evaluate_59 (by decide) ?_
          refine lv_iload S.1 S.2.1 d_Comp_evaluate_60 (lv_at hl 2 rfl) ?_
          refine lv_lshl (v := ((1 : Int64) <<< ((nI n : Int32).toInt64 &&& 63))) S.1 S.2.1 d_Comp_evaluate_62 rfl ?_
          refine lv_lor S.1 S.2.1 d_Comp_evaluate_63 ?_
          refine lv_lstore_n S.1 S.2.1 d_Comp_evaluate_64 rfl hl (by decide) rfl (fun ls hl => ?_)
          have hl : lv_has ls 8 [(3, .long (x ||| ((1 : Int64) <<< ((nI n : Int32).toInt64 &&& 63)))), (7, .int (f_M_valueOf (nI b2) (nI n))), (6, .int (f_M_valueOf (nI a) (nI n))), (5, .int (nI n)), (0, .ref b), (1, .ref lg), (2, .int (nI i))] := hl
          refine lv_iinc (v := nI (n + 1)) S.1 S.2.1 d_Comp_evaluate_65 hl (k := 3) rfl (nI_1 n) (by decide) rfl (fun ls hl => ?_)
          have hl : lv_has ls 8 [(5, .int (nI (n + 1))), (3, .long (x ||| ((1 : Int64) <<< ((nI n : Int32).toInt64 &&& 63)))), (7, .int (f_M_valueOf (nI b2) (nI n))), (6, .int (f_M_valueOf (nI a) (nI n))), (0, .ref b), (1, .ref lg), (2, .int (nI i))] := hl
          refine lv_goto (tgt := 5) S.1 S.2.1 d_Comp_evaluate_68 (by decide) ?_
          exact ih5 (n + 1) _ ls (by omega) (bld_t (by omega) hI (by unfold cmpAt; rw [if_neg hbr1]; exact decide_eq_true (by have := (not_congr (cmp_le ha2 hb2 (by omega))).mp hbr3; omega))) (lv_sub hl [0, 1, 4, 5, 6] rfl)
  exact key5 64 0 0 ls rfl (bld_0 _) (lv_sub hl [0, 1, 2, 3, 4] rfl)
set_option maxHeartbeats 4000000 in
set_option maxRecDepth 100000 in
theorem c_Not_evaluate (l : Launch) {K : KT} {b : Nat} {f1 f2 f3 f4 : Int32} {sa : Nat} {a1 c1 d1 sa1 : Nat} {g11 g21 g31 : Int32} {xs1 : List Value} {st1 : Nat → Int64} {lg i : Nat} (hc1 : c1 < 8) (hd1 : d1 ≤ 24) (hi : i < 24) : Met l y_Not_evaluate (Cond.code y_Not_evaluate b_Not_evaluate 3 (some Jvm.ClassFile.FieldType.long) :: WALL) { frames := 2, cells := 0, slots := 0, locals := 42 } (pc0 K [.ref b, .ref lg, .int (nI i)] (fun H => va_at K.1 classes (b, .inr (2, [.int f1, .int f2, .int f3, .int f4, .ref sa, .ref a1])) H ∧ va_at K.1 classes (a1, .inr (c1, .int g11 :: .int g21 :: .int g31 :: .int (nI d1) :: .ref sa1 :: xs1)) H ∧ va_at K.1 classes (sa1, .inl (kJ K, 24, .inr (.inl st1))) H)) (vp_Sl (fun r => r = sv d1 st1 i ^^^ (-1))) 0 0 (fun _ => False) := by
  refine met0 (own := "MetricLogMonitor$Not") (by decide) rfl (Nat.le_of_ble_eq_true rfl) (fun p e s m below meth c ls S hr hk hnm hC hH hl => ?_)
  obtain ⟨hb, hp1, hs1⟩ := hH
  have hl : lv_has ls 3 [(0, .ref b), (1, .ref lg), (2, .int (nI i))] := hl
  refine lv_aload_n S.1 S.2.1 d_Not_evaluate_0 rfl (lv_at hl 0 rfl) ?_
  refine o_get (v := .ref a1) S hC kf_Not hb rfl 5 (by decide) q_306 rfl d_Not_evaluate_1 ?_
  refine lv_iload_n S.1 S.2.1 d_Not_evaluate_4 rfl (lv_at hl 2 rfl) ?_
  refine kFl (rest := []) S (c_Form_setAt l hc1 hd1 (nI i)) kc_Form_setAt fm_2 ⟨q_620, q_583, q_582⟩ rfl rfl rfl ⟨Nat.le_of_ble_eq_true rfl, Nat.le_of_ble_eq_true rfl⟩ hC (hSF s) (hAF K) ⟨hp1, hs1⟩ hc1 hp1 ⟨Nat.zero_le _, Nat.zero_le _⟩ hl.1 rfl rfl (Nat.le_of_ble_eq_true rfl) d_Not_evaluate_5 (fun r er => ?_)
  have er := sv_of hd1 (by omega) er
  subst er
  refine lv_ldc2 (v := (-1)) S.1 S.2.1 S.2.2.2.1 (S.2.2.2.2 _ q_621) d_Not_evaluate_8 ?_
  refine lv_lxor S.1 S.2.1 d_Not_evaluate_11 ?_
  exact r_l S hr hk d_Not_evaluate_12 rfl
set_option maxHeartbeats 4000000 in
set_option maxRecDepth 100000 in
theorem c_Join_evaluate (l : Launch) {K : KT} {b : Nat} {f1 f2 f3 f4 : Int32} {sa : Nat} {both : Int32} {a1 c1 d1 sa1 : Nat} {g11 g21 g31 : Int32} {xs1 : List Value} {st1 : Nat → Int64} {a2 c2 d2 sa2 : Nat} {g12 g22 g32 : Int32} {xs2 : List Value} {st2 : Nat → Int64} {lg i : Nat} (hc1 : c1 < 8) (hd1 : d1 ≤ 24) (hc2 : c2 < 8) (hd2 : d2 ≤ 24) (hi : i < 24) : Met l y_Join_evaluate (Cond.code y_Join_evaluate b_Join_evaluate 3 (some Jvm.ClassFile.FieldType.long) :: WALL) { frames := 2, cells := 0, slots := 0, locals := 42 } (pc0 K [.ref b, .ref lg, .int (nI i)] (fun H => va_at K.1 classes (b, .inr (3, [.int f1, .int f2, .int f3, .int f4, .ref sa, .int both, .ref a1, .ref a2])) H ∧ (va_at K.1 classes (a1, .inr (c1, .int g11 :: .int g21 :: .int g31 :: .int (nI d1) :: .ref sa1 :: xs1)) H ∧ va_at K.1 classes (sa1, .inl (kJ K, 24, .inr (.inl st1))) H) ∧ va_at K.1 classes (a2, .inr (c2, .int g12 :: .int g22 :: .int g32 :: .int (nI d2) :: .ref sa2 :: xs2)) H ∧ va_at K.1 classes (sa2, .inl (kJ K, 24, .inr (.inl st2))) H)) (vp_Sl (fun r => r = if both = 0 then sv d1 st1 i ||| sv d2 st2 i else sv d1 st1 i &&& sv d2 st2 i)) 0 0 (fun _ => False) := by
  refine met0 (own := "MetricLogMonitor$Join") (by decide) rfl (Nat.le_of_ble_eq_true rfl) (fun p e s m below meth c ls S hr hk hnm hC hH hl => ?_)
  obtain ⟨hb, ⟨hp1, hs1⟩, hp2, hs2⟩ := hH
  have hl : lv_has ls 3 [(0, .ref b), (1, .ref lg), (2, .int (nI i))] := hl
  refine lv_aload_n S.1 S.2.1 d_Join_evaluate_0 rfl (lv_at hl 0 rfl) ?_
  refine o_get (v := .int both) S hC kf_Join hb rfl 5 (by decide) q_328 rfl d_Join_evaluate_1 ?_
  refine lv_if_eq (tgt := 27) S.1 S.2.1 d_Join_evaluate_4 (by decide) (fun hbr1 => ?_) (fun hbr1 => ?_)
  · refine lv_aload_n S.1 S.2.1 d_Join_evaluate_27 rfl (lv_at hl 0 rfl) ?_
    refine o_get (v := .ref a1) S hC kf_Join hb rfl 6 (by decide) q_329 rfl d_Join_evaluate_28 ?_
    refine lv_iload_n S.1 S.2.1 d_Join_evaluate_31 rfl (lv_at hl 2 rfl) ?_
    refine kFl (rest := []) S (c_Form_setAt l hc1 hd1 (nI i)) kc_Form_setAt fm_2 ⟨q_616, q_583, q_582⟩ rfl rfl rfl ⟨Nat.le_of_ble_eq_true rfl, Nat.le_of_ble_eq_true rfl⟩ hC (hSF s) (hAF K) ⟨hp1, hs1⟩ hc1 hp1 ⟨Nat.zero_le _, Nat.zero_le _⟩ hl.1 rfl rfl (Nat.le_of_ble_eq_true rfl) d_Join_evaluate_32 (fun r er => ?_)
    have er := sv_of hd1 (by omega) er
    subst er
    refine lv_aload_n S.1 S.2.1 d_Join_evaluate_35 rfl (lv_at hl 0 rfl) ?_
    refine o_get (v := .ref a2) S hC kf_Join hb rfl 7 (by decide) q_330 rfl d_Join_evaluate_36 ?_
    refine lv_iload_n S.1 S.2.1 d_Join_evaluate_39 rfl (lv_at hl 2 rfl) ?_
    refine kFl (rest := [.long (sv d1 st1 i)]) S (c_Form_setAt l hc2 hd2 (nI i)) kc_Form_setAt fm_2 ⟨q_616, q_583, q_582⟩ rfl rfl rfl ⟨Nat.le_of_ble_eq_true rfl, Nat.le_of_ble_eq_true rfl⟩ hC (hSF s) (hAF K) ⟨hp2, hs2⟩ hc2 hp2 ⟨Nat.zero_le _, Nat.zero_le _⟩ hl.1 rfl rfl (Nat.le_of_ble_eq_true rfl) d_Join_evaluate_40 (fun r er => ?_)
    have er := sv_of hd2 (by omega) er
    subst er
    refine lv_lor S.1 S.2.1 d_Join_evaluate_43 ?_
    exact r_l S hr hk d_Join_evaluate_44 (by rw [if_pos hbr1])
  · refine lv_aload_n S.1 S.2.1 d_Join_evaluate_7 rfl (lv_at hl 0 rfl) ?_
    refine o_get (v := .ref a1) S hC kf_Join hb rfl 6 (by decide) q_329 rfl d_Join_evaluate_8 ?_
    refine lv_iload_n S.1 S.2.1 d_Join_evaluate_11 rfl (lv_at hl 2 rfl) ?_
    refine kFl (rest := []) S (c_Form_setAt l hc1 hd1 (nI i)) kc_Form_setAt fm_2 ⟨q_616, q_583, q_582⟩ rfl rfl rfl ⟨Nat.le_of_ble_eq_true rfl, Nat.le_of_ble_eq_true rfl⟩ hC (hSF s) (hAF K) ⟨hp1, hs1⟩ hc1 hp1 ⟨Nat.zero_le _, Nat.zero_le _⟩ hl.1 rfl rfl (Nat.le_of_ble_eq_true rfl) d_Join_evaluate_12 (fun r er => ?_)
    have er := sv_of hd1 (by omega) er
    subst er
    refine lv_aload_n S.1 S.2.1 d_Join_evaluate_15 rfl (lv_at hl 0 rfl) ?_
    refine o_get (v := .ref a2) S hC kf_Join hb rfl 7 (by decide) q_330 rfl d_Join_evaluate_16 ?_
    refine lv_iload_n S.1 S.2.1 d_Join_evaluate_19 rfl (lv_at hl 2 rfl) ?_
    refine kFl (rest := [.long (sv d1 st1 i)]) S (c_Form_setAt l hc2 hd2 (nI i)) kc_Form_setAt fm_2 ⟨q_616, q_583, q_582⟩ rfl rfl rfl ⟨Nat.le_of_ble_eq_true rfl, Nat.le_of_ble_eq_true rfl⟩ hC (hSF s) (hAF K) ⟨hp2, hs2⟩ hc2 hp2 ⟨Nat.zero_le _, Nat.zero_le _⟩ hl.1 rfl rfl (Nat.le_of_ble_eq_true rfl) d_Join_evaluate_20 (fun r er => ?_)
    have er := sv_of hd2 (by omega) er
    subst er
    refine lv_land S.1 S.2.1 d_Join_evaluate_23 ?_
    refine lv_goto (tgt := 44) S.1 S.2.1 d_Join_evaluate_24 (by decide) ?_
    exact r_l S hr hk d_Join_evaluate_44 (by rw [if_neg hbr1])
set_option maxHeartbeats 4000000 in
set_option maxRecDepth 100000 in
theorem c_Exi_evaluate (l : Launch) {K : KT} {b : Nat} {f1 f2 f3 f4 : Int32} {sa : Nat} {v : Nat} {a1 c1 d1 sa1 : Nat} {g11 g21 g31 : Int32} {xs1 : List Value} {st1 : Nat → Int64} {lg i : Nat} (hc1 : c1 < 8) (hd1 : d1 ≤ 24) (hi : i < 24) (hv : v < 3) : Met l y_Exi_evaluate (Cond.code y_Exi_evaluate b_Exi_evaluate 3 (some Jvm.ClassFile.FieldType.long) :: WALL) { frames := 2, cells := 0, slots := 0, locals := 42 } (pc0 K [.ref b, .ref lg, .int (nI i)] (fun H => va_at K.1 classes (b, .inr (4, [.int f1, .int f2, .int f3, .int f4, .ref sa, .int (nI v), .ref a1])) H ∧ va_at K.1 classes (a1, .inr (c1, .int g11 :: .int g21 :: .int g31 :: .int (nI d1) :: .ref sa1 :: xs1)) H ∧ va_at K.1 classes (sa1, .inl (kJ K, 24, .inr (.inl st1))) H)) (vp_Sl (fun r => r = unfold4 v (fold4 v (sv d1 st1 i)))) 0 0 (fun _ => False) := by
  refine met0 (own := "MetricLogMonitor$Exists") (by decide) rfl (Nat.le_of_ble_eq_true rfl) (fun p e s m below meth c ls S hr hk hnm hC hH hl => ?_)
  obtain ⟨hb, hp1, hs1⟩ := hH
  have hl : lv_has ls 3 [(0, .ref b), (1, .ref lg), (2, .int (nI i))] := hl
  refine lv_aload_n S.1 S.2.1 d_Exi_evaluate_0 rfl (lv_at hl 0 rfl) ?_
  refine o_get (v := .int (nI v)) S hC kf_Exi hb rfl 5 (by decide) q_354 rfl d_Exi_evaluate_1 ?_
  refine lv_aload_n S.1 S.2.1 d_Exi_evaluate_4 rfl (lv_at hl 0 rfl) ?_
  refine o_get (v := .int (nI v)) S hC kf_Exi hb rfl 5 (by decide) q_354 rfl d_Exi_evaluate_5 ?_
  refine lv_aload_n S.1 S.2.1 d_Exi_evaluate_8 rfl (lv_at hl 0 rfl) ?_
  refine o_get (v := .ref a1) S hC kf_Exi hb rfl 6 (by decide) q_355 rfl d_Exi_evaluate_9 ?_
  refine lv_iload_n S.1 S.2.1 d_Exi_evaluate_12 rfl (lv_at hl 2 rfl) ?_
  refine kFl (rest := [.int (nI v), .int (nI v)]) S (c_Form_setAt l hc1 hd1 (nI i)) kc_Form_setAt fm_2 ⟨q_581, q_583, q_582⟩ rfl rfl rfl ⟨Nat.le_of_ble_eq_true rfl, Nat.le_of_ble_eq_true rfl⟩ hC (hSF s) (hAF K) ⟨hp1, hs1⟩ hc1 hp1 ⟨Nat.zero_le _, Nat.zero_le _⟩ hl.1 rfl rfl (Nat.le_of_ble_eq_true rfl) d_Exi_evaluate_13 (fun r er => ?_)
  have er := sv_of hd1 (by omega) er
  subst er
  refine kNl (rest := [.int (nI v)]) S (c_M_fold l hv (sv d1 st1 i)) kc_M_fold ⟨qn_605, q_606⟩ rfl rfl ⟨Nat.le_of_ble_eq_true rfl, Nat.le_of_ble_eq_true rfl⟩ hC (hSF s) (hAF K) trivial ⟨Nat.zero_le _, Nat.zero_le _⟩ hl.1 rfl rfl (Nat.le_of_ble_eq_true rfl) d_Exi_evaluate_16 (fun r er => ?_)
  subst er
  refine kNl (rest := []) S (c_M_unfold l (nI v) (f_M_fold v (sv d1 st1 i))) kc_M_unfold ⟨qn_610, q_611⟩ rfl rfl ⟨Nat.le_of_ble_eq_true rfl, Nat.le_of_ble_eq_true rfl⟩ hC (hSF s) (hAF K) trivial ⟨Nat.zero_le _, Nat.zero_le _⟩ hl.1 rfl rfl (Nat.le_of_ble_eq_true rfl) d_Exi_evaluate_19 (fun r er => ?_)
  subst er
  exact r_l S hr hk d_Exi_evaluate_22 (by rw [unfold_eq hv, fold_eq hv])
set_option maxHeartbeats 4000000 in
set_option maxRecDepth 100000 in
theorem c_Prev_evaluate (l : Launch) {K : KT} {b : Nat} {f1 f2 f3 f4 : Int32} {sa : Nat} {lo hi : Int32} {a1 c1 d1 sa1 : Nat} {g11 g21 g31 : Int32} {xs1 : List Value} {st1 : Nat → Int64} {lg tm pr : Nat} {G : Int64} {N : Nat} {T : Nat → Int32} {i : Nat} (hc1 : c1 < 8) (hd1 : d1 ≤ 24) (hi2 : i < 24) : Met l y_Prev_evaluate (Cond.code y_Prev_evaluate b_Prev_evaluate 3 (some Jvm.ClassFile.FieldType.long) :: WALL) { frames := 2, cells := 0, slots := 0, locals := 42 } (pc0 K [.ref b, .ref lg, .int (nI i)] (fun H => va_at K.1 classes (b, .inr (5, [.int f1, .int f2, .int f3, .int f4, .ref sa, .int lo, .int hi, .ref a1])) H ∧ (va_at K.1 classes (a1, .inr (c1, .int g11 :: .int g21 :: .int g31 :: .int (nI d1) :: .ref sa1 :: xs1)) H ∧ va_at K.1 classes (sa1, .inl (kJ K, 24, .inr (.inl st1))) H) ∧ va_at K.1 classes (lg, .inr (9, [.ref tm, .ref pr, .long G, .int (nI N)])) H ∧ va_at K.1 classes (tm, .inl (kI K, 24, .inl T)) H)) (vp_Sl (fun r => r = if (decide (0 < i) && ly lo hi (T i - T (i - 1))) = true then sv d1 st1 (i - 1) else 0)) 0 0 (fun _ => False) := by
  refine met0 (own := "MetricLogMonitor$Previous") (by decide) rfl (Nat.le_of_ble_eq_true rfl) (fun p e s m below meth c ls S hr hk hnm hC hH hl => ?_)
  obtain ⟨hb, ⟨hp1, hs1⟩, hg, ht⟩ := hH
  have hl : lv_has ls 3 [(0, .ref b), (1, .ref lg), (2, .int (nI i))] := hl
  refine lv_iload_n S.1 S.2.1 d_Prev_evaluate_0 rfl (lv_at hl 2 rfl) ?_
  refine lv_if_le (tgt := 39) S.1 S.2.1 d_Prev_evaluate_1 (by decide) (fun hbr1 => ?_) (fun hbr1 => ?_)
  · refine lv_lconst (v := 0) S.1 S.2.1 d_Prev_evaluate_39 (by decide) ?_
    exact r_l S hr hk d_Prev_evaluate_40 (by rw [if_neg (by intro hz; rw [Bool.and_eq_true, decide_eq_true_eq] at hz; exact absurd hbr1 (nI_nle hz.1 (by omega)))])
  · refine lv_aload_n S.1 S.2.1 d_Prev_evaluate_4 rfl (lv_at hl 1 rfl) ?_
    refine lv_iload_n S.1 S.2.1 d_Prev_evaluate_5 rfl (lv_at hl 2 rfl) ?_
    refine lv_iconst (v := 1) S.1 S.2.1 d_Prev_evaluate_6 (by decide) ?_
    refine lv_isub S.1 S.2.1 d_Prev_evaluate_7 ?_
    refine tpi (y := nI (i - 1)) (nI_m1 (nI_gt0 hbr1)) ?_
    refine lv_iload_n S.1 S.2.1 d_Prev_evaluate_8 rfl (lv_at hl 2 rfl) ?_
    refine kVi (rest := []) S (c_Log_duration (i := i - 1) (j := i) l (by omega) (by omega)) kc_Log_duration ⟨q_625, q_560, q_561⟩ rfl rfl ⟨Nat.le_of_ble_eq_true rfl, Nat.le_of_ble_eq_true rfl⟩ hC (hSF s) (hAF K) ⟨hg, ht⟩ ⟨9, _, _, _, rfl, hg⟩ ⟨Nat.zero_le _, Nat.zero_le _⟩ hl.1 rfl rfl (Nat.le_of_ble_eq_true rfl) d_Prev_evaluate_9 (fun r er => ?_)
    subst er
    refine lv_aload_n S.1 S.2.1 d_Prev_evaluate_12 rfl (lv_at hl 0 rfl) ?_
    refine o_get (v := .int lo) S hC kf_Prev hb rfl 5 (by decide) q_386 rfl d_Prev_evaluate_13 ?_
    refine lv_aload_n S.1 S.2.1 d_Prev_evaluate_16 rfl (lv_at hl 0 rfl) ?_
    refine o_get (v := .int hi) S hC kf_Prev hb rfl 6 (by decide) q_387 rfl d_Prev_evaluate_17 ?_
    refine kNi (rest := []) S (c_M_liesIn l (T i - T (i - 1)) lo hi) kc_M_liesIn ⟨qn_626, q_627⟩ rfl rfl ⟨Nat.le_of_ble_eq_true rfl, Nat.le_of_ble_eq_true rfl⟩ hC (hSF s) (hAF K) trivial ⟨Nat.zero_le _, Nat.zero_le _⟩ hl.1 rfl rfl (Nat.le_of_ble_eq_true rfl) d_Prev_evaluate_20 (fun r er => ?_)
    subst er
    refine lv_if_eq (tgt := 39) S.1 S.2.1 d_Prev_evaluate_23 (by decide) (fun hbr2 => ?_) (fun hbr2 => ?_)
    · refine lv_lconst (v := 0) S.1 S.2.1 d_Prev_evaluate_39 (by decide) ?_
      exact r_l S hr hk d_Prev_evaluate_40 (by rw [if_neg (by rw [(liesIn_0 _ _ _).mp hbr2]; simp)])
    · refine lv_aload_n S.1 S.2.1 d_Prev_evaluate_26 rfl (lv_at hl 0 rfl) ?_
      refine o_get (v := .ref a1) S hC kf_Prev hb rfl 7 (by decide) q_388 rfl d_Prev_evaluate_27 ?_
      refine lv_iload_n S.1 S.2.1 d_Prev_evaluate_30 rfl (lv_at hl 2 rfl) ?_
      refine lv_iconst (v := 1) S.1 S.2.1 d_Prev_evaluate_31 (by decide) ?_
      refine lv_isub S.1 S.2.1 d_Prev_evaluate_32 ?_
      refine tpi (y := nI (i - 1)) (nI_m1 (nI_gt0 hbr1)) ?_
      refine kFl (rest := []) S (c_Form_setAt l hc1 hd1 (nI (i - 1))) kc_Form_setAt fm_2 ⟨q_629, q_583, q_582⟩ rfl rfl rfl ⟨Nat.le_of_ble_eq_true rfl, Nat.le_of_ble_eq_true rfl⟩ hC (hSF s) (hAF K) ⟨hp1, hs1⟩ hc1 hp1 ⟨Nat.zero_le _, Nat.zero_le _⟩ hl.1 rfl rfl (Nat.le_of_ble_eq_true rfl) d_Prev_evaluate_33 (fun r er => ?_)
      have er := sv_of hd1 (by omega) er
      subst er
      refine lv_goto (tgt := 40) S.1 S.2.1 d_Prev_evaluate_36 (by decide) ?_
      exact r_l S hr hk d_Prev_evaluate_40 (by rw [if_pos (by rw [decide_eq_true (show 0 < i from nI_gt0 hbr1), bnf (fun hz => hbr2 ((liesIn_0 _ _ _).mpr hz))]; rfl)])
set_option maxHeartbeats 4000000 in
set_option maxRecDepth 100000 in
theorem c_Since_evaluate (l : Launch) {K : KT} {b : Nat} {f1 f2 f3 f4 : Int32} {sa : Nat} {lo hi : Int32} {a1 c1 d1 sa1 : Nat} {g11 g21 g31 : Int32} {xs1 : List Value} {st1 : Nat → Int64} {a2 c2 d2 sa2 : Nat} {g12 g22 g32 : Int32} {xs2 : List Value} {st2 : Nat → Int64} {lg tm pr : Nat} {G : Int64} {N : Nat} {T : Nat → Int32} {i : Nat} (hc1 : c1 < 8) (hd1 : d1 ≤ 24) (hc2 : c2 < 8) (hd2 : d2 ≤ 24) (hi2 : i < 24) : Met l y_Since_evaluate (Cond.code y_Since_evaluate b_Since_evaluate 8 (some Jvm.ClassFile.FieldType.long) :: WALL) { frames := 2, cells := 0, slots := 0, locals := 42 } (pc0 K [.ref b, .ref lg, .int (nI i)] (fun H => va_at K.1 classes (b, .inr (6, [.int f1, .int f2, .int f3, .int f4, .ref sa, .int lo, .int hi, .ref a1, .ref a2])) H ∧ (va_at K.1 classes (a1, .inr (c1, .int g11 :: .int g21 :: .int g31 :: .int (nI d1) :: .ref sa1 :: xs1)) H ∧ va_at K.1 classes (sa1, .inl (kJ K, 24, .inr (.inl st1))) H) ∧ (va_at K.1 classes (a2, .inr (c2, .int g12 :: .int g22 :: .int g32 :: .int (nI d2) :: .ref sa2 :: xs2)) H ∧ va_at K.1 classes (sa2, .inl (kJ K, 24, .inr (.inl st2))) H) ∧ va_at K.1 classes (lg, .inr (9, [.ref tm, .ref pr, .long G, .int (nI N)])) H ∧ va_at K.1 classes (tm, .inl (kI K, 24, .inl T)) H)) (vp_Sl (fun r => ∀ x, x < 64 → tb r x = sm (fun j => ly lo hi (T i - T j)) (fun j => tb (sv d1 st1 j) x) (fun j => tb (sv d2 st2 j) x) (i + 1))) 0 0 (fun _ => False) := by
  refine met0 (own := "MetricLogMonitor$Since") (by decide) rfl (Nat.le_of_ble_eq_true rfl) (fun p e s m below meth c ls S hr hk hnm hC hH hl => ?_)
  obtain ⟨hb, ⟨hp1, hs1⟩, ⟨hp2, hs2⟩, hg, ht⟩ := hH
  have hl : lv_has ls 8 [(0, .ref b), (1, .ref lg), (2, .int (nI i))] := hl
  refine lv_lconst (v := 0) S.1 S.2.1 d_Since_evaluate_0 (by decide) ?_
  refine lv_lstore_n S.1 S.2.1 d_Since_evaluate_1 rfl hl (by decide) rfl (fun ls hl => ?_)
  have hl : lv_has ls 8 [(3, .long 0), (0, .ref b), (1, .ref lg), (2, .int (nI i))] := hl
  refine lv_ldc2 (v := (-1)) S.1 S.2.1 S.2.2.2.1 (S.2.2.2.2 _ q_633) d_Since_evaluate_2 ?_
  refine lv_lstore S.1 S.2.1 d_Since_evaluate_5 hl (by decide) rfl (fun ls hl => ?_)
  have hl : lv_has ls 8 [(5, .long (-1)), (3, .long 0), (0, .ref b), (1, .ref lg), (2, .int (nI i))] := hl
  refine lv_iload_n S.1 S.2.1 d_Since_evaluate_7 rfl (lv_at hl 4 rfl) ?_
  refine lv_istore S.1 S.2.1 d_Since_evaluate_8 hl (by decide) rfl (fun ls hl => ?_)
  have hl : lv_has ls 8 [(7, .int (nI i)), (5, .long (-1)), (3, .long 0), (0, .ref b), (1, .ref lg), (2, .int (nI i))] := hl
  have key10 : ∀ (d10 : Nat) (v7 : Int32) (q : Nat) (y : Int64) (g : Int64) (ls : Array Slot), q = d10 → (v7 = nI q - 1) → (q ≤ i + 1) → (∀ x, x < 64 → sm (fun j => ly lo hi (T i - T j)) (fun j => tb (sv d1 st1 j) x) (fun j => tb (sv d2 st2 j) x) (i + 1) = (tb y x || (tb g x && sm (fun j => ly lo hi (T i - T j)) (fun j => tb (sv d1 st1 j) x) (fun j => tb (sv d2 st2 j) x) q))) → lv_has ls 8 [(7, .int v7), (5, .long g), (3, .long y), (0, .ref b), (1, .ref lg), (2, .int (nI i))] → W p l e ({ frames := 2, cells := 0, slots := 0, locals := 42 } : Room) s m ([.ref b, .ref lg, .int (nI i)] : List Value).toArray below meth c s.heap [] 0 0 (MQ below (vp_Sl (fun r => ∀ x, x < 64 → tb r x = sm (fun j => ly lo hi (T i - T j)) (fun j => tb (sv d1 st1 j) x) (fun j => tb (sv d2 st2 j) x) (i + 1))) ([.ref b, .ref lg, .int (nI i)] : List Value).toArray s 0 0 (fun _ => False)) (F0 m 10 ls []) := by
    intro d10
    induction d10 with
    | zero =>
      intro v7 q y g ls hd10 hv7 hq7 hI hl
      obtain rfl : q = 0 := hd10
      refine lv_iload S.1 S.2.1 d_Since_evaluate_10 (lv_at hl 0 rfl) ?_
      refine lv_if_lt (tgt := 71) S.1 S.2.1 d_Since_evaluate_12 (by decide) (fun _ => ?_) (fun hx9 => absurd (by rw [hv7]; decide) hx9)
      refine lv_lload_n S.1 S.2.1 d_Since_evaluate_71 rfl (lv_at hl 2 rfl) ?_
      exact r_l S hr hk d_Since_evaluate_72 (fun x hx => (sm_end (hI x hx)).symm)
    | succ d10 ih10 =>
      intro v7 q y g ls hd10 hv7 hq7 hI hl
      obtain ⟨j, rfl⟩ : ∃ j, q = j + 1 := ⟨_, hd10⟩
      rw [nI_pred] at hv7
      subst hv7
      refine lv_iload S.1 S.2.1 d_Since_evaluate_10 (lv_at hl 0 rfl) ?_
      refine lv_if_lt (tgt := 71) S.1 S.2.1 d_Since_evaluate_12 (by decide) (fun hx9 => absurd hx9 (nI_pos (by omega))) (fun _ => ?_)
      refine lv_aload_n S.1 S.2.1 d_Since_evaluate_15 rfl (lv_at hl 4 rfl) ?_
      refine lv_iload S.1 S.2.1 d_Since_evaluate_16 (lv_at hl 0 rfl) ?_
      refine lv_iload_n S.1 S.2.1 d_Since_evaluate_18 rfl (lv_at hl 5 rfl) ?_
      refine kVi (rest := []) S (c_Log_duration (i := j) (j := i) l (by omega) (by omega)) kc_Log_duration ⟨q_634, q_560, q_561⟩ rfl rfl ⟨Nat.le_of_ble_eq_true rfl, Nat.le_of_ble_eq_true rfl⟩ hC (hSF s) (hAF K) ⟨hg, ht⟩ ⟨9, _, _, _, rfl, hg⟩ ⟨Nat.zero_le _, Nat.zero_le _⟩ hl.1 rfl rfl (Nat.le_of_ble_eq_true rfl) d_Since_evaluate_19 (fun r er => ?_)
      subst er
      refine lv_aload_n S.1 S.2.1 d_Since_evaluate_22 rfl (lv_at hl 3 rfl) ?_
      refine o_get (v := .int lo) S hC kf_Since hb rfl 5 (by decide) q_411 rfl d_Since_evaluate_23 ?_
      refine lv_aload_n S.1 S.2.1 d_Since_evaluate_26 rfl (lv_at hl 3 rfl) ?_
      refine o_get (v := .int hi) S hC kf_Since hb rfl 6 (by decide) q_412 rfl d_Since_evaluate_27 ?_
      refine kNi (rest := []) S (c_M_liesIn l (T i - T j) lo hi) kc_M_liesIn ⟨qn_635, q_627⟩ rfl rfl ⟨Nat.le_of_ble_eq_true rfl, Nat.le_of_ble_eq_true rfl⟩ hC (hSF s) (hAF K) trivial ⟨Nat.zero_le _, Nat.zero_le _⟩ hl.1 rfl rfl (Nat.le_of_ble_eq_true rfl) d_Since_evaluate_30 (fun r er => ?_)
      subst er
      refine lv_if_eq (tgt := 51) S.1 S.2.1 d_Since_evaluate_33 (by decide) (fun hbr1 => ?_) (fun hbr1 => ?_)
      · refine lv_lload S.1 S.2.1 d_Since_evaluate_51 (lv_at hl 1 rfl) ?_
        refine lv_aload_n S.1 S.2.1 d_Since_evaluate_53 rfl (lv_at hl 3 rfl) ?_
        refine o_get (v := .ref a1) S hC kf_Since hb rfl 7 (by decide) q_413 rfl d_Since_evaluate_54 ?_
        refine lv_iload S.1 S.2.1 d_Since_evaluate_57 (lv_at hl 0 rfl) ?_
        refine kFl (rest := [.long g]) S (c_Form_setAt l hc1 hd1 (nI j)) kc_Form_setAt fm_2 ⟨q_636, q_583, q_582⟩ rfl rfl rfl ⟨Nat.le_of_ble_eq_true rfl, Nat.le_of_ble_eq_true rfl⟩ hC (hSF s) (hAF K) ⟨hp1, hs1⟩ hc1 hp1 ⟨Nat.zero_le _, Nat.zero_le _⟩ hl.1 rfl rfl (Nat.le_of_ble_eq_true rfl) d_Since_evaluate_59 (fun r er => ?_)
        have er := sv_of hd1 (by omega) er
        subst er
        refine lv_land S.1 S.2.1 d_Since_evaluate_62 ?_
        refine lv_lstore S.1 S.2.1 d_Since_evaluate_63 hl (by decide) rfl (fun ls hl => ?_)
        have hl : lv_has ls 8 [(5, .long (g &&& (sv d1 st1 j))), (7, .int (nI j)), (3, .long y), (0, .ref b), (1, .ref lg), (2, .int (nI i))] := hl
        refine lv_iinc (v := nI j - 1) S.1 S.2.1 d_Since_evaluate_65 hl (k := 1) rfl (nI_dec j) (by decide) rfl (fun ls hl => ?_)
        have hl : lv_has ls 8 [(7, .int (nI j - 1)), (5, .long (g &&& (sv d1 st1 j))), (3, .long y), (0, .ref b), (1, .ref lg), (2, .int (nI i))] := hl
        refine lv_goto (tgt := 10) S.1 S.2.1 d_Since_evaluate_68 (by decide) ?_
        exact ih10 (nI j - 1) j _ _ ls (by omega) rfl (by omega) (fun x hx => by rw [tb_and]; exact sm_f ((liesIn_0 _ _ _).mp hbr1) (hI x hx)) (lv_sub hl [0, 1, 2, 3, 4, 5] rfl)
      · refine lv_lload_n S.1 S.2.1 d_Since_evaluate_36 rfl (lv_at hl 2 rfl) ?_
        refine lv_lload S.1 S.2.1 d_Since_evaluate_37 (lv_at hl 1 rfl) ?_
        refine lv_aload_n S.1 S.2.1 d_Since_evaluate_39 rfl (lv_at hl 3 rfl) ?_
        refine o_get (v := .ref a2) S hC kf_Since hb rfl 8 (by decide) q_414 rfl d_Since_evaluate_40 ?_
        refine lv_iload S.1 S.2.1 d_Since_evaluate_43 (lv_at hl 0 rfl) ?_
        refine kFl (rest := [.long g, .long y]) S (c_Form_setAt l hc2 hd2 (nI j)) kc_Form_setAt fm_2 ⟨q_636, q_583, q_582⟩ rfl rfl rfl ⟨Nat.le_of_ble_eq_true rfl, Nat.le_of_ble_eq_true rfl⟩ hC (hSF s) (hAF K) ⟨hp2, hs2⟩ hc2 hp2 ⟨Nat.zero_le _, Nat.zero_le _⟩ hl.1 rfl rfl (Nat.le_of_ble_eq_true rfl) d_Since_evaluate_45 (fun r er => ?_)
        have er := sv_of hd2 (by omega) er
        subst er
        refine lv_land S.1 S.2.1 d_Since_evaluate_48 ?_
        refine lv_lor S.1 S.2.1 d_Since_evaluate_49 ?_
        refine lv_lstore_n S.1 S.2.1 d_Since_evaluate_50 rfl hl (by decide) rfl (fun ls hl => ?_)
        have hl : lv_has ls 8 [(3, .long (y ||| (g &&& (sv d2 st2 j)))), (7, .int (nI j)), (5, .long g), (0, .ref b), (1, .ref lg), (2, .int (nI i))] := hl
        refine lv_lload S.1 S.2.1 d_Since_evaluate_51 (lv_at hl 2 rfl) ?_
        refine lv_aload_n S.1 S.2.1 d_Since_evaluate_53 rfl (lv_at hl 3 rfl) ?_
        refine o_get (v := .ref a1) S hC kf_Since hb rfl 7 (by decide) q_413 rfl d_Since_evaluate_54 ?_
        refine lv_iload S.1 S.2.1 d_Since_evaluate_57 (lv_at hl 1 rfl) ?_
        refine kFl (rest := [.long g]) S (c_Form_setAt l hc1 hd1 (nI j)) kc_Form_setAt fm_2 ⟨q_636, q_583, q_582⟩ rfl rfl rfl ⟨Nat.le_of_ble_eq_true rfl, Nat.le_of_ble_eq_true rfl⟩ hC (hSF s) (hAF K) ⟨hp1, hs1⟩ hc1 hp1 ⟨Nat.zero_le _, Nat.zero_le _⟩ hl.1 rfl rfl (Nat.le_of_ble_eq_true rfl) d_Since_evaluate_59 (fun r er => ?_)
        have er := sv_of hd1 (by omega) er
        subst er
        refine lv_land S.1 S.2.1 d_Since_evaluate_62 ?_
        refine lv_lstore S.1 S.2.1 d_Since_evaluate_63 hl (by decide) rfl (fun ls hl => ?_)
        have hl : lv_has ls 8 [(5, .long (g &&& (sv d1 st1 j))), (3, .long (y ||| (g &&& (sv d2 st2 j)))), (7, .int (nI j)), (0, .ref b), (1, .ref lg), (2, .int (nI i))] := hl
        refine lv_iinc (v := nI j - 1) S.1 S.2.1 d_Since_evaluate_65 hl (k := 2) rfl (nI_dec j) (by decide) rfl (fun ls hl => ?_)
        have hl : lv_has ls 8 [(7, .int (nI j - 1)), (5, .long (g &&& (sv d1 st1 j))), (3, .long (y ||| (g &&& (sv d2 st2 j)))), (0, .ref b), (1, .ref lg), (2, .int (nI i))] := hl
        refine lv_goto (tgt := 10) S.1 S.2.1 d_Since_evaluate_68 (by decide) ?_
        exact ih10 (nI j - 1) j _ _ ls (by omega) rfl (by omega) (fun x hx => by rw [tb_or, tb_and, tb_and]; exact sm_t (bnf (fun hz => hbr1 ((liesIn_0 _ _ _).mpr hz))) (hI x hx)) (lv_sub hl [0, 1, 2, 3, 4, 5] rfl)
  exact key10 (i + 1) (nI i) (i + 1) 0 (-1) ls rfl (nI_pred i).symm (Nat.le_refl _) (fun x hx => by rw [tb_0, tb_m1 x hx]; simp) (lv_sub hl [0, 1, 2, 3, 4, 5] rfl)
set_option maxHeartbeats 4000000 in
set_option maxRecDepth 100000 in
theorem c_Until_evaluate (l : Launch) {K : KT} {b : Nat} {f1 f2 f3 f4 : Int32} {sa : Nat} {lo hi : Int32} {a1 c1 d1 sa1 : Nat} {g11 g21 g31 : Int32} {xs1 : List Value} {st1 : Nat → Int64} {a2 c2 d2 sa2 : Nat} {g12 g22 g32 : Int32} {xs2 : List Value} {st2 : Nat → Int64} {lg tm pr : Nat} {G : Int64} {N : Nat} {T : Nat → Int32} {i : Nat} (hc1 : c1 < 8) (hd1 : d1 ≤ 24) (hc2 : c2 < 8) (hd2 : d2 ≤ 24) (hi2 : i < N) (hN : N ≤ 24) (hoff : ∀ j z, i ≤ j → j ≤ z → z < N → hi < T j - T i → ly lo hi (T z - T i) = false) : Met l y_Until_evaluate (Cond.code y_Until_evaluate b_Until_evaluate 8 (some Jvm.ClassFile.FieldType.long) :: WALL) { frames := 2, cells := 0, slots := 0, locals := 42 } (pc0 K [.ref b, .ref lg, .int (nI i)] (fun H => va_at K.1 classes (b, .inr (7, [.int f1, .int f2, .int f3, .int f4, .ref sa, .int lo, .int hi, .ref a1, .ref a2])) H ∧ (va_at K.1 classes (a1, .inr (c1, .int g11 :: .int g21 :: .int g31 :: .int (nI d1) :: .ref sa1 :: xs1)) H ∧ va_at K.1 classes (sa1, .inl (kJ K, 24, .inr (.inl st1))) H) ∧ (va_at K.1 classes (a2, .inr (c2, .int g12 :: .int g22 :: .int g32 :: .int (nI d2) :: .ref sa2 :: xs2)) H ∧ va_at K.1 classes (sa2, .inl (kJ K, 24, .inr (.inl st2))) H) ∧ va_at K.1 classes (lg, .inr (9, [.ref tm, .ref pr, .long G, .int (nI N)])) H ∧ va_at K.1 classes (tm, .inl (kI K, 24, .inl T)) H)) (vp_Sl (fun r => ∀ x, x < 64 → tb r x = um (fun j => ly lo hi (T j - T i)) (fun j => tb (sv d1 st1 j) x) (fun j => tb (sv d2 st2 j) x) (N - i) i)) 0 0 (fun _ => False) := by
  refine met0 (own := "MetricLogMonitor$Until") (by decide) rfl (Nat.le_of_ble_eq_true rfl) (fun p e s m below meth c ls S hr hk hnm hC hH hl => ?_)
  obtain ⟨hb, ⟨hp1, hs1⟩, ⟨hp2, hs2⟩, hg, ht⟩ := hH
  have hl : lv_has ls 8 [(0, .ref b), (1, .ref lg), (2, .int (nI i))] := hl
  refine lv_lconst (v := 0) S.1 S.2.1 d_Until_evaluate_0 (by decide) ?_
  refine lv_lstore_n S.1 S.2.1 d_Until_evaluate_1 rfl hl (by decide) rfl (fun ls hl => ?_)
  have hl : lv_has ls 8 [(3, .long 0), (0, .ref b), (1, .ref lg), (2, .int (nI i))] := hl
  refine lv_ldc2 (v := (-1)) S.1 S.2.1 S.2.2.2.1 (S.2.2.2.2 _ q_640) d_Until_evaluate_2 ?_
  refine lv_lstore S.1 S.2.1 d_Until_evaluate_5 hl (by decide) rfl (fun ls hl => ?_)
  have hl : lv_has ls 8 [(5, .long (-1)), (3, .long 0), (0, .ref b), (1, .ref lg), (2, .int (nI i))] := hl
  refine lv_iload_n S.1 S.2.1 d_Until_evaluate_7 rfl (lv_at hl 4 rfl) ?_
  refine lv_istore S.1 S.2.1 d_Until_evaluate_8 hl (by decide) rfl (fun ls hl => ?_)
  have hl : lv_has ls 8 [(7, .int (nI i)), (5, .long (-1)), (3, .long 0), (0, .ref b), (1, .ref lg), (2, .int (nI i))] := hl
  have key10 : ∀ (d10 : Nat) (j : Nat) (y : Int64) (g : Int64) (ls : Array Slot), j + d10 = N → (i ≤ j) → (∀ x, x < 64 → um (fun j => ly lo hi (T j - T i)) (fun j => tb (sv d1 st1 j) x) (fun j => tb (sv d2 st2 j) x) (N - i) i = (tb y x || (tb g x && um (fun j => ly lo hi (T j - T i)) (fun j => tb (sv d1 st1 j) x) (fun j => tb (sv d2 st2 j) x) (N - j) j))) → lv_has ls 8 [(7, .int (nI j)), (5, .long g), (3, .long y), (0, .ref b), (1, .ref lg), (2, .int (nI i))] → W p l e ({ frames := 2, cells := 0, slots := 0, locals := 42 } : Room) s m ([.ref b, .ref lg, .int (nI i)] : List Value).toArray below meth c s.heap [] 0 0 (MQ below (vp_Sl (fun r => ∀ x, x < 64 → tb r x = um (fun j => ly lo hi (T j - T i)) (fun j => tb (sv d1 st1 j) x) (fun j => tb (sv d2 st2 j) x) (N - i) i)) ([.ref b, .ref lg, .int (nI i)] : List Value).toArray s 0 0 (fun _ => False)) (F0 m 10 ls []) := by
    intro d10
    induction d10 with
    | zero =>
      intro j y g ls hd10 hij hI hl
      refine lv_iload S.1 S.2.1 d_Until_evaluate_10 (lv_at hl 0 rfl) ?_
      refine lv_aload_n S.1 S.2.1 d_Until_evaluate_12 rfl (lv_at hl 4 rfl) ?_
      refine o_get (v := .int (nI N)) S hC kf_Log hg rfl 3 (by decide) q_69 rfl d_Until_evaluate_13 ?_
      refine lv_icmp_ge (tgt := 82) S.1 S.2.1 d_Until_evaluate_16 (by decide) (fun _ => ?_) (fun hx9 => absurd (nI_le (by omega) (by omega)) hx9)
      refine lv_lload_n S.1 S.2.1 d_Until_evaluate_82 rfl (lv_at hl 2 rfl) ?_
      exact r_l S hr hk d_Until_evaluate_83 (fun x hx => (um_end (fun z h1 h2 => absurd h2 (by omega)) (hI x hx)).symm)
    | succ d10 ih10 =>
      intro j y g ls hd10 hij hI hl
      refine lv_iload S.1 S.2.1 d_Until_evaluate_10 (lv_at hl 0 rfl) ?_
      refine lv_aload_n S.1 S.2.1 d_Until_evaluate_12 rfl (lv_at hl 4 rfl) ?_
      refine o_get (v := .int (nI N)) S hC kf_Log hg rfl 3 (by decide) q_69 rfl d_Until_evaluate_13 ?_
      refine lv_icmp_ge (tgt := 82) S.1 S.2.1 d_Until_evaluate_16 (by decide) (fun hx9 => absurd hx9 (nI_ge (by omega) (by omega))) (fun _ => ?_)
      refine lv_aload_n S.1 S.2.1 d_Until_evaluate_19 rfl (lv_at hl 4 rfl) ?_
      refine lv_iload_n S.1 S.2.1 d_Until_evaluate_20 rfl (lv_at hl 5 rfl) ?_
      refine lv_iload S.1 S.2.1 d_Until_evaluate_21 (lv_at hl 0 rfl) ?_
      refine kVi (rest := []) S (c_Log_duration (i := i) (j := j) l (by omega) (by omega)) kc_Log_duration ⟨q_559, q_560, q_561⟩ rfl rfl ⟨Nat.le_of_ble_eq_true rfl, Nat.le_of_ble_eq_true rfl⟩ hC (hSF s) (hAF K) ⟨hg, ht⟩ ⟨9, _, _, _, rfl, hg⟩ ⟨Nat.zero_le _, Nat.zero_le _⟩ hl.1 rfl rfl (Nat.le_of_ble_eq_true rfl) d_Until_evaluate_23 (fun r er => ?_)
      subst er
      refine lv_aload_n S.1 S.2.1 d_Until_evaluate_26 rfl (lv_at hl 3 rfl) ?_
      refine o_get (v := .int hi) S hC kf_Until hb rfl 6 (by decide) q_440 rfl d_Until_evaluate_27 ?_
      refine lv_icmp_gt (tgt := 82) S.1 S.2.1 d_Until_evaluate_30 (by decide) (fun hbr1 => ?_) (fun hbr1 => ?_)
      · refine lv_lload_n S.1 S.2.1 d_Until_evaluate_82 rfl (lv_at hl 2 rfl) ?_
        exact r_l S hr hk d_Until_evaluate_83 (fun x hx => (um_end (fun z h1 h2 => hoff j z hij h1 (by omega) hbr1) (hI x hx)).symm)
      · refine lv_aload_n S.1 S.2.1 d_Until_evaluate_33 rfl (lv_at hl 4 rfl) ?_
        refine lv_iload_n S.1 S.2.1 d_Until_evaluate_34 rfl (lv_at hl 5 rfl) ?_
        refine lv_iload S.1 S.2.1 d_Until_evaluate_35 (lv_at hl 0 rfl) ?_
        refine kVi (rest := []) S (c_Log_duration (i := i) (j := j) l (by omega) (by omega)) kc_Log_duration ⟨q_559, q_560, q_561⟩ rfl rfl ⟨Nat.le_of_ble_eq_true rfl, Nat.le_of_ble_eq_true rfl⟩ hC (hSF s) (hAF K) ⟨hg, ht⟩ ⟨9, _, _, _, rfl, hg⟩ ⟨Nat.zero_le _, Nat.zero_le _⟩ hl.1 rfl rfl (Nat.le_of_ble_eq_true rfl) d_Until_evaluate_37 (fun r er => ?_)
        subst er
        refine lv_aload_n S.1 S.2.1 d_Until_evaluate_40 rfl (lv_at hl 3 rfl) ?_
        refine o_get (v := .int lo) S hC kf_Until hb rfl 5 (by decide) q_439 rfl d_Until_evaluate_41 ?_
        refine lv_icmp_lt (tgt := 62) S.1 S.2.1 d_Until_evaluate_44 (by decide) (fun hbr2 => ?_) (fun hbr2 => ?_)
        · refine lv_lload S.1 S.2.1 d_Until_evaluate_62 (lv_at hl 1 rfl) ?_
          refine lv_aload_n S.1 S.2.1 d_Until_evaluate_64 rfl (lv_at hl 3 rfl) ?_
          refine o_get (v := .ref a1) S hC kf_Until hb rfl 7 (by decide) q_441 rfl d_Until_evaluate_65 ?_
          refine lv_iload S.1 S.2.1 d_Until_evaluate_68 (lv_at hl 0 rfl) ?_
          refine kFl (rest := [.long g]) S (c_Form_setAt l hc1 hd1 (nI j)) kc_Form_setAt fm_2 ⟨q_641, q_583, q_582⟩ rfl rfl rfl ⟨Nat.le_of_ble_eq_true rfl, Nat.le_of_ble_eq_true rfl⟩ hC (hSF s) (hAF K) ⟨hp1, hs1⟩ hc1 hp1 ⟨Nat.zero_le _, Nat.zero_le _⟩ hl.1 rfl rfl (Nat.le_of_ble_eq_true rfl) d_Until_evaluate_70 (fun r er => ?_)
          have er := sv_of hd1 (by omega) er
          subst er
          refine lv_land S.1 S.2.1 d_Until_evaluate_73 ?_
          refine lv_lstore S.1 S.2.1 d_Until_evaluate_74 hl (by decide) rfl (fun ls hl => ?_)
          have hl : lv_has ls 8 [(5, .long (g &&& (sv d1 st1 j))), (7, .int (nI j)), (3, .long y), (0, .ref b), (1, .ref lg), (2, .int (nI i))] := hl
          refine lv_iinc (v := nI (j + 1)) S.1 S.2.1 d_Until_evaluate_76 hl (k := 1) rfl (nI_1 j) (by decide) rfl (fun ls hl => ?_)
          have hl : lv_has ls 8 [(7, .int (nI (j + 1))), (5, .long (g &&& (sv d1 st1 j))), (3, .long y), (0, .ref b), (1, .ref lg), (2, .int (nI i))] := hl
          refine lv_goto (tgt := 10) S.1 S.2.1 d_Until_evaluate_79 (by decide) ?_
          exact ih10 (j + 1) _ _ ls (by omega) (by omega) (fun x hx => by rw [tb_and]; have h := hI x hx; rw [show N - j = (N - (j + 1)) + 1 by omega] at h; exact um_f (ly_f hbr2) h) (lv_sub hl [0, 1, 2, 3, 4, 5] rfl)
        · refine lv_lload_n S.1 S.2.1 d_Until_evaluate_47 rfl (lv_at hl 2 rfl) ?_
          refine lv_lload S.1 S.2.1 d_Until_evaluate_48 (lv_at hl 1 rfl) ?_
          refine lv_aload_n S.1 S.2.1 d_Until_evaluate_50 rfl (lv_at hl 3 rfl) ?_
          refine o_get (v := .ref a2) S hC kf_Until hb rfl 8 (by decide) q_442 rfl d_Until_evaluate_51 ?_
          refine lv_iload S.1 S.2.1 d_Until_evaluate_54 (lv_at hl 0 rfl) ?_
          refine kFl (rest := [.long g, .long y]) S (c_Form_setAt l hc2 hd2 (nI j)) kc_Form_setAt fm_2 ⟨q_641, q_583, q_582⟩ rfl rfl rfl ⟨Nat.le_of_ble_eq_true rfl, Nat.le_of_ble_eq_true rfl⟩ hC (hSF s) (hAF K) ⟨hp2, hs2⟩ hc2 hp2 ⟨Nat.zero_le _, Nat.zero_le _⟩ hl.1 rfl rfl (Nat.le_of_ble_eq_true rfl) d_Until_evaluate_56 (fun r er => ?_)
          have er := sv_of hd2 (by omega) er
          subst er
          refine lv_land S.1 S.2.1 d_Until_evaluate_59 ?_
          refine lv_lor S.1 S.2.1 d_Until_evaluate_60 ?_
          refine lv_lstore_n S.1 S.2.1 d_Until_evaluate_61 rfl hl (by decide) rfl (fun ls hl => ?_)
          have hl : lv_has ls 8 [(3, .long (y ||| (g &&& (sv d2 st2 j)))), (7, .int (nI j)), (5, .long g), (0, .ref b), (1, .ref lg), (2, .int (nI i))] := hl
          refine lv_lload S.1 S.2.1 d_Until_evaluate_62 (lv_at hl 2 rfl) ?_
          refine lv_aload_n S.1 S.2.1 d_Until_evaluate_64 rfl (lv_at hl 3 rfl) ?_
          refine o_get (v := .ref a1) S hC kf_Until hb rfl 7 (by decide) q_441 rfl d_Until_evaluate_65 ?_
          refine lv_iload S.1 S.2.1 d_Until_evaluate_68 (lv_at hl 1 rfl) ?_
          refine kFl (rest := [.long g]) S (c_Form_setAt l hc1 hd1 (nI j)) kc_Form_setAt fm_2 ⟨q_641, q_583, q_582⟩ rfl rfl rfl ⟨Nat.le_of_ble_eq_true rfl, Nat.le_of_ble_eq_true rfl⟩ hC (hSF s) (hAF K) ⟨hp1, hs1⟩ hc1 hp1 ⟨Nat.zero_le _, Nat.zero_le _⟩ hl.1 rfl rfl (Nat.le_of_ble_eq_true rfl) d_Until_evaluate_70 (fun r er => ?_)
          have er := sv_of hd1 (by omega) er
          subst er
          refine lv_land S.1 S.2.1 d_Until_evaluate_73 ?_
          refine lv_lstore S.1 S.2.1 d_Until_evaluate_74 hl (by decide) rfl (fun ls hl => ?_)
          have hl : lv_has ls 8 [(5, .long (g &&& (sv d1 st1 j))), (3, .long (y ||| (g &&& (sv d2 st2 j)))), (7, .int (nI j)), (0, .ref b), (1, .ref lg), (2, .int (nI i))] := hl
          refine lv_iinc (v := nI (j + 1)) S.1 S.2.1 d_Until_evaluate_76 hl (k := 2) rfl (nI_1 j) (by decide) rfl (fun ls hl => ?_)
          have hl : lv_has ls 8 [(7, .int (nI (j + 1))), (5, .long (g &&& (sv d1 st1 j))), (3, .long (y ||| (g &&& (sv d2 st2 j)))), (0, .ref b), (1, .ref lg), (2, .int (nI i))] := hl
          refine lv_goto (tgt := 10) S.1 S.2.1 d_Until_evaluate_79 (by decide) ?_
          exact ih10 (j + 1) _ _ ls (by omega) (by omega) (fun x hx => by rw [tb_or, tb_and, tb_and]; have h := hI x hx; rw [show N - j = (N - (j + 1)) + 1 by omega] at h; exact um_t (ly_t hbr2 hbr1) h) (lv_sub hl [0, 1, 2, 3, 4, 5] rfl)
  exact key10 (N - i) i 0 (-1) ls (by omega) (Nat.le_refl _) (fun x hx => by rw [tb_0, tb_m1 x hx]; simp) (lv_sub hl [0, 1, 2, 3, 4, 5] rfl)
