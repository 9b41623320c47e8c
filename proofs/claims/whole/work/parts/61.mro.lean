/-! the reference: methods that only read -/
theorem ly_n1 {lo hi d : Int32} (h : d < lo) : (0 : Int32) = bI (ly lo hi d) := by
  unfold ly; rw [decide_eq_false (fun z => (Int32.not_le.mpr h) z)]; rfl
theorem ly_y1 {lo hi d : Int32} (h : ¬ d < lo) (h2 : hi = -1) : (1 : Int32) = bI (ly lo hi d) := by
  unfold ly; rw [decide_eq_true (Int32.not_lt.mp h), decide_eq_true h2]; rfl
theorem ly_n2 {lo hi d : Int32} (h2 : ¬ hi = -1) (h3 : hi < d) : (0 : Int32) = bI (ly lo hi d) := by
  unfold ly; rw [decide_eq_false h2, decide_eq_false (fun z => (Int32.not_le.mpr h3) z), Bool.or_false, Bool.and_false]; rfl
theorem ly_y2 {lo hi d : Int32} (h : ¬ d < lo) (h3 : ¬ hi < d) : (1 : Int32) = bI (ly lo hi d) := by
  unfold ly; rw [decide_eq_true (Int32.not_lt.mp h), decide_eq_true (Int32.not_lt.mp h3), Bool.or_true]; rfl
theorem bI_0 {b : Bool} : bI b = 0 ↔ b = false := by cases b <;> decide
theorem bI_n {b : Bool} (h : ¬ bI b = 0) : b = true := by cases b; exact absurd rfl h; rfl
theorem bI_f {b : Bool} (h : b = false) : (0 : Int32) = bI b := by rw [h]; rfl
theorem bI_t {b : Bool} (h : b = true) : (1 : Int32) = bI b := by rw [h]; rfl
theorem bI_z (b : Bool) : bI b = 0 ∨ bI b = 1 := by cases b; exact Or.inl rfl; exact Or.inr rfl
theorem rp_all : ∀ w, w < 3 → ∀ b, b < 64 → ∀ v, v < 4 → (nI b &&& (((3 : Int32) <<< (((2 * nI w) : Int32) &&& 31)) ^^^ (-1))) ||| ((nI v : Int32) <<< (((2 * nI w) : Int32) &&& 31)) = nI (rp w b v) := by decide +kernel
theorem anyb_t {p : Nat → Bool} {v : Nat} (h : anyb p v = true) : anyb p (v + 1) = true := by
  show (anyb p v || p v) = true
  rw [h]; rfl
theorem anyb_s {p : Nat → Bool} {v : Nat} {b : Bool} (h : anyb p v = false) (hb : p v = b) : anyb p (v + 1) = b := by
  show (anyb p v || p v) = b
  rw [h, hb]; rfl
theorem allb_f {p : Nat → Bool} {v : Nat} (h : allb p v = false) : allb p (v + 1) = false := by
  show (allb p v && p v) = false
  rw [h]; rfl
theorem allb_s {p : Nat → Bool} {v : Nat} {b : Bool} (h : allb p v = true) (hb : p v = b) : allb p (v + 1) = b := by
  show (allb p v && p v) = b
  rw [h, hb]; rfl
theorem a4_anyb (p : Nat → Bool) : a4 p = anyb p 4 := by
  show _ = ((((false || p 0) || p 1) || p 2) || p 3)
  rw [Bool.false_or]; rfl
theorem bnot {b : Bool} (h : ¬ b = true) : b = false := by cases b; rfl; exact absurd rfl h
def f_R_isFormula (n : Nat) (x : Int32) : Int32 := (if x < 0 then 0 else (if (nI n) ≤ x then 0 else 1))
theorem z_R_isFormula (n : Nat) (x : Int32) : f_R_isFormula n x = 0 ∨ f_R_isFormula n x = 1 := by
  unfold f_R_isFormula
  repeat' split
  all_goals first | exact Or.inl rfl | exact Or.inr rfl
set_option maxHeartbeats 4000000 in
set_option maxRecDepth 100000 in
theorem c_R_isFormula (l : Launch) {K : KT} {ma : Nat → Nat} {n pl : Nat} {wt : Int32} {J : Nat → Nat → Int32} {X : Nat → Int64} (x : Int32) : Met l y_R_isFormula (Cond.code y_R_isFormula b_R_isFormula 2 (some Jvm.ClassFile.FieldType.boolean) :: WALL) { frames := 0, cells := 0, slots := 0, locals := 0 } (pc0 K [.ref (ma 0), .int x] (fun H => mW K ma n wt pl J X H)) (vp_Si (fun r => r = f_R_isFormula n x)) 0 0 (fun _ => False) := by
  refine met0 (own := "MetricLogMonitorModel") (by decide) rfl (Nat.le_of_ble_eq_true rfl) (fun p e s m below meth c ls S hr hk hnm hC hH hl => ?_)
  have hl : lv_has ls 2 [(0, .ref (ma 0)), (1, .int x)] := hl
  have hw := hH
  refine lv_iload_n S.1 S.2.1 d_R_isFormula_0 rfl (lv_at hl 1 rfl) ?_
  refine lv_if_lt (tgt := 16) S.1 S.2.1 d_R_isFormula_1 (by decide) (fun hbr1 => ?_) (fun hbr1 => ?_)
  · refine lv_iconst (v := 0) S.1 S.2.1 d_R_isFormula_16 (by decide) ?_
    exact r_z S hr hk rfl d_R_isFormula_17 (by unfold f_R_isFormula; simp only [if_pos hbr1])
  · refine lv_iload_n S.1 S.2.1 d_R_isFormula_4 rfl (lv_at hl 1 rfl) ?_
    refine lv_aload_n S.1 S.2.1 d_R_isFormula_5 rfl (lv_at hl 0 rfl) ?_
    refine o_get (v := .int (nI n)) S hC kf_R hw.1 rfl 0 (by decide) q_693 rfl d_R_isFormula_6 ?_
    refine lv_icmp_ge (tgt := 16) S.1 S.2.1 d_R_isFormula_9 (by decide) (fun hbr2 => ?_) (fun hbr2 => ?_)
    · refine lv_iconst (v := 0) S.1 S.2.1 d_R_isFormula_16 (by decide) ?_
      exact r_z S hr hk rfl d_R_isFormula_17 (by unfold f_R_isFormula; simp only [if_neg hbr1, if_pos hbr2])
    · refine lv_iconst (v := 1) S.1 S.2.1 d_R_isFormula_12 (by decide) ?_
      refine lv_goto (tgt := 17) S.1 S.2.1 d_R_isFormula_13 (by decide) ?_
      exact r_z S hr hk rfl d_R_isFormula_17 (by unfold f_R_isFormula; simp only [if_neg hbr1, if_neg hbr2])
def f_R_mayMake (wt : Int32) (n : Nat) : Int32 := (if wt = 0 then (if 12 ≤ (nI n) then 0 else 1) else 0)
theorem z_R_mayMake (wt : Int32) (n : Nat) : f_R_mayMake wt n = 0 ∨ f_R_mayMake wt n = 1 := by
  unfold f_R_mayMake
  repeat' split
  all_goals first | exact Or.inl rfl | exact Or.inr rfl | exact z_R_isFormula ..
set_option maxHeartbeats 4000000 in
set_option maxRecDepth 100000 in
theorem c_R_mayMake (l : Launch) {K : KT} {ma : Nat → Nat} {n pl : Nat} {wt : Int32} {J : Nat → Nat → Int32} {X : Nat → Int64} : Met l y_R_mayMake (Cond.code y_R_mayMake b_R_mayMake 1 (some Jvm.ClassFile.FieldType.boolean) :: WALL) { frames := 0, cells := 0, slots := 0, locals := 0 } (pc0 K [.ref (ma 0)] (fun H => mW K ma n wt pl J X H)) (vp_Si (fun r => r = f_R_mayMake wt n)) 0 0 (fun _ => False) := by
  refine met0 (own := "MetricLogMonitorModel") (by decide) rfl (Nat.le_of_ble_eq_true rfl) (fun p e s m below meth c ls S hr hk hnm hC hH hl => ?_)
  have hl : lv_has ls 1 [(0, .ref (ma 0))] := hl
  have hw := hH
  refine lv_aload_n S.1 S.2.1 d_R_mayMake_0 rfl (lv_at hl 0 rfl) ?_
  refine o_get (v := .int wt) S hC kf_R hw.1 rfl 1 (by decide) q_700 rfl d_R_mayMake_1 ?_
  refine lv_if_ne (tgt := 20) S.1 S.2.1 d_R_mayMake_4 (by decide) (fun hbr1 => ?_) (fun hbr1 => ?_)
  · refine lv_iconst (v := 0) S.1 S.2.1 d_R_mayMake_20 (by decide) ?_
    exact r_z S hr hk rfl d_R_mayMake_21 (by unfold f_R_mayMake; simp only [if_neg hbr1])
  · refine lv_aload_n S.1 S.2.1 d_R_mayMake_7 rfl (lv_at hl 0 rfl) ?_
    refine o_get (v := .int (nI n)) S hC kf_R hw.1 rfl 0 (by decide) q_693 rfl d_R_mayMake_8 ?_
    refine lv_bipush (v := 12) S.1 S.2.1 d_R_mayMake_11 (by decide) ?_
    refine lv_icmp_ge (tgt := 20) S.1 S.2.1 d_R_mayMake_13 (by decide) (fun hbr2 => ?_) (fun hbr2 => ?_)
    · refine lv_iconst (v := 0) S.1 S.2.1 d_R_mayMake_20 (by decide) ?_
      exact r_z S hr hk rfl d_R_mayMake_21 (by unfold f_R_mayMake; simp only [if_pos hbr1, if_pos hbr2])
    · refine lv_iconst (v := 1) S.1 S.2.1 d_R_mayMake_16 (by decide) ?_
      refine lv_goto (tgt := 21) S.1 S.2.1 d_R_mayMake_17 (by decide) ?_
      exact r_z S hr hk rfl d_R_mayMake_21 (by unfold f_R_mayMake; simp only [if_pos hbr1, if_neg hbr2])
set_option maxHeartbeats 4000000 in
set_option maxRecDepth 100000 in
theorem c_R_lesser (l : Launch) {K : KT} {ma : Nat → Nat} {n pl : Nat} {wt : Int32} {J : Nat → Nat → Int32} {X : Nat → Int64} {a b : Nat} (ha : a < 2147483648) (hb : b < 2147483648) : Met l y_R_lesser (Cond.code y_R_lesser b_R_lesser 3 (some Jvm.ClassFile.FieldType.int) :: WALL) { frames := 0, cells := 0, slots := 0, locals := 0 } (pc0 K [.ref (ma 0), .int (nI a), .int (nI b)] (fun H => mW K ma n wt pl J X H)) (vp_Si (fun r => r = nI (min a b))) 0 0 (fun _ => False) := by
  refine met0 (own := "MetricLogMonitorModel") (by decide) rfl (Nat.le_of_ble_eq_true rfl) (fun p e s m below meth c ls S hr hk hnm hC hH hl => ?_)
  have hl : lv_has ls 3 [(0, .ref (ma 0)), (1, .int (nI a)), (2, .int (nI b))] := hl
  have hw := hH
  refine lv_iload_n S.1 S.2.1 d_R_lesser_0 rfl (lv_at hl 1 rfl) ?_
  refine lv_iload_n S.1 S.2.1 d_R_lesser_1 rfl (lv_at hl 2 rfl) ?_
  refine lv_icmp_ge (tgt := 9) S.1 S.2.1 d_R_lesser_2 (by decide) (fun hbr1 => ?_) (fun hbr1 => ?_)
  · refine lv_iload_n S.1 S.2.1 d_R_lesser_9 rfl (lv_at hl 2 rfl) ?_
    exact r_i S hr hk d_R_lesser_10 (by rw [Nat.min_eq_right (by have := (nI_leI hb ha).mp hbr1; omega)])
  · refine lv_iload_n S.1 S.2.1 d_R_lesser_5 rfl (lv_at hl 1 rfl) ?_
    refine lv_goto (tgt := 10) S.1 S.2.1 d_R_lesser_6 (by decide) ?_
    exact r_i S hr hk d_R_lesser_10 (by rw [Nat.min_eq_left (by have := (nI_ltI ha hb).mp (Int32.not_le.mp hbr1); omega)])
set_option maxHeartbeats 4000000 in
set_option maxRecDepth 100000 in
theorem c_R_at (l : Launch) {K : KT} {ma : Nat → Nat} {n pl : Nat} {wt : Int32} {J : Nat → Nat → Int32} {X : Nat → Int64} {f i b : Nat} (hf : 24 * f + i < 288) (hb : b < 64) : Met l y_R_at (Cond.code y_R_at b_R_at 4 (some Jvm.ClassFile.FieldType.boolean) :: WALL) { frames := 0, cells := 0, slots := 0, locals := 0 } (pc0 K [.ref (ma 0), .int (nI f), .int (nI i), .int (nI b)] (fun H => mW K ma n wt pl J X H)) (vp_Si (fun r => r = bI (tb (X (24 * f + i)) b))) 0 0 (fun _ => False) := by
  refine met0 (own := "MetricLogMonitorModel") (by decide) rfl (Nat.le_of_ble_eq_true rfl) (fun p e s m below meth c ls S hr hk hnm hC hH hl => ?_)
  have hl : lv_has ls 4 [(0, .ref (ma 0)), (1, .int (nI f)), (2, .int (nI i)), (3, .int (nI b))] := hl
  have hw := hH
  refine lv_aload_n S.1 S.2.1 d_R_at_0 rfl (lv_at hl 0 rfl) ?_
  refine o_get (v := .ref (ma 10)) S hC kf_R hw.1 rfl 12 (by decide) q_705 rfl d_R_at_1 ?_
  refine lv_bipush (v := 24) S.1 S.2.1 d_R_at_4 (by decide) ?_
  refine lv_iload_n S.1 S.2.1 d_R_at_6 rfl (lv_at hl 1 rfl) ?_
  refine lv_imul S.1 S.2.1 d_R_at_7 ?_
  refine lv_iload_n S.1 S.2.1 d_R_at_8 rfl (lv_at hl 2 rfl) ?_
  refine lv_iadd S.1 S.2.1 d_R_at_9 ?_
  refine tpi (y := nI (24 * f + i)) (ix24 ..) ?_
  refine o_lald (j := 24 * f + i) S hC (mi_10 hw) (by decide) (by omega) d_R_at_10 ?_
  refine lv_iload_n S.1 S.2.1 d_R_at_11 rfl (lv_at hl 3 rfl) ?_
  refine lv_lshr (v := (((X (24 * f + i)) : Int64) >>> ((nI b : Int32).toInt64 &&& 63))) S.1 S.2.1 d_R_at_12 rfl ?_
  refine lv_lconst (v := 1) S.1 S.2.1 d_R_at_13 (by decide) ?_
  refine lv_land S.1 S.2.1 d_R_at_14 ?_
  refine lv_lconst (v := 1) S.1 S.2.1 d_R_at_15 (by decide) ?_
  refine W.lcmp S.1 S.2.1 d_R_at_16 ?_
  refine lv_if_ne (tgt := 24) S.1 S.2.1 d_R_at_17 (by decide) (fun hbr1 => ?_) (fun hbr1 => ?_)
  · refine lv_iconst (v := 0) S.1 S.2.1 d_R_at_24 (by decide) ?_
    exact r_z S hr hk rfl d_R_at_25 (bI_f (bnot (fun z => hbr1 ((lg_cmp0 _ _).mpr ((tb_tst _ hb).mpr z)))))
  · refine lv_iconst (v := 1) S.1 S.2.1 d_R_at_20 (by decide) ?_
    refine lv_goto (tgt := 25) S.1 S.2.1 d_R_at_21 (by decide) ?_
    exact r_z S hr hk rfl d_R_at_25 (bI_t ((tb_tst _ hb).mp ((lg_cmp0 _ _).mp hbr1)))
set_option maxHeartbeats 4000000 in
set_option maxRecDepth 100000 in
theorem c_R_lies (l : Launch) {K : KT} {ma : Nat → Nat} {n pl : Nat} {wt : Int32} {J : Nat → Nat → Int32} {X : Nat → Int64} {kd wh fi se : Nat → Nat} {lo hi : Nat → Int32} {f : Nat} (hT : mT kd wh fi se lo hi J n) (hn : n ≤ 12) (hf : f < n) (d : Int32) : Met l y_R_lies (Cond.code y_R_lies b_R_lies 3 (some Jvm.ClassFile.FieldType.boolean) :: WALL) { frames := 0, cells := 0, slots := 0, locals := 0 } (pc0 K [.ref (ma 0), .int (nI f), .int d] (fun H => mW K ma n wt pl J X H)) (vp_Si (fun r => r = bI (ly (lo f) (hi f) d))) 0 0 (fun _ => False) := by
  refine met0 (own := "MetricLogMonitorModel") (by decide) rfl (Nat.le_of_ble_eq_true rfl) (fun p e s m below meth c ls S hr hk hnm hC hH hl => ?_)
  have hl : lv_has ls 3 [(0, .ref (ma 0)), (1, .int (nI f)), (2, .int d)] := hl
  have hw := hH
  refine lv_iload_n S.1 S.2.1 d_R_lies_0 rfl (lv_at hl 2 rfl) ?_
  refine lv_aload_n S.1 S.2.1 d_R_lies_1 rfl (lv_at hl 0 rfl) ?_
  refine o_get (v := .ref (ma 5)) S hC kf_R hw.1 rfl 7 (by decide) q_698 rfl d_R_lies_2 ?_
  refine lv_iload_n S.1 S.2.1 d_R_lies_5 rfl (lv_at hl 1 rfl) ?_
  refine o_iald (j := f) S hC (mi_5 hw) (by decide) (by omega) d_R_lies_6 ?_
  refine tpi (y := lo f) (hT f (by omega)).2.2.2.2.1 ?_
  refine lv_icmp_lt (tgt := 34) S.1 S.2.1 d_R_lies_7 (by decide) (fun hbr1 => ?_) (fun hbr1 => ?_)
  · refine lv_iconst (v := 0) S.1 S.2.1 d_R_lies_34 (by decide) ?_
    exact r_z S hr hk rfl d_R_lies_35 (ly_n1 hbr1)
  · refine lv_aload_n S.1 S.2.1 d_R_lies_10 rfl (lv_at hl 0 rfl) ?_
    refine o_get (v := .ref (ma 6)) S hC kf_R hw.1 rfl 8 (by decide) q_699 rfl d_R_lies_11 ?_
    refine lv_iload_n S.1 S.2.1 d_R_lies_14 rfl (lv_at hl 1 rfl) ?_
    refine o_iald (j := f) S hC (mi_6 hw) (by decide) (by omega) d_R_lies_15 ?_
    refine tpi (y := hi f) (hT f (by omega)).2.2.2.2.2 ?_
    refine lv_iconst (v := (-1)) S.1 S.2.1 d_R_lies_16 (by decide) ?_
    refine lv_icmp_eq (tgt := 30) S.1 S.2.1 d_R_lies_17 (by decide) (fun hbr2 => ?_) (fun hbr2 => ?_)
    · refine lv_iconst (v := 1) S.1 S.2.1 d_R_lies_30 (by decide) ?_
      refine lv_goto (tgt := 35) S.1 S.2.1 d_R_lies_31 (by decide) ?_
      exact r_z S hr hk rfl d_R_lies_35 (ly_y1 hbr1 hbr2)
    · refine lv_iload_n S.1 S.2.1 d_R_lies_20 rfl (lv_at hl 2 rfl) ?_
      refine lv_aload_n S.1 S.2.1 d_R_lies_21 rfl (lv_at hl 0 rfl) ?_
      refine o_get (v := .ref (ma 6)) S hC kf_R hw.1 rfl 8 (by decide) q_699 rfl d_R_lies_22 ?_
      refine lv_iload_n S.1 S.2.1 d_R_lies_25 rfl (lv_at hl 1 rfl) ?_
      refine o_iald (j := f) S hC (mi_6 hw) (by decide) (by omega) d_R_lies_26 ?_
      refine tpi (y := hi f) (hT f (by omega)).2.2.2.2.2 ?_
      refine lv_icmp_gt (tgt := 34) S.1 S.2.1 d_R_lies_27 (by decide) (fun hbr3 => ?_) (fun hbr3 => ?_)
      · refine lv_iconst (v := 0) S.1 S.2.1 d_R_lies_34 (by decide) ?_
        exact r_z S hr hk rfl d_R_lies_35 (ly_n2 hbr2 hbr3)
      · refine lv_iconst (v := 1) S.1 S.2.1 d_R_lies_30 (by decide) ?_
        refine lv_goto (tgt := 35) S.1 S.2.1 d_R_lies_31 (by decide) ?_
        exact r_z S hr hk rfl d_R_lies_35 (ly_y2 hbr1 hbr3)
set_option maxHeartbeats 4000000 in
set_option maxRecDepth 100000 in
theorem c_R_sinceAt (l : Launch) {K : KT} {ma : Nat → Nat} {n pl : Nat} {wt : Int32} {J : Nat → Nat → Int32} {X : Nat → Int64} {kd wh fi se : Nat → Nat} {lo hi : Nat → Int32} {f i b : Nat} (hT : mT kd wh fi se lo hi J n) (hV : tabOk kd wh fi se lo hi n) (hn : n ≤ 12) (hf : f < n) (hb : b < 64) (hi2 : i < 24) (hp3 : 3 ≤ kd f) : Met l y_R_sinceAt (Cond.code y_R_sinceAt b_R_sinceAt 5 (some Jvm.ClassFile.FieldType.boolean) :: WALL) { frames := 1, cells := 0, slots := 0, locals := 23 } (pc0 K [.ref (ma 0), .int (nI f), .int (nI i), .int (nI b)] (fun H => mW K ma n wt pl J X H)) (vp_Si (fun r => r = bI (sm (fun j => ly (lo f) (hi f) (J 7 i - J 7 j)) (fun j => tb (X (24 * fi f + j)) b) (fun j => tb (X (24 * se f + j)) b) (i + 1)))) 0 0 (fun _ => False) := by
  refine met0 (own := "MetricLogMonitorModel") (by decide) rfl (Nat.le_of_ble_eq_true rfl) (fun p e s m below meth c ls S hr hk hnm hC hH hl => ?_)
  have hl : lv_has ls 5 [(0, .ref (ma 0)), (1, .int (nI f)), (2, .int (nI i)), (3, .int (nI b))] := hl
  have hw := hH
  have hfv := (hV f hf).2.2.2.1 hp3
  refine lv_iload_n S.1 S.2.1 d_R_sinceAt_0 rfl (lv_at hl 2 rfl) ?_
  refine lv_istore S.1 S.2.1 d_R_sinceAt_1 hl (by decide) rfl (fun ls hl => ?_)
  have hl : lv_has ls 5 [(4, .int (nI i)), (0, .ref (ma 0)), (1, .int (nI f)), (2, .int (nI i)), (3, .int (nI b))] := hl
  have key3 : ∀ (d3 : Nat) (v7 : Int32) (q : Nat) (ls : Array Slot), q = d3 → (v7 = nI q - 1) → (q ≤ i + 1) → (sm (fun j => ly (lo f) (hi f) (J 7 i - J 7 j)) (fun j => tb (X (24 * fi f + j)) b) (fun j => tb (X (24 * se f + j)) b) (i + 1) = sm (fun j => ly (lo f) (hi f) (J 7 i - J 7 j)) (fun j => tb (X (24 * fi f + j)) b) (fun j => tb (X (24 * se f + j)) b) q) → lv_has ls 5 [(4, .int v7), (0, .ref (ma 0)), (1, .int (nI f)), (2, .int (nI i)), (3, .int (nI b))] → W p l e ({ frames := 1, cells := 0, slots := 0, locals := 23 } : Room) s m ([.ref (ma 0), .int (nI f), .int (nI i), .int (nI b)] : List Value).toArray below meth c s.heap [] 0 0 (MQ below (vp_Si (fun r => r = bI (sm (fun j => ly (lo f) (hi f) (J 7 i - J 7 j)) (fun j => tb (X (24 * fi f + j)) b) (fun j => tb (X (24 * se f + j)) b) (i + 1)))) ([.ref (ma 0), .int (nI f), .int (nI i), .int (nI b)] : List Value).toArray s 0 0 (fun _ => False)) (F0 m 3 ls []) := by
    intro d3
    induction d3 with
    | zero =>
      intro v7 q ls hd3 hv7 hq7 hI hl
      obtain rfl : q = 0 := hd3
      refine lv_iload S.1 S.2.1 d_R_sinceAt_3 (lv_at hl 0 rfl) ?_
      refine lv_if_lt (tgt := 72) S.1 S.2.1 d_R_sinceAt_5 (by decide) (fun _ => ?_) (fun hx9 => absurd (by rw [hv7]; decide) hx9)
      refine lv_iconst (v := 0) S.1 S.2.1 d_R_sinceAt_72 (by decide) ?_
      exact r_z S hr hk rfl d_R_sinceAt_73 (by rw [hI]; rfl)
    | succ d3 ih3 =>
      intro v7 q ls hd3 hv7 hq7 hI hl
      obtain ⟨j, rfl⟩ : ∃ j, q = j + 1 := ⟨_, hd3⟩
      rw [nI_pred] at hv7
      subst hv7
      refine lv_iload S.1 S.2.1 d_R_sinceAt_3 (lv_at hl 0 rfl) ?_
      refine lv_if_lt (tgt := 72) S.1 S.2.1 d_R_sinceAt_5 (by decide) (fun hx9 => absurd hx9 (nI_pos (by omega))) (fun _ => ?_)
      refine lv_aload_n S.1 S.2.1 d_R_sinceAt_8 rfl (lv_at hl 1 rfl) ?_
      refine lv_iload_n S.1 S.2.1 d_R_sinceAt_9 rfl (lv_at hl 2 rfl) ?_
      refine lv_aload_n S.1 S.2.1 d_R_sinceAt_10 rfl (lv_at hl 1 rfl) ?_
      refine o_get (v := .ref (ma 7)) S hC kf_R hw.1 rfl 9 (by decide) q_702 rfl d_R_sinceAt_11 ?_
      refine lv_iload_n S.1 S.2.1 d_R_sinceAt_14 rfl (lv_at hl 3 rfl) ?_
      refine o_iald (j := i) S hC (mi_7 hw) (by decide) (by omega) d_R_sinceAt_15 ?_
      refine lv_aload_n S.1 S.2.1 d_R_sinceAt_16 rfl (lv_at hl 1 rfl) ?_
      refine o_get (v := .ref (ma 7)) S hC kf_R hw.1 rfl 9 (by decide) q_702 rfl d_R_sinceAt_17 ?_
      refine lv_iload S.1 S.2.1 d_R_sinceAt_20 (lv_at hl 0 rfl) ?_
      refine o_iald (j := j) S hC (mi_7 hw) (by decide) (by omega) d_R_sinceAt_22 ?_
      refine lv_isub S.1 S.2.1 d_R_sinceAt_23 ?_
      refine kVi (rest := []) S (c_R_lies l hT hn hf (J 7 i - J 7 j)) kc_R_lies ⟨q_859, q_861, qp_17⟩ rfl rfl ⟨Nat.le_of_ble_eq_true rfl, Nat.le_of_ble_eq_true rfl⟩ hC (hSF s) (hAF K) hw ⟨11, _, _, _, rfl, hw.1⟩ ⟨Nat.zero_le _, Nat.zero_le _⟩ hl.1 rfl rfl (Nat.le_of_ble_eq_true rfl) d_R_sinceAt_24 (fun r er => ?_)
      subst er
      refine lv_if_eq (tgt := 48) S.1 S.2.1 d_R_sinceAt_27 (by decide) (fun hbr1 => ?_) (fun hbr1 => ?_)
      · refine lv_aload_n S.1 S.2.1 d_R_sinceAt_48 rfl (lv_at hl 1 rfl) ?_
        refine lv_aload_n S.1 S.2.1 d_R_sinceAt_49 rfl (lv_at hl 1 rfl) ?_
        refine o_get (v := .ref (ma 3)) S hC kf_R hw.1 rfl 5 (by decide) q_696 rfl d_R_sinceAt_50 ?_
        refine lv_iload_n S.1 S.2.1 d_R_sinceAt_53 rfl (lv_at hl 2 rfl) ?_
        refine o_iald (j := f) S hC (mi_3 hw) (by decide) (by omega) d_R_sinceAt_54 ?_
        refine tpi (y := nI (fi f)) (hT f (by omega)).2.2.1 ?_
        refine lv_iload S.1 S.2.1 d_R_sinceAt_55 (lv_at hl 0 rfl) ?_
        refine lv_iload_n S.1 S.2.1 d_R_sinceAt_57 rfl (lv_at hl 4 rfl) ?_
        refine kVi (rest := []) S (c_R_at l (f := fi f) (i := j) (b := b) (by omega) hb) kc_R_at ⟨q_851, q_853, qp_15⟩ rfl rfl ⟨Nat.le_of_ble_eq_true rfl, Nat.le_of_ble_eq_true rfl⟩ hC (hSF s) (hAF K) hw ⟨11, _, _, _, rfl, hw.1⟩ ⟨Nat.zero_le _, Nat.zero_le _⟩ hl.1 rfl rfl (Nat.le_of_ble_eq_true rfl) d_R_sinceAt_58 (fun r er => ?_)
        subst er
        refine lv_if_ne (tgt := 66) S.1 S.2.1 d_R_sinceAt_61 (by decide) (fun hbr2 => ?_) (fun hbr2 => ?_)
        · refine lv_iinc (v := nI j - 1) S.1 S.2.1 d_R_sinceAt_66 hl (k := 0) rfl (nI_dec j) (by decide) rfl (fun ls hl => ?_)
          have hl : lv_has ls 5 [(4, .int (nI j - 1)), (0, .ref (ma 0)), (1, .int (nI f)), (2, .int (nI i)), (3, .int (nI b))] := hl
          refine lv_goto (tgt := 3) S.1 S.2.1 d_R_sinceAt_69 (by decide) ?_
          exact ih3 (nI j - 1) j ls (by omega) rfl (by omega) (by rw [hI, sm_ref, if_neg (by rw [bI_0.mp hbr1]; exact Bool.false_ne_true), if_pos (bI_n hbr2)]) (lv_sub hl [0, 1, 2, 3, 4] rfl)
        · refine lv_iconst (v := 0) S.1 S.2.1 d_R_sinceAt_64 (by decide) ?_
          exact r_z S hr hk rfl d_R_sinceAt_65 (by rw [hI, sm_ref, if_neg (by rw [bI_0.mp hbr1]; exact Bool.false_ne_true), if_neg (by rw [bI_0.mp hbr2]; exact Bool.false_ne_true)]; rfl)
      · refine lv_aload_n S.1 S.2.1 d_R_sinceAt_30 rfl (lv_at hl 1 rfl) ?_
        refine lv_aload_n S.1 S.2.1 d_R_sinceAt_31 rfl (lv_at hl 1 rfl) ?_
        refine o_get (v := .ref (ma 4)) S hC kf_R hw.1 rfl 6 (by decide) q_697 rfl d_R_sinceAt_32 ?_
        refine lv_iload_n S.1 S.2.1 d_R_sinceAt_35 rfl (lv_at hl 2 rfl) ?_
        refine o_iald (j := f) S hC (mi_4 hw) (by decide) (by omega) d_R_sinceAt_36 ?_
        refine tpi (y := nI (se f)) (hT f (by omega)).2.2.2.1 ?_
        refine lv_iload S.1 S.2.1 d_R_sinceAt_37 (lv_at hl 0 rfl) ?_
        refine lv_iload_n S.1 S.2.1 d_R_sinceAt_39 rfl (lv_at hl 4 rfl) ?_
        refine kVi (rest := []) S (c_R_at l (f := se f) (i := j) (b := b) (by omega) hb) kc_R_at ⟨q_851, q_853, qp_15⟩ rfl rfl ⟨Nat.le_of_ble_eq_true rfl, Nat.le_of_ble_eq_true rfl⟩ hC (hSF s) (hAF K) hw ⟨11, _, _, _, rfl, hw.1⟩ ⟨Nat.zero_le _, Nat.zero_le _⟩ hl.1 rfl rfl (Nat.le_of_ble_eq_true rfl) d_R_sinceAt_40 (fun r er => ?_)
        subst er
        refine lv_if_eq (tgt := 48) S.1 S.2.1 d_R_sinceAt_43 (by decide) (fun hbr3 => ?_) (fun hbr3 => ?_)
        · refine lv_aload_n S.1 S.2.1 d_R_sinceAt_48 rfl (lv_at hl 1 rfl) ?_
          refine lv_aload_n S.1 S.2.1 d_R_sinceAt_49 rfl (lv_at hl 1 rfl) ?_
          refine o_get (v := .ref (ma 3)) S hC kf_R hw.1 rfl 5 (by decide) q_696 rfl d_R_sinceAt_50 ?_
          refine lv_iload_n S.1 S.2.1 d_R_sinceAt_53 rfl (lv_at hl 2 rfl) ?_
          refine o_iald (j := f) S hC (mi_3 hw) (by decide) (by omega) d_R_sinceAt_54 ?_
          refine tpi (y := nI (fi f)) (hT f (by omega)).2.2.1 ?_
          refine lv_iload S.1 S.2.1 d_R_sinceAt_55 (lv_at hl 0 rfl) ?_
          refine lv_iload_n S.1 S.2.1 d_R_sinceAt_57 rfl (lv_at hl 4 rfl) ?_
          refine kVi (rest := []) S (c_R_at l (f := fi f) (i := j) (b := b) (by omega) hb) kc_R_at ⟨q_851, q_853, qp_15⟩ rfl rfl ⟨Nat.le_of_ble_eq_true rfl, Nat.le_of_ble_eq_true rfl⟩ hC (hSF s) (hAF K) hw ⟨11, _, _, _, rfl, hw.1⟩ ⟨Nat.zero_le _, Nat.zero_le _⟩ hl.1 rfl rfl (Nat.le_of_ble_eq_true rfl) d_R_sinceAt_58 (fun r er => ?_)
          subst er
          refine lv_if_ne (tgt := 66) S.1 S.2.1 d_R_sinceAt_61 (by decide) (fun hbr4 => ?_) (fun hbr4 => ?_)
          · refine lv_iinc (v := nI j - 1) S.1 S.2.1 d_R_sinceAt_66 hl (k := 0) rfl (nI_dec j) (by decide) rfl (fun ls hl => ?_)
            have hl : lv_has ls 5 [(4, .int (nI j - 1)), (0, .ref (ma 0)), (1, .int (nI f)), (2, .int (nI i)), (3, .int (nI b))] := hl
            refine lv_goto (tgt := 3) S.1 S.2.1 d_R_sinceAt_69 (by decide) ?_
            exact ih3 (nI j - 1) j ls (by omega) rfl (by omega) (by rw [hI, sm_ref, if_neg (by rw [bI_0.mp hbr3, Bool.and_false]; exact Bool.false_ne_true), if_pos (bI_n hbr4)]) (lv_sub hl [0, 1, 2, 3, 4] rfl)
          · refine lv_iconst (v := 0) S.1 S.2.1 d_R_sinceAt_64 (by decide) ?_
            exact r_z S hr hk rfl d_R_sinceAt_65 (by rw [hI, sm_ref, if_neg (by rw [bI_0.mp hbr3, Bool.and_false]; exact Bool.false_ne_true), if_neg (by rw [bI_0.mp hbr4]; exact Bool.false_ne_true)]; rfl)
        · refine lv_iconst (v := 1) S.1 S.2.1 d_R_sinceAt_46 (by decide) ?_
          exact r_z S hr hk rfl d_R_sinceAt_47 (by rw [hI, sm_ref, if_pos (by rw [bI_n hbr1, bI_n hbr3]; rfl)]; rfl)
  exact key3 (i + 1) (nI i) (i + 1) ls rfl (nI_pred i).symm (Nat.le_refl _) rfl (lv_sub hl [0, 1, 2, 3, 4] rfl)
set_option maxHeartbeats 4000000 in
set_option maxRecDepth 100000 in
theorem c_R_untilAt (l : Launch) {K : KT} {ma : Nat → Nat} {n pl : Nat} {wt : Int32} {J : Nat → Nat → Int32} {X : Nat → Int64} {kd wh fi se : Nat → Nat} {lo hi : Nat → Int32} {f i b : Nat} (hT : mT kd wh fi se lo hi J n) (hV : tabOk kd wh fi se lo hi n) (hn : n ≤ 12) (hf : f < n) (hb : b < 64) (hi2 : i < pl) (hpl : pl ≤ 24) (hp3 : 3 ≤ kd f) : Met l y_R_untilAt (Cond.code y_R_untilAt b_R_untilAt 5 (some Jvm.ClassFile.FieldType.boolean) :: WALL) { frames := 1, cells := 0, slots := 0, locals := 23 } (pc0 K [.ref (ma 0), .int (nI f), .int (nI i), .int (nI b)] (fun H => mW K ma n wt pl J X H)) (vp_Si (fun r => r = bI (um (fun j => ly (lo f) (hi f) (J 7 j - J 7 i)) (fun j => tb (X (24 * fi f + j)) b) (fun j => tb (X (24 * se f + j)) b) (pl - i) i))) 0 0 (fun _ => False) := by
  refine met0 (own := "MetricLogMonitorModel") (by decide) rfl (Nat.le_of_ble_eq_true rfl) (fun p e s m below meth c ls S hr hk hnm hC hH hl => ?_)
  have hl : lv_has ls 5 [(0, .ref (ma 0)), (1, .int (nI f)), (2, .int (nI i)), (3, .int (nI b))] := hl
  have hw := hH
  have hfv := (hV f hf).2.2.2.1 hp3
  refine lv_iload_n S.1 S.2.1 d_R_untilAt_0 rfl (lv_at hl 2 rfl) ?_
  refine lv_istore S.1 S.2.1 d_R_untilAt_1 hl (by decide) rfl (fun ls hl => ?_)
  have hl : lv_has ls 5 [(4, .int (nI i)), (0, .ref (ma 0)), (1, .int (nI f)), (2, .int (nI i)), (3, .int (nI b))] := hl
  have key3 : ∀ (d3 : Nat) (j : Nat) (ls : Array Slot), j + d3 = pl → (i ≤ j) → (um (fun j => ly (lo f) (hi f) (J 7 j - J 7 i)) (fun j => tb (X (24 * fi f + j)) b) (fun j => tb (X (24 * se f + j)) b) (pl - i) i = um (fun j => ly (lo f) (hi f) (J 7 j - J 7 i)) (fun j => tb (X (24 * fi f + j)) b) (fun j => tb (X (24 * se f + j)) b) (pl - j) j) → lv_has ls 5 [(4, .int (nI j)), (0, .ref (ma 0)), (1, .int (nI f)), (2, .int (nI i)), (3, .int (nI b))] → W p l e ({ frames := 1, cells := 0, slots := 0, locals := 23 } : Room) s m ([.ref (ma 0), .int (nI f), .int (nI i), .int (nI b)] : List Value).toArray below meth c s.heap [] 0 0 (MQ below (vp_Si (fun r => r = bI (um (fun j => ly (lo f) (hi f) (J 7 j - J 7 i)) (fun j => tb (X (24 * fi f + j)) b) (fun j => tb (X (24 * se f + j)) b) (pl - i) i))) ([.ref (ma 0), .int (nI f), .int (nI i), .int (nI b)] : List Value).toArray s 0 0 (fun _ => False)) (F0 m 3 ls []) := by
    intro d3
    induction d3 with
    | zero =>
      intro j ls hd3 hij hI hl
      rw [show pl - j = 0 by omega] at hI
      refine lv_iload S.1 S.2.1 d_R_untilAt_3 (lv_at hl 0 rfl) ?_
      refine lv_aload_n S.1 S.2.1 d_R_untilAt_5 rfl (lv_at hl 1 rfl) ?_
      refine o_get (v := .int (nI pl)) S hC kf_R hw.1 rfl 2 (by decide) q_701 rfl d_R_untilAt_6 ?_
      refine lv_icmp_ge (tgt := 76) S.1 S.2.1 d_R_untilAt_9 (by decide) (fun _ => ?_) (fun hx9 => absurd (nI_le (by omega) (by omega)) hx9)
      refine lv_iconst (v := 0) S.1 S.2.1 d_R_untilAt_76 (by decide) ?_
      exact r_z S hr hk rfl d_R_untilAt_77 (by rw [hI]; rfl)
    | succ d3 ih3 =>
      intro j ls hd3 hij hI hl
      rw [show pl - j = (pl - (j + 1)) + 1 by omega] at hI
      refine lv_iload S.1 S.2.1 d_R_untilAt_3 (lv_at hl 0 rfl) ?_
      refine lv_aload_n S.1 S.2.1 d_R_untilAt_5 rfl (lv_at hl 1 rfl) ?_
      refine o_get (v := .int (nI pl)) S hC kf_R hw.1 rfl 2 (by decide) q_701 rfl d_R_untilAt_6 ?_
      refine lv_icmp_ge (tgt := 76) S.1 S.2.1 d_R_untilAt_9 (by decide) (fun hx9 => absurd hx9 (nI_ge (by omega) (by omega))) (fun _ => ?_)
      refine lv_aload_n S.1 S.2.1 d_R_untilAt_12 rfl (lv_at hl 1 rfl) ?_
      refine lv_iload_n S.1 S.2.1 d_R_untilAt_13 rfl (lv_at hl 2 rfl) ?_
      refine lv_aload_n S.1 S.2.1 d_R_untilAt_14 rfl (lv_at hl 1 rfl) ?_
      refine o_get (v := .ref (ma 7)) S hC kf_R hw.1 rfl 9 (by decide) q_702 rfl d_R_untilAt_15 ?_
      refine lv_iload S.1 S.2.1 d_R_untilAt_18 (lv_at hl 0 rfl) ?_
      refine o_iald (j := j) S hC (mi_7 hw) (by decide) (by omega) d_R_untilAt_20 ?_
      refine lv_aload_n S.1 S.2.1 d_R_untilAt_21 rfl (lv_at hl 1 rfl) ?_
      refine o_get (v := .ref (ma 7)) S hC kf_R hw.1 rfl 9 (by decide) q_702 rfl d_R_untilAt_22 ?_
      refine lv_iload_n S.1 S.2.1 d_R_untilAt_25 rfl (lv_at hl 3 rfl) ?_
      refine o_iald (j := i) S hC (mi_7 hw) (by decide) (by omega) d_R_untilAt_26 ?_
      refine lv_isub S.1 S.2.1 d_R_untilAt_27 ?_
      refine kVi (rest := []) S (c_R_lies l hT hn hf (J 7 j - J 7 i)) kc_R_lies ⟨q_859, q_861, qp_17⟩ rfl rfl ⟨Nat.le_of_ble_eq_true rfl, Nat.le_of_ble_eq_true rfl⟩ hC (hSF s) (hAF K) hw ⟨11, _, _, _, rfl, hw.1⟩ ⟨Nat.zero_le _, Nat.zero_le _⟩ hl.1 rfl rfl (Nat.le_of_ble_eq_true rfl) d_R_untilAt_28 (fun r er => ?_)
      subst er
      refine lv_if_eq (tgt := 52) S.1 S.2.1 d_R_untilAt_31 (by decide) (fun hbr1 => ?_) (fun hbr1 => ?_)
      · refine lv_aload_n S.1 S.2.1 d_R_untilAt_52 rfl (lv_at hl 1 rfl) ?_
        refine lv_aload_n S.1 S.2.1 d_R_untilAt_53 rfl (lv_at hl 1 rfl) ?_
        refine o_get (v := .ref (ma 3)) S hC kf_R hw.1 rfl 5 (by decide) q_696 rfl d_R_untilAt_54 ?_
        refine lv_iload_n S.1 S.2.1 d_R_untilAt_57 rfl (lv_at hl 2 rfl) ?_
        refine o_iald (j := f) S hC (mi_3 hw) (by decide) (by omega) d_R_untilAt_58 ?_
        refine tpi (y := nI (fi f)) (hT f (by omega)).2.2.1 ?_
        refine lv_iload S.1 S.2.1 d_R_untilAt_59 (lv_at hl 0 rfl) ?_
        refine lv_iload_n S.1 S.2.1 d_R_untilAt_61 rfl (lv_at hl 4 rfl) ?_
        refine kVi (rest := []) S (c_R_at l (f := fi f) (i := j) (b := b) (by omega) hb) kc_R_at ⟨q_851, q_853, qp_15⟩ rfl rfl ⟨Nat.le_of_ble_eq_true rfl, Nat.le_of_ble_eq_true rfl⟩ hC (hSF s) (hAF K) hw ⟨11, _, _, _, rfl, hw.1⟩ ⟨Nat.zero_le _, Nat.zero_le _⟩ hl.1 rfl rfl (Nat.le_of_ble_eq_true rfl) d_R_untilAt_62 (fun r er => ?_)
        subst er
        refine lv_if_ne (tgt := 70) S.1 S.2.1 d_R_untilAt_65 (by decide) (fun hbr2 => ?_) (fun hbr2 => ?_)
        · refine lv_iinc (v := nI (j + 1)) S.1 S.2.1 d_R_untilAt_70 hl (k := 0) rfl (nI_1 j) (by decide) rfl (fun ls hl => ?_)
          have hl : lv_has ls 5 [(4, .int (nI (j + 1))), (0, .ref (ma 0)), (1, .int (nI f)), (2, .int (nI i)), (3, .int (nI b))] := hl
          refine lv_goto (tgt := 3) S.1 S.2.1 d_R_untilAt_73 (by decide) ?_
          exact ih3 (j + 1) ls (by omega) (by omega) (by rw [hI, um_ref, if_neg (by rw [bI_0.mp hbr1]; exact Bool.false_ne_true), if_pos (bI_n hbr2)]) (lv_sub hl [0, 1, 2, 3, 4] rfl)
        · refine lv_iconst (v := 0) S.1 S.2.1 d_R_untilAt_68 (by decide) ?_
          exact r_z S hr hk rfl d_R_untilAt_69 (by rw [hI, um_ref, if_neg (by rw [bI_0.mp hbr1]; exact Bool.false_ne_true), if_neg (by rw [bI_0.mp hbr2]; exact Bool.false_ne_true)]; rfl)
      · refine lv_aload_n S.1 S.2.1 d_R_untilAt_34 rfl (lv_at hl 1 rfl) ?_
        refine lv_aload_n S.1 S.2.1 d_R_untilAt_35 rfl (lv_at hl 1 rfl) ?_
        refine o_get (v := .ref (ma 4)) S hC kf_R hw.1 rfl 6 (by decide) q_697 rfl d_R_untilAt_36 ?_
        refine lv_iload_n S.1 S.2.1 d_R_untilAt_39 rfl (lv_at hl 2 rfl) ?_
        refine o_iald (j := f) S hC (mi_4 hw) (by decide) (by omega) d_R_untilAt_40 ?_
        refine tpi (y := nI (se f)) (hT f (by omega)).2.2.2.1 ?_
        refine lv_iload S.1 S.2.1 d_R_untilAt_41 (lv_at hl 0 rfl) ?_
        refine lv_iload_n S.1 S.2.1 d_R_untilAt_43 rfl (lv_at hl 4 rfl) ?_
        refine kVi (rest := []) S (c_R_at l (f := se f) (i := j) (b := b) (by omega) hb) kc_R_at ⟨q_851, q_853, qp_15⟩ rfl rfl ⟨Nat.le_of_ble_eq_true rfl, Nat.le_of_ble_eq_true rfl⟩ hC (hSF s) (hAF K) hw ⟨11, _, _, _, rfl, hw.1⟩ ⟨Nat.zero_le _, Nat.zero_le _⟩ hl.1 rfl rfl (Nat.le_of_ble_eq_true rfl) d_R_untilAt_44 (fun r er => ?_)
        subst er
        refine lv_if_eq (tgt := 52) S.1 S.2.1 d_R_untilAt_47 (by decide) (fun hbr3 => ?_) (fun hbr3 => ?_)
        · refine lv_aload_n S.1 S.2.1 d_R_untilAt_52 rfl (lv_at hl 1 rfl) ?_
          refine lv_aload_n S.1 S.2.1 d_R_untilAt_53 rfl (lv_at hl 1 rfl) ?_
          refine o_get (v := .ref (ma 3)) S hC kf_R hw.1 rfl 5 (by decide) q_696 rfl d_R_untilAt_54 ?_
          refine lv_iload_n S.1 S.2.1 d_R_untilAt_57 rfl (lv_at hl 2 rfl) ?_
          refine o_iald (j := f) S hC (mi_3 hw) (by decide) (by omega) d_R_untilAt_58 ?_
          refine tpi (y := nI (fi f)) (hT f (by omega)).2.2.1 ?_
          refine lv_iload S.1 S.2.1 d_R_untilAt_59 (lv_at hl 0 rfl) ?_
          refine lv_iload_n S.1 S.2.1 d_R_untilAt_61 rfl (lv_at hl 4 rfl) ?_
          refine kVi (rest := []) S (c_R_at l (f := fi f) (i := j) (b := b) (by omega) hb) kc_R_at ⟨q_851, q_853, qp_15⟩ rfl rfl ⟨Nat.le_of_ble_eq_true rfl, Nat.le_of_ble_eq_true rfl⟩ hC (hSF s) (hAF K) hw ⟨11, _, _, _, rfl, hw.1⟩ ⟨Nat.zero_le _, Nat.zero_le _⟩ hl.1 rfl rfl (Nat.le_of_ble_eq_true rfl) d_R_untilAt_62 (fun r er => ?_)
          subst er
          refine lv_if_ne (tgt := 70) S.1 S.2.1 d_R_untilAt_65 (by decide) (fun hbr4 => ?_) (fun hbr4 => ?_)
          · refine lv_iinc (v := nI (j + 1)) S.1 S.2.1 d_R_untilAt_70 hl (k := 0) rfl (nI_1 j) (by decide) rfl (fun ls hl => ?_)
            have hl : lv_has ls 5 [(4, .int (nI (j + 1))), (0, .ref (ma 0)), (1, .int (nI f)), (2, .int (nI i)), (3, .int (nI b))] := hl
            refine lv_goto (tgt := 3) S.1 S.2.1 d_R_untilAt_73 (by decide) ?_
            exact ih3 (j + 1) ls (by omega) (by omega) (by rw [hI, um_ref, if_neg (by rw [bI_0.mp hbr3, Bool.and_false]; exact Bool.false_ne_true), if_pos (bI_n hbr4)]) (lv_sub hl [0, 1, 2, 3, 4] rfl)
          · refine lv_iconst (v := 0) S.1 S.2.1 d_R_untilAt_68 (by decide) ?_
            exact r_z S hr hk rfl d_R_untilAt_69 (by rw [hI, um_ref, if_neg (by rw [bI_0.mp hbr3, Bool.and_false]; exact Bool.false_ne_true), if_neg (by rw [bI_0.mp hbr4]; exact Bool.false_ne_true)]; rfl)
        · refine lv_iconst (v := 1) S.1 S.2.1 d_R_untilAt_50 (by decide) ?_
          exact r_z S hr hk rfl d_R_untilAt_51 (by rw [hI, um_ref, if_pos (by rw [bI_n hbr1, bI_n hbr3]; rfl)]; rfl)
  exact key3 (pl - i) i ls (by omega) (Nat.le_refl _) rfl (lv_sub hl [0, 1, 2, 3, 4] rfl)
set_option maxHeartbeats 4000000 in
set_option maxRecDepth 100000 in
theorem c_R_existsAt (l : Launch) {K : KT} {ma : Nat → Nat} {n pl : Nat} {wt : Int32} {J : Nat → Nat → Int32} {X : Nat → Int64} {kd wh fi se : Nat → Nat} {lo hi : Nat → Int32} {f i b : Nat} (hT : mT kd wh fi se lo hi J n) (hV : tabOk kd wh fi se lo hi n) (hn : n ≤ 12) (hf : f < n) (hb : b < 64) (hi2 : i < 24) (hp3 : 3 ≤ kd f) : Met l y_R_existsAt (Cond.code y_R_existsAt b_R_existsAt 7 (some Jvm.ClassFile.FieldType.boolean) :: WALL) { frames := 1, cells := 0, slots := 0, locals := 23 } (pc0 K [.ref (ma 0), .int (nI f), .int (nI i), .int (nI b)] (fun H => mW K ma n wt pl J X H)) (vp_Si (fun r => r = bI (a4 (fun d => tb (X (24 * fi f + i)) (rp (wh f) b d))))) 0 0 (fun _ => False) := by
  refine met0 (own := "MetricLogMonitorModel") (by decide) rfl (Nat.le_of_ble_eq_true rfl) (fun p e s m below meth c ls S hr hk hnm hC hH hl => ?_)
  have hl : lv_has ls 7 [(0, .ref (ma 0)), (1, .int (nI f)), (2, .int (nI i)), (3, .int (nI b))] := hl
  have hw := hH
  have hfv := (hV f hf).2.2.2.1 hp3
  have hwf := (hV f hf).2.1
  refine lv_iconst (v := 2) S.1 S.2.1 d_R_existsAt_0 (by decide) ?_
  refine lv_aload_n S.1 S.2.1 d_R_existsAt_1 rfl (lv_at hl 0 rfl) ?_
  refine o_get (v := .ref (ma 2)) S hC kf_R hw.1 rfl 4 (by decide) q_695 rfl d_R_existsAt_2 ?_
  refine lv_iload_n S.1 S.2.1 d_R_existsAt_5 rfl (lv_at hl 1 rfl) ?_
  refine o_iald (j := f) S hC (mi_2 hw) (by decide) (by omega) d_R_existsAt_6 ?_
  refine tpi (y := nI (wh f)) (hT f (by omega)).2.1 ?_
  refine lv_imul S.1 S.2.1 d_R_existsAt_7 ?_
  refine lv_istore S.1 S.2.1 d_R_existsAt_8 hl (by decide) rfl (fun ls hl => ?_)
  have hl : lv_has ls 7 [(4, .int (2 * nI (wh f))), (0, .ref (ma 0)), (1, .int (nI f)), (2, .int (nI i)), (3, .int (nI b))] := hl
  refine lv_iconst (v := 0) S.1 S.2.1 d_R_existsAt_10 (by decide) ?_
  refine lv_istore S.1 S.2.1 d_R_existsAt_11 hl (by decide) rfl (fun ls hl => ?_)
  have hl : lv_has ls 7 [(5, .int 0), (4, .int (2 * nI (wh f))), (0, .ref (ma 0)), (1, .int (nI f)), (2, .int (nI i)), (3, .int (nI b))] := hl
  refine lv_iconst (v := 0) S.1 S.2.1 d_R_existsAt_13 (by decide) ?_
  refine lv_istore S.1 S.2.1 d_R_existsAt_14 hl (by decide) rfl (fun ls hl => ?_)
  have hl : lv_has ls 7 [(6, .int 0), (5, .int 0), (4, .int (2 * nI (wh f))), (0, .ref (ma 0)), (1, .int (nI f)), (2, .int (nI i)), (3, .int (nI b))] := hl
  have key16 : ∀ (d16 : Nat) (v : Nat) (x : Int32) (ls : Array Slot), v + d16 = 4 → (x = bI (anyb (fun d => tb (X (24 * fi f + i)) (rp (wh f) b d)) v)) → lv_has ls 7 [(6, .int (nI v)), (5, .int x), (4, .int (2 * nI (wh f))), (0, .ref (ma 0)), (1, .int (nI f)), (2, .int (nI i)), (3, .int (nI b))] → W p l e ({ frames := 1, cells := 0, slots := 0, locals := 23 } : Room) s m ([.ref (ma 0), .int (nI f), .int (nI i), .int (nI b)] : List Value).toArray below meth c s.heap [] 0 0 (MQ below (vp_Si (fun r => r = bI (a4 (fun d => tb (X (24 * fi f + i)) (rp (wh f) b d))))) ([.ref (ma 0), .int (nI f), .int (nI i), .int (nI b)] : List Value).toArray s 0 0 (fun _ => False)) (F0 m 16 ls []) := by
    intro d16
    induction d16 with
    | zero =>
      intro v x ls hd16 hx hl
      refine lv_iload S.1 S.2.1 d_R_existsAt_16 (lv_at hl 0 rfl) ?_
      refine lv_iconst (v := 4) S.1 S.2.1 d_R_existsAt_18 (by decide) ?_
      refine lv_icmp_ge (tgt := 68) S.1 S.2.1 d_R_existsAt_19 (by decide) (fun _ => ?_) (fun hx9 => absurd (by rw [show v = 4 by omega]; decide) hx9)
      refine lv_iload S.1 S.2.1 d_R_existsAt_68 (lv_at hl 1 rfl) ?_
      exact r_z S hr hk (nz (by rw [hx]; exact bI_z _)) d_R_existsAt_70 (by rw [hx, a4_anyb, show v = 4 by omega])
    | succ d16 ih16 =>
      intro v x ls hd16 hx hl
      refine lv_iload S.1 S.2.1 d_R_existsAt_16 (lv_at hl 0 rfl) ?_
      refine lv_iconst (v := 4) S.1 S.2.1 d_R_existsAt_18 (by decide) ?_
      refine lv_icmp_ge (tgt := 68) S.1 S.2.1 d_R_existsAt_19 (by decide) (fun hx9 => absurd hx9 (nI_ge (b := 4) (by omega) (by decide))) (fun _ => ?_)
      refine lv_iload S.1 S.2.1 d_R_existsAt_22 (lv_at hl 1 rfl) ?_
      refine lv_if_ne (tgt := 55) S.1 S.2.1 d_R_existsAt_24 (by decide) (fun hbr1 => ?_) (fun hbr1 => ?_)
      · refine lv_iconst (v := 1) S.1 S.2.1 d_R_existsAt_55 (by decide) ?_
        refine lv_goto (tgt := 60) S.1 S.2.1 d_R_existsAt_56 (by decide) ?_
        refine lv_istore S.1 S.2.1 d_R_existsAt_60 hl (by decide) rfl (fun ls hl => ?_)
        have hl : lv_has ls 7 [(5, .int 1), (6, .int (nI v)), (4, .int (2 * nI (wh f))), (0, .ref (ma 0)), (1, .int (nI f)), (2, .int (nI i)), (3, .int (nI b))] := hl
        refine lv_iinc (v := nI (v + 1)) S.1 S.2.1 d_R_existsAt_62 hl (k := 1) rfl (nI_1 v) (by decide) rfl (fun ls hl => ?_)
        have hl : lv_has ls 7 [(6, .int (nI (v + 1))), (5, .int 1), (4, .int (2 * nI (wh f))), (0, .ref (ma 0)), (1, .int (nI f)), (2, .int (nI i)), (3, .int (nI b))] := hl
        refine lv_goto (tgt := 16) S.1 S.2.1 d_R_existsAt_65 (by decide) ?_
        exact ih16 (v + 1) 1 ls (by omega) (bI_t (anyb_t (bI_n (by rw [← hx]; exact hbr1)))) (lv_sub hl [0, 1, 2, 3, 4, 5, 6] rfl)
      · refine lv_aload_n S.1 S.2.1 d_R_existsAt_27 rfl (lv_at hl 3 rfl) ?_
        refine lv_aload_n S.1 S.2.1 d_R_existsAt_28 rfl (lv_at hl 3 rfl) ?_
        refine o_get (v := .ref (ma 3)) S hC kf_R hw.1 rfl 5 (by decide) q_696 rfl d_R_existsAt_29 ?_
        refine lv_iload_n S.1 S.2.1 d_R_existsAt_32 rfl (lv_at hl 4 rfl) ?_
        refine o_iald (j := f) S hC (mi_3 hw) (by decide) (by omega) d_R_existsAt_33 ?_
        refine tpi (y := nI (fi f)) (hT f (by omega)).2.2.1 ?_
        refine lv_iload_n S.1 S.2.1 d_R_existsAt_34 rfl (lv_at hl 5 rfl) ?_
        refine lv_iload_n S.1 S.2.1 d_R_existsAt_35 rfl (lv_at hl 6 rfl) ?_
        refine lv_iconst (v := 3) S.1 S.2.1 d_R_existsAt_36 (by decide) ?_
        refine lv_iload S.1 S.2.1 d_R_existsAt_37 (lv_at hl 2 rfl) ?_
        refine lv_ishl S.1 S.2.1 d_R_existsAt_39 ?_
        refine lv_iconst (v := (-1)) S.1 S.2.1 d_R_existsAt_40 (by decide) ?_
        refine lv_ixor S.1 S.2.1 d_R_existsAt_41 ?_
        refine lv_iand S.1 S.2.1 d_R_existsAt_42 ?_
        refine lv_iload S.1 S.2.1 d_R_existsAt_43 (lv_at hl 0 rfl) ?_
        refine lv_iload S.1 S.2.1 d_R_existsAt_45 (lv_at hl 2 rfl) ?_
        refine lv_ishl S.1 S.2.1 d_R_existsAt_47 ?_
        refine lv_ior S.1 S.2.1 d_R_existsAt_48 ?_
        refine tpi (y := nI (rp (wh f) b v)) (rp_all _ (by omega) _ hb _ (by omega)) ?_
        refine kVi (rest := []) S (c_R_at l (f := fi f) (i := i) (b := rp (wh f) b v) (by omega) (rp_lt _ (by omega) _ hb _ (by omega))) kc_R_at ⟨q_851, q_853, qp_15⟩ rfl rfl ⟨Nat.le_of_ble_eq_true rfl, Nat.le_of_ble_eq_true rfl⟩ hC (hSF s) (hAF K) hw ⟨11, _, _, _, rfl, hw.1⟩ ⟨Nat.zero_le _, Nat.zero_le _⟩ hl.1 rfl rfl (Nat.le_of_ble_eq_true rfl) d_R_existsAt_49 (fun r er => ?_)
        subst er
        refine lv_if_eq (tgt := 59) S.1 S.2.1 d_R_existsAt_52 (by decide) (fun hbr2 => ?_) (fun hbr2 => ?_)
        · refine lv_iconst (v := 0) S.1 S.2.1 d_R_existsAt_59 (by decide) ?_
          refine lv_istore S.1 S.2.1 d_R_existsAt_60 hl (by decide) rfl (fun ls hl => ?_)
          have hl : lv_has ls 7 [(5, .int 0), (6, .int (nI v)), (4, .int (2 * nI (wh f))), (0, .ref (ma 0)), (1, .int (nI f)), (2, .int (nI i)), (3, .int (nI b))] := hl
          refine lv_iinc (v := nI (v + 1)) S.1 S.2.1 d_R_existsAt_62 hl (k := 1) rfl (nI_1 v) (by decide) rfl (fun ls hl => ?_)
          have hl : lv_has ls 7 [(6, .int (nI (v + 1))), (5, .int 0), (4, .int (2 * nI (wh f))), (0, .ref (ma 0)), (1, .int (nI f)), (2, .int (nI i)), (3, .int (nI b))] := hl
          refine lv_goto (tgt := 16) S.1 S.2.1 d_R_existsAt_65 (by decide) ?_
          exact ih16 (v + 1) 0 ls (by omega) (bI_f (anyb_s (bI_0.mp (by rw [← hx]; exact hbr1)) (bI_0.mp hbr2))) (lv_sub hl [0, 1, 2, 3, 4, 5, 6] rfl)
        · refine lv_iconst (v := 1) S.1 S.2.1 d_R_existsAt_55 (by decide) ?_
          refine lv_goto (tgt := 60) S.1 S.2.1 d_R_existsAt_56 (by decide) ?_
          refine lv_istore S.1 S.2.1 d_R_existsAt_60 hl (by decide) rfl (fun ls hl => ?_)
          have hl : lv_has ls 7 [(5, .int 1), (6, .int (nI v)), (4, .int (2 * nI (wh f))), (0, .ref (ma 0)), (1, .int (nI f)), (2, .int (nI i)), (3, .int (nI b))] := hl
          refine lv_iinc (v := nI (v + 1)) S.1 S.2.1 d_R_existsAt_62 hl (k := 1) rfl (nI_1 v) (by decide) rfl (fun ls hl => ?_)
          have hl : lv_has ls 7 [(6, .int (nI (v + 1))), (5, .int 1), (4, .int (2 * nI (wh f))), (0, .ref (ma 0)), (1, .int (nI f)), (2, .int (nI i)), (3, .int (nI b))] := hl
          refine lv_goto (tgt := 16) S.1 S.2.1 d_R_existsAt_65 (by decide) ?_
          exact ih16 (v + 1) 1 ls (by omega) (bI_t (anyb_s (bI_0.mp (by rw [← hx]; exact hbr1)) (bI_n hbr2))) (lv_sub hl [0, 1, 2, 3, 4, 5, 6] rfl)
  exact key16 4 0 0 ls rfl rfl (lv_sub hl [0, 1, 2, 3, 4, 5, 6] rfl)
set_option maxHeartbeats 4000000 in
set_option maxRecDepth 100000 in
theorem c_R_satisfies (l : Launch) {K : KT} {ma : Nat → Nat} {n pl : Nat} {wt : Int32} {J : Nat → Nat → Int32} {X : Nat → Int64} {kd wh fi se : Nat → Nat} {lo hi : Nat → Int32} {f i b : Nat} (hT : mT kd wh fi se lo hi J n) (hV : tabOk kd wh fi se lo hi n) (hn : n ≤ 12) (hf : f < n) (hb : b < 64) (hi2 : i < pl) (hpl : pl ≤ 24) : Met l y_R_satisfies (Cond.code y_R_satisfies b_R_satisfies 6 (some Jvm.ClassFile.FieldType.boolean) :: WALL) { frames := 2, cells := 0, slots := 0, locals := 49 } (pc0 K [.ref (ma 0), .int (nI f), .int (nI i), .int (nI b)] (fun H => mW K ma n wt pl J X H)) (vp_Si (fun r => r = bI (sat kd wh fi se lo hi (J 7) (J 8) X pl f i b))) 0 0 (fun _ => False) := by
  refine met0 (own := "MetricLogMonitorModel") (by decide) rfl (Nat.le_of_ble_eq_true rfl) (fun p e s m below meth c ls S hr hk hnm hC hH hl => ?_)
  have hl : lv_has ls 6 [(0, .ref (ma 0)), (1, .int (nI f)), (2, .int (nI i)), (3, .int (nI b))] := hl
  have hw := hH
  obtain ⟨v9, vw, vt, vp, vs9, vh9⟩ := hV f hf
  refine lv_aload_n S.1 S.2.1 d_R_satisfies_0 rfl (lv_at hl 0 rfl) ?_
  refine o_get (v := .ref (ma 3)) S hC kf_R hw.1 rfl 5 (by decide) q_696 rfl d_R_satisfies_1 ?_
  refine lv_iload_n S.1 S.2.1 d_R_satisfies_4 rfl (lv_at hl 1 rfl) ?_
  refine o_iald (j := f) S hC (mi_3 hw) (by decide) (by omega) d_R_satisfies_5 ?_
  refine tpi (y := nI (fi f)) (hT f (by omega)).2.2.1 ?_
  refine lv_istore S.1 S.2.1 d_R_satisfies_6 hl (by decide) rfl (fun ls hl => ?_)
  have hl : lv_has ls 6 [(4, .int (nI (fi f))), (0, .ref (ma 0)), (1, .int (nI f)), (2, .int (nI i)), (3, .int (nI b))] := hl
  refine lv_aload_n S.1 S.2.1 d_R_satisfies_8 rfl (lv_at hl 1 rfl) ?_
  refine o_get (v := .ref (ma 4)) S hC kf_R hw.1 rfl 6 (by decide) q_697 rfl d_R_satisfies_9 ?_
  refine lv_iload_n S.1 S.2.1 d_R_satisfies_12 rfl (lv_at hl 2 rfl) ?_
  refine o_iald (j := f) S hC (mi_4 hw) (by decide) (by omega) d_R_satisfies_13 ?_
  refine tpi (y := nI (se f)) (hT f (by omega)).2.2.2.1 ?_
  refine lv_istore S.1 S.2.1 d_R_satisfies_14 hl (by decide) rfl (fun ls hl => ?_)
  have hl : lv_has ls 6 [(5, .int (nI (se f))), (4, .int (nI (fi f))), (0, .ref (ma 0)), (1, .int (nI f)), (2, .int (nI i)), (3, .int (nI b))] := hl
  refine lv_aload_n S.1 S.2.1 d_R_satisfies_16 rfl (lv_at hl 2 rfl) ?_
  refine o_get (v := .ref (ma 1)) S hC kf_R hw.1 rfl 3 (by decide) q_694 rfl d_R_satisfies_17 ?_
  refine lv_iload_n S.1 S.2.1 d_R_satisfies_20 rfl (lv_at hl 3 rfl) ?_
  refine o_iald (j := f) S hC (mi_1 hw) (by decide) (by omega) d_R_satisfies_21 ?_
  refine tpi (y := nI (kd f)) (hT f (by omega)).1 ?_
  rcases (show kd f = 0 ∨ kd f = 1 ∨ kd f = 2 ∨ kd f = 3 ∨ kd f = 4 ∨ kd f = 5 ∨ kd f = 6 ∨ kd f = 7 ∨ kd f = 8 ∨ kd f = 9 by omega) with hkd | hkd | hkd | hkd | hkd | hkd | hkd | hkd | hkd | hkd
  · refine tpi (y := 0) (by rw [hkd]; rfl) ?_
    refine lv_tableIn (x := 0) (off := 50) (tgt := 72) S.1 S.2.1 d_R_satisfies_22 (by decide) (by decide) (by decide) (by decide) ?_
    have ht1 : tmr (fi f) := (vt (by omega)).1
    have ht2 : tmr (se f) := (vt (by omega)).2
    refine lv_aload_n S.1 S.2.1 d_R_satisfies_72 rfl (lv_at hl 2 rfl) ?_
    refine o_get (v := .ref (ma 8)) S hC kf_R hw.1 rfl 10 (by decide) q_703 rfl d_R_satisfies_73 ?_
    refine lv_bipush (v := 24) S.1 S.2.1 d_R_satisfies_76 (by decide) ?_
    refine lv_aload_n S.1 S.2.1 d_R_satisfies_78 rfl (lv_at hl 2 rfl) ?_
    refine o_get (v := .ref (ma 2)) S hC kf_R hw.1 rfl 4 (by decide) q_695 rfl d_R_satisfies_79 ?_
    refine lv_iload_n S.1 S.2.1 d_R_satisfies_82 rfl (lv_at hl 3 rfl) ?_
    refine o_iald (j := f) S hC (mi_2 hw) (by decide) (by omega) d_R_satisfies_83 ?_
    refine tpi (y := nI (wh f)) (hT f (by omega)).2.1 ?_
    refine lv_imul S.1 S.2.1 d_R_satisfies_84 ?_
    refine lv_iload_n S.1 S.2.1 d_R_satisfies_85 rfl (lv_at hl 4 rfl) ?_
    refine lv_iadd S.1 S.2.1 d_R_satisfies_86 ?_
    refine tpi (y := nI (24 * (wh f) + i)) (ix24 ..) ?_
    refine o_iald (j := 24 * (wh f) + i) S hC (mi_8 hw) (by decide) (by omega) d_R_satisfies_87 ?_
    refine lv_iload S.1 S.2.1 d_R_satisfies_88 (lv_at hl 1 rfl) ?_
    refine lv_iload_n S.1 S.2.1 d_R_satisfies_90 rfl (lv_at hl 5 rfl) ?_
    refine kSi (rest := [.int (J 8 (24 * (wh f) + i))]) S (c_R_value l (nI (fi f)) (nI b)) kc_R_value ⟨q_848, q_849⟩ rfl rfl ⟨Nat.le_of_ble_eq_true rfl, Nat.le_of_ble_eq_true rfl⟩ hC (hSF s) (hAF K) trivial ⟨Nat.zero_le _, Nat.zero_le _⟩ hl.1 rfl rfl (Nat.le_of_ble_eq_true rfl) d_R_satisfies_91 (fun r er => ?_)
    refine tpi (y := nI (vl (fi f) b)) (er.trans (value_eq ht1 hb)) ?_
    refine lv_iconst (v := 4) S.1 S.2.1 d_R_satisfies_94 (by decide) ?_
    refine lv_iload S.1 S.2.1 d_R_satisfies_95 (lv_at hl 0 rfl) ?_
    refine lv_iload_n S.1 S.2.1 d_R_satisfies_97 rfl (lv_at hl 5 rfl) ?_
    refine kSi (rest := [.int 4, .int (nI (vl (fi f) b)), .int (J 8 (24 * (wh f) + i))]) S (c_R_value l (nI (se f)) (nI b)) kc_R_value ⟨q_848, q_849⟩ rfl rfl ⟨Nat.le_of_ble_eq_true rfl, Nat.le_of_ble_eq_true rfl⟩ hC (hSF s) (hAF K) trivial ⟨Nat.zero_le _, Nat.zero_le _⟩ hl.1 rfl rfl (Nat.le_of_ble_eq_true rfl) d_R_satisfies_98 (fun r er => ?_)
    refine tpi (y := nI (vl (se f) b)) (er.trans (value_eq ht2 hb)) ?_
    refine lv_imul S.1 S.2.1 d_R_satisfies_101 ?_
    refine lv_iadd S.1 S.2.1 d_R_satisfies_102 ?_
    refine tpi (y := nI (vl (fi f) b + 4 * vl (se f) b)) (by rw [show (4 : Int32) = nI 4 from rfl, pk_mul, nI_add]) ?_
    refine lv_ishr S.1 S.2.1 d_R_satisfies_103 ?_
    refine lv_iconst (v := 1) S.1 S.2.1 d_R_satisfies_104 (by decide) ?_
    refine lv_iand S.1 S.2.1 d_R_satisfies_105 ?_
    refine lv_iconst (v := 1) S.1 S.2.1 d_R_satisfies_106 (by decide) ?_
    refine lv_icmp_ne (tgt := 114) S.1 S.2.1 d_R_satisfies_107 (by decide) (fun hbr1 => ?_) (fun hbr1 => ?_)
    · refine lv_iconst (v := 0) S.1 S.2.1 d_R_satisfies_114 (by decide) ?_
      exact r_z S hr hk rfl d_R_satisfies_115 (by rw [sat_0 hkd]; exact (bI_f (bnot (fun z => hbr1 ((b_tst_one _ (show vl (fi f) b + 4 * vl (se f) b < 32 by have := vl_lt (n := b) ht1; have := vl_lt (n := b) ht2; omega)).mpr z)))))
    · refine lv_iconst (v := 1) S.1 S.2.1 d_R_satisfies_110 (by decide) ?_
      refine lv_goto (tgt := 115) S.1 S.2.1 d_R_satisfies_111 (by decide) ?_
      exact r_z S hr hk rfl d_R_satisfies_115 (by rw [sat_0 hkd]; exact (bI_t ((b_tst_one _ (show vl (fi f) b + 4 * vl (se f) b < 32 by have := vl_lt (n := b) ht1; have := vl_lt (n := b) ht2; omega)).mp hbr1)))
  · refine tpi (y := 1) (by rw [hkd]; rfl) ?_
    refine lv_tableIn (x := 1) (off := 94) (tgt := 116) S.1 S.2.1 d_R_satisfies_22 (by decide) (by decide) (by decide) (by decide) ?_
    have ht1 : tmr (fi f) := (vt (by omega)).1
    have ht2 : tmr (se f) := (vt (by omega)).2
    refine lv_iload S.1 S.2.1 d_R_satisfies_116 (lv_at hl 1 rfl) ?_
    refine lv_iload_n S.1 S.2.1 d_R_satisfies_118 rfl (lv_at hl 5 rfl) ?_
    refine kSi (rest := []) S (c_R_value l (nI (fi f)) (nI b)) kc_R_value ⟨q_848, q_849⟩ rfl rfl ⟨Nat.le_of_ble_eq_true rfl, Nat.le_of_ble_eq_true rfl⟩ hC (hSF s) (hAF K) trivial ⟨Nat.zero_le _, Nat.zero_le _⟩ hl.1 rfl rfl (Nat.le_of_ble_eq_true rfl) d_R_satisfies_119 (fun r er => ?_)
    refine tpi (y := nI (vl (fi f) b)) (er.trans (value_eq ht1 hb)) ?_
    refine lv_iload S.1 S.2.1 d_R_satisfies_122 (lv_at hl 0 rfl) ?_
    refine lv_iload_n S.1 S.2.1 d_R_satisfies_124 rfl (lv_at hl 5 rfl) ?_
    refine kSi (rest := [.int (nI (vl (fi f) b))]) S (c_R_value l (nI (se f)) (nI b)) kc_R_value ⟨q_848, q_849⟩ rfl rfl ⟨Nat.le_of_ble_eq_true rfl, Nat.le_of_ble_eq_true rfl⟩ hC (hSF s) (hAF K) trivial ⟨Nat.zero_le _, Nat.zero_le _⟩ hl.1 rfl rfl (Nat.le_of_ble_eq_true rfl) d_R_satisfies_125 (fun r er => ?_)
    refine tpi (y := nI (vl (se f) b)) (er.trans (value_eq ht2 hb)) ?_
    refine lv_icmp_ne (tgt := 135) S.1 S.2.1 d_R_satisfies_128 (by decide) (fun hbr2 => ?_) (fun hbr2 => ?_)
    · refine lv_iconst (v := 0) S.1 S.2.1 d_R_satisfies_135 (by decide) ?_
      exact r_z S hr hk rfl d_R_satisfies_136 (by rw [sat_1 hkd]; exact (bI_f (decide_eq_false (fun z => hbr2 ((nI_eq (by have := vl_lt (n := b) ht1; omega) (by have := vl_lt (n := b) ht2; omega)).mpr z)))))
    · refine lv_iconst (v := 1) S.1 S.2.1 d_R_satisfies_131 (by decide) ?_
      refine lv_goto (tgt := 136) S.1 S.2.1 d_R_satisfies_132 (by decide) ?_
      exact r_z S hr hk rfl d_R_satisfies_136 (by rw [sat_1 hkd]; exact (bI_t (decide_eq_true ((nI_eq (by have := vl_lt (n := b) ht1; omega) (by have := vl_lt (n := b) ht2; omega)).mp hbr2))))
  · refine tpi (y := 2) (by rw [hkd]; rfl) ?_
    refine lv_tableIn (x := 2) (off := 115) (tgt := 137) S.1 S.2.1 d_R_satisfies_22 (by decide) (by decide) (by decide) (by decide) ?_
    have ht1 : tmr (fi f) := (vt (by omega)).1
    have ht2 : tmr (se f) := (vt (by omega)).2
    refine lv_iload S.1 S.2.1 d_R_satisfies_137 (lv_at hl 1 rfl) ?_
    refine lv_iload_n S.1 S.2.1 d_R_satisfies_139 rfl (lv_at hl 5 rfl) ?_
    refine kSi (rest := []) S (c_R_value l (nI (fi f)) (nI b)) kc_R_value ⟨q_848, q_849⟩ rfl rfl ⟨Nat.le_of_ble_eq_true rfl, Nat.le_of_ble_eq_true rfl⟩ hC (hSF s) (hAF K) trivial ⟨Nat.zero_le _, Nat.zero_le _⟩ hl.1 rfl rfl (Nat.le_of_ble_eq_true rfl) d_R_satisfies_140 (fun r er => ?_)
    refine tpi (y := nI (vl (fi f) b)) (er.trans (value_eq ht1 hb)) ?_
    refine lv_iload S.1 S.2.1 d_R_satisfies_143 (lv_at hl 0 rfl) ?_
    refine lv_iload_n S.1 S.2.1 d_R_satisfies_145 rfl (lv_at hl 5 rfl) ?_
    refine kSi (rest := [.int (nI (vl (fi f) b))]) S (c_R_value l (nI (se f)) (nI b)) kc_R_value ⟨q_848, q_849⟩ rfl rfl ⟨Nat.le_of_ble_eq_true rfl, Nat.le_of_ble_eq_true rfl⟩ hC (hSF s) (hAF K) trivial ⟨Nat.zero_le _, Nat.zero_le _⟩ hl.1 rfl rfl (Nat.le_of_ble_eq_true rfl) d_R_satisfies_146 (fun r er => ?_)
    refine tpi (y := nI (vl (se f) b)) (er.trans (value_eq ht2 hb)) ?_
    refine lv_icmp_ge (tgt := 156) S.1 S.2.1 d_R_satisfies_149 (by decide) (fun hbr3 => ?_) (fun hbr3 => ?_)
    · refine lv_iconst (v := 0) S.1 S.2.1 d_R_satisfies_156 (by decide) ?_
      exact r_z S hr hk rfl d_R_satisfies_157 (by rw [sat_2 hkd]; exact (bI_f (decide_eq_false (by have := (nI_leI (by have := vl_lt (n := b) ht2; omega) (by have := vl_lt (n := b) ht1; omega)).mp hbr3; omega))))
    · refine lv_iconst (v := 1) S.1 S.2.1 d_R_satisfies_152 (by decide) ?_
      refine lv_goto (tgt := 157) S.1 S.2.1 d_R_satisfies_153 (by decide) ?_
      exact r_z S hr hk rfl d_R_satisfies_157 (by rw [sat_2 hkd]; exact (bI_t (decide_eq_true (by have := (not_congr (nI_leI (by have := vl_lt (n := b) ht2; omega) (by have := vl_lt (n := b) ht1; omega))).mp hbr3; omega))))
  · refine tpi (y := 3) (by rw [hkd]; rfl) ?_
    refine lv_tableIn (x := 3) (off := 136) (tgt := 158) S.1 S.2.1 d_R_satisfies_22 (by decide) (by decide) (by decide) (by decide) ?_
    have hfv := vp (by omega)
    refine lv_aload_n S.1 S.2.1 d_R_satisfies_158 rfl (lv_at hl 2 rfl) ?_
    refine lv_iload S.1 S.2.1 d_R_satisfies_159 (lv_at hl 1 rfl) ?_
    refine lv_iload_n S.1 S.2.1 d_R_satisfies_161 rfl (lv_at hl 4 rfl) ?_
    refine lv_iload_n S.1 S.2.1 d_R_satisfies_162 rfl (lv_at hl 5 rfl) ?_
    refine kVi (rest := []) S (c_R_at l (f := fi f) (i := i) (b := b) (by omega) hb) kc_R_at ⟨q_851, q_853, qp_15⟩ rfl rfl ⟨Nat.le_of_ble_eq_true rfl, Nat.le_of_ble_eq_true rfl⟩ hC (hSF s) (hAF K) hw ⟨11, _, _, _, rfl, hw.1⟩ ⟨Nat.zero_le _, Nat.zero_le _⟩ hl.1 rfl rfl (Nat.le_of_ble_eq_true rfl) d_R_satisfies_163 (fun r er => ?_)
    subst er
    refine lv_if_ne (tgt := 173) S.1 S.2.1 d_R_satisfies_166 (by decide) (fun hbr4 => ?_) (fun hbr4 => ?_)
    · refine lv_iconst (v := 0) S.1 S.2.1 d_R_satisfies_173 (by decide) ?_
      exact r_z S hr hk rfl d_R_satisfies_174 (by rw [sat_3 hkd, bI_n hbr4]; rfl)
    · refine lv_iconst (v := 1) S.1 S.2.1 d_R_satisfies_169 (by decide) ?_
      refine lv_goto (tgt := 174) S.1 S.2.1 d_R_satisfies_170 (by decide) ?_
      exact r_z S hr hk rfl d_R_satisfies_174 (by rw [sat_3 hkd, bI_0.mp hbr4]; rfl)
  · refine tpi (y := 4) (by rw [hkd]; rfl) ?_
    refine lv_tableIn (x := 4) (off := 153) (tgt := 175) S.1 S.2.1 d_R_satisfies_22 (by decide) (by decide) (by decide) (by decide) ?_
    have hfv := vp (by omega)
    refine lv_aload_n S.1 S.2.1 d_R_satisfies_175 rfl (lv_at hl 2 rfl) ?_
    refine lv_iload S.1 S.2.1 d_R_satisfies_176 (lv_at hl 1 rfl) ?_
    refine lv_iload_n S.1 S.2.1 d_R_satisfies_178 rfl (lv_at hl 4 rfl) ?_
    refine lv_iload_n S.1 S.2.1 d_R_satisfies_179 rfl (lv_at hl 5 rfl) ?_
    refine kVi (rest := []) S (c_R_at l (f := fi f) (i := i) (b := b) (by omega) hb) kc_R_at ⟨q_851, q_853, qp_15⟩ rfl rfl ⟨Nat.le_of_ble_eq_true rfl, Nat.le_of_ble_eq_true rfl⟩ hC (hSF s) (hAF K) hw ⟨11, _, _, _, rfl, hw.1⟩ ⟨Nat.zero_le _, Nat.zero_le _⟩ hl.1 rfl rfl (Nat.le_of_ble_eq_true rfl) d_R_satisfies_180 (fun r er => ?_)
    subst er
    refine lv_if_eq (tgt := 201) S.1 S.2.1 d_R_satisfies_183 (by decide) (fun hbr5 => ?_) (fun hbr5 => ?_)
    · refine lv_iconst (v := 0) S.1 S.2.1 d_R_satisfies_201 (by decide) ?_
      exact r_z S hr hk rfl d_R_satisfies_202 (by rw [sat_4 hkd, bI_0.mp hbr5]; rfl)
    · refine lv_aload_n S.1 S.2.1 d_R_satisfies_186 rfl (lv_at hl 2 rfl) ?_
      refine lv_iload S.1 S.2.1 d_R_satisfies_187 (lv_at hl 0 rfl) ?_
      refine lv_iload_n S.1 S.2.1 d_R_satisfies_189 rfl (lv_at hl 4 rfl) ?_
      refine lv_iload_n S.1 S.2.1 d_R_satisfies_190 rfl (lv_at hl 5 rfl) ?_
      refine kVi (rest := []) S (c_R_at l (f := se f) (i := i) (b := b) (by omega) hb) kc_R_at ⟨q_851, q_853, qp_15⟩ rfl rfl ⟨Nat.le_of_ble_eq_true rfl, Nat.le_of_ble_eq_true rfl⟩ hC (hSF s) (hAF K) hw ⟨11, _, _, _, rfl, hw.1⟩ ⟨Nat.zero_le _, Nat.zero_le _⟩ hl.1 rfl rfl (Nat.le_of_ble_eq_true rfl) d_R_satisfies_191 (fun r er => ?_)
      subst er
      refine lv_if_eq (tgt := 201) S.1 S.2.1 d_R_satisfies_194 (by decide) (fun hbr6 => ?_) (fun hbr6 => ?_)
      · refine lv_iconst (v := 0) S.1 S.2.1 d_R_satisfies_201 (by decide) ?_
        exact r_z S hr hk rfl d_R_satisfies_202 (by rw [sat_4 hkd, bI_n hbr5, bI_0.mp hbr6]; rfl)
      · refine lv_iconst (v := 1) S.1 S.2.1 d_R_satisfies_197 (by decide) ?_
        refine lv_goto (tgt := 202) S.1 S.2.1 d_R_satisfies_198 (by decide) ?_
        exact r_z S hr hk rfl d_R_satisfies_202 (by rw [sat_4 hkd, bI_n hbr5, bI_n hbr6]; rfl)
  · refine tpi (y := 5) (by rw [hkd]; rfl) ?_
    refine lv_tableIn (x := 5) (off := 181) (tgt := 203) S.1 S.2.1 d_R_satisfies_22 (by decide) (by decide) (by decide) (by decide) ?_
    have hfv := vp (by omega)
    refine lv_aload_n S.1 S.2.1 d_R_satisfies_203 rfl (lv_at hl 2 rfl) ?_
    refine lv_iload S.1 S.2.1 d_R_satisfies_204 (lv_at hl 1 rfl) ?_
    refine lv_iload_n S.1 S.2.1 d_R_satisfies_206 rfl (lv_at hl 4 rfl) ?_
    refine lv_iload_n S.1 S.2.1 d_R_satisfies_207 rfl (lv_at hl 5 rfl) ?_
    refine kVi (rest := []) S (c_R_at l (f := fi f) (i := i) (b := b) (by omega) hb) kc_R_at ⟨q_851, q_853, qp_15⟩ rfl rfl ⟨Nat.le_of_ble_eq_true rfl, Nat.le_of_ble_eq_true rfl⟩ hC (hSF s) (hAF K) hw ⟨11, _, _, _, rfl, hw.1⟩ ⟨Nat.zero_le _, Nat.zero_le _⟩ hl.1 rfl rfl (Nat.le_of_ble_eq_true rfl) d_R_satisfies_208 (fun r er => ?_)
    subst er
    refine lv_if_ne (tgt := 225) S.1 S.2.1 d_R_satisfies_211 (by decide) (fun hbr7 => ?_) (fun hbr7 => ?_)
    · refine lv_iconst (v := 1) S.1 S.2.1 d_R_satisfies_225 (by decide) ?_
      refine lv_goto (tgt := 230) S.1 S.2.1 d_R_satisfies_226 (by decide) ?_
      exact r_z S hr hk rfl d_R_satisfies_230 (by rw [sat_5 hkd, bI_n hbr7]; rfl)
    · refine lv_aload_n S.1 S.2.1 d_R_satisfies_214 rfl (lv_at hl 2 rfl) ?_
      refine lv_iload S.1 S.2.1 d_R_satisfies_215 (lv_at hl 0 rfl) ?_
      refine lv_iload_n S.1 S.2.1 d_R_satisfies_217 rfl (lv_at hl 4 rfl) ?_
      refine lv_iload_n S.1 S.2.1 d_R_satisfies_218 rfl (lv_at hl 5 rfl) ?_
      refine kVi (rest := []) S (c_R_at l (f := se f) (i := i) (b := b) (by omega) hb) kc_R_at ⟨q_851, q_853, qp_15⟩ rfl rfl ⟨Nat.le_of_ble_eq_true rfl, Nat.le_of_ble_eq_true rfl⟩ hC (hSF s) (hAF K) hw ⟨11, _, _, _, rfl, hw.1⟩ ⟨Nat.zero_le _, Nat.zero_le _⟩ hl.1 rfl rfl (Nat.le_of_ble_eq_true rfl) d_R_satisfies_219 (fun r er => ?_)
      subst er
      refine lv_if_eq (tgt := 229) S.1 S.2.1 d_R_satisfies_222 (by decide) (fun hbr8 => ?_) (fun hbr8 => ?_)
      · refine lv_iconst (v := 0) S.1 S.2.1 d_R_satisfies_229 (by decide) ?_
        exact r_z S hr hk rfl d_R_satisfies_230 (by rw [sat_5 hkd, bI_0.mp hbr7, bI_0.mp hbr8]; rfl)
      · refine lv_iconst (v := 1) S.1 S.2.1 d_R_satisfies_225 (by decide) ?_
        refine lv_goto (tgt := 230) S.1 S.2.1 d_R_satisfies_226 (by decide) ?_
        exact r_z S hr hk rfl d_R_satisfies_230 (by rw [sat_5 hkd, bI_0.mp hbr7, bI_n hbr8]; rfl)
  · refine tpi (y := 6) (by rw [hkd]; rfl) ?_
    refine lv_tableIn (x := 6) (off := 209) (tgt := 231) S.1 S.2.1 d_R_satisfies_22 (by decide) (by decide) (by decide) (by decide) ?_
    have hfv := vp (by omega)
    refine lv_aload_n S.1 S.2.1 d_R_satisfies_231 rfl (lv_at hl 2 rfl) ?_
    refine lv_iload_n S.1 S.2.1 d_R_satisfies_232 rfl (lv_at hl 3 rfl) ?_
    refine lv_iload_n S.1 S.2.1 d_R_satisfies_233 rfl (lv_at hl 4 rfl) ?_
    refine lv_iload_n S.1 S.2.1 d_R_satisfies_234 rfl (lv_at hl 5 rfl) ?_
    refine kVi (rest := []) S (c_R_existsAt l (f := f) (i := i) (b := b) hT hV hn hf hb (by omega) (by omega)) kc_R_existsAt ⟨q_855, q_857, qp_16⟩ rfl rfl ⟨Nat.le_of_ble_eq_true rfl, Nat.le_of_ble_eq_true rfl⟩ hC (hSF s) (hAF K) hw ⟨11, _, _, _, rfl, hw.1⟩ ⟨Nat.zero_le _, Nat.zero_le _⟩ hl.1 rfl rfl (Nat.le_of_ble_eq_true rfl) d_R_satisfies_235 (fun r er => ?_)
    subst er
    exact r_z S hr hk (nz (bI_z _)) d_R_satisfies_238 (by rw [sat_6 hkd])
  · refine tpi (y := 7) (by rw [hkd]; rfl) ?_
    refine lv_tableIn (x := 7) (off := 217) (tgt := 239) S.1 S.2.1 d_R_satisfies_22 (by decide) (by decide) (by decide) (by decide) ?_
    have hfv := vp (by omega)
    refine lv_iload_n S.1 S.2.1 d_R_satisfies_239 rfl (lv_at hl 4 rfl) ?_
    refine lv_if_le (tgt := 283) S.1 S.2.1 d_R_satisfies_240 (by decide) (fun hbr9 => ?_) (fun hbr9 => ?_)
    · refine lv_iconst (v := 0) S.1 S.2.1 d_R_satisfies_283 (by decide) ?_
      exact r_z S hr hk rfl d_R_satisfies_284 (by rw [sat_7 hkd, decide_eq_false (show ¬ 0 < i from fun z => absurd hbr9 (nI_nle z (by omega)))]; rfl)
    · refine lv_aload_n S.1 S.2.1 d_R_satisfies_243 rfl (lv_at hl 2 rfl) ?_
      refine lv_iload_n S.1 S.2.1 d_R_satisfies_244 rfl (lv_at hl 3 rfl) ?_
      refine lv_aload_n S.1 S.2.1 d_R_satisfies_245 rfl (lv_at hl 2 rfl) ?_
      refine o_get (v := .ref (ma 7)) S hC kf_R hw.1 rfl 9 (by decide) q_702 rfl d_R_satisfies_246 ?_
      refine lv_iload_n S.1 S.2.1 d_R_satisfies_249 rfl (lv_at hl 4 rfl) ?_
      refine o_iald (j := i) S hC (mi_7 hw) (by decide) (by omega) d_R_satisfies_250 ?_
      refine lv_aload_n S.1 S.2.1 d_R_satisfies_251 rfl (lv_at hl 2 rfl) ?_
      refine o_get (v := .ref (ma 7)) S hC kf_R hw.1 rfl 9 (by decide) q_702 rfl d_R_satisfies_252 ?_
      refine lv_iload_n S.1 S.2.1 d_R_satisfies_255 rfl (lv_at hl 4 rfl) ?_
      refine lv_iconst (v := 1) S.1 S.2.1 d_R_satisfies_256 (by decide) ?_
      refine lv_isub S.1 S.2.1 d_R_satisfies_257 ?_
      have hi0 := nI_gt0 hbr9
      refine tpi (y := nI (i - 1)) (nI_m1 (nI_gt0 hbr9)) ?_
      refine o_iald (j := i - 1) S hC (mi_7 hw) (by decide) (by omega) d_R_satisfies_258 ?_
      refine lv_isub S.1 S.2.1 d_R_satisfies_259 ?_
      refine kVi (rest := []) S (c_R_lies l hT hn hf (J 7 i - J 7 (i - 1))) kc_R_lies ⟨q_859, q_861, qp_17⟩ rfl rfl ⟨Nat.le_of_ble_eq_true rfl, Nat.le_of_ble_eq_true rfl⟩ hC (hSF s) (hAF K) hw ⟨11, _, _, _, rfl, hw.1⟩ ⟨Nat.zero_le _, Nat.zero_le _⟩ hl.1 rfl rfl (Nat.le_of_ble_eq_true rfl) d_R_satisfies_260 (fun r er => ?_)
      subst er
      refine lv_if_eq (tgt := 283) S.1 S.2.1 d_R_satisfies_263 (by decide) (fun hbr10 => ?_) (fun hbr10 => ?_)
      · refine lv_iconst (v := 0) S.1 S.2.1 d_R_satisfies_283 (by decide) ?_
        exact r_z S hr hk rfl d_R_satisfies_284 (by rw [sat_7 hkd, decide_eq_true (show 0 < i from nI_gt0 hbr9), bI_0.mp hbr10]; rfl)
      · refine lv_aload_n S.1 S.2.1 d_R_satisfies_266 rfl (lv_at hl 2 rfl) ?_
        refine lv_iload S.1 S.2.1 d_R_satisfies_267 (lv_at hl 1 rfl) ?_
        refine lv_iload_n S.1 S.2.1 d_R_satisfies_269 rfl (lv_at hl 4 rfl) ?_
        refine lv_iconst (v := 1) S.1 S.2.1 d_R_satisfies_270 (by decide) ?_
        refine lv_isub S.1 S.2.1 d_R_satisfies_271 ?_
        refine tpi (y := nI (i - 1)) (nI_m1 (nI_gt0 hbr9)) ?_
        refine lv_iload_n S.1 S.2.1 d_R_satisfies_272 rfl (lv_at hl 5 rfl) ?_
        refine kVi (rest := []) S (c_R_at l (f := fi f) (i := i - 1) (b := b) (by omega) hb) kc_R_at ⟨q_851, q_853, qp_15⟩ rfl rfl ⟨Nat.le_of_ble_eq_true rfl, Nat.le_of_ble_eq_true rfl⟩ hC (hSF s) (hAF K) hw ⟨11, _, _, _, rfl, hw.1⟩ ⟨Nat.zero_le _, Nat.zero_le _⟩ hl.1 rfl rfl (Nat.le_of_ble_eq_true rfl) d_R_satisfies_273 (fun r er => ?_)
        subst er
        refine lv_if_eq (tgt := 283) S.1 S.2.1 d_R_satisfies_276 (by decide) (fun hbr11 => ?_) (fun hbr11 => ?_)
        · refine lv_iconst (v := 0) S.1 S.2.1 d_R_satisfies_283 (by decide) ?_
          exact r_z S hr hk rfl d_R_satisfies_284 (by rw [sat_7 hkd, decide_eq_true (show 0 < i from nI_gt0 hbr9), bI_n hbr10, bI_0.mp hbr11]; rfl)
        · refine lv_iconst (v := 1) S.1 S.2.1 d_R_satisfies_279 (by decide) ?_
          refine lv_goto (tgt := 284) S.1 S.2.1 d_R_satisfies_280 (by decide) ?_
          exact r_z S hr hk rfl d_R_satisfies_284 (by rw [sat_7 hkd, decide_eq_true (show 0 < i from nI_gt0 hbr9), bI_n hbr10, bI_n hbr11]; rfl)
  · refine tpi (y := 8) (by rw [hkd]; rfl) ?_
    refine lv_tableIn (x := 8) (off := 263) (tgt := 285) S.1 S.2.1 d_R_satisfies_22 (by decide) (by decide) (by decide) (by decide) ?_
    have hfv := vp (by omega)
    refine lv_aload_n S.1 S.2.1 d_R_satisfies_285 rfl (lv_at hl 2 rfl) ?_
    refine lv_iload_n S.1 S.2.1 d_R_satisfies_286 rfl (lv_at hl 3 rfl) ?_
    refine lv_iload_n S.1 S.2.1 d_R_satisfies_287 rfl (lv_at hl 4 rfl) ?_
    refine lv_iload_n S.1 S.2.1 d_R_satisfies_288 rfl (lv_at hl 5 rfl) ?_
    refine kVi (rest := []) S (c_R_sinceAt l (f := f) (i := i) (b := b) hT hV hn hf hb (by omega) (by omega)) kc_R_sinceAt ⟨q_863, q_865, qp_18⟩ rfl rfl ⟨Nat.le_of_ble_eq_true rfl, Nat.le_of_ble_eq_true rfl⟩ hC (hSF s) (hAF K) hw ⟨11, _, _, _, rfl, hw.1⟩ ⟨Nat.zero_le _, Nat.zero_le _⟩ hl.1 rfl rfl (Nat.le_of_ble_eq_true rfl) d_R_satisfies_289 (fun r er => ?_)
    subst er
    exact r_z S hr hk (nz (bI_z _)) d_R_satisfies_292 (by rw [sat_8 hkd])
  · refine tpi (y := 9) (by rw [hkd]; rfl) ?_
    refine lv_tableOut (x := 9) (tgt := 293) S.1 S.2.1 d_R_satisfies_22 (by decide) (by decide) ?_
    have hfv := vp (by omega)
    refine lv_aload_n S.1 S.2.1 d_R_satisfies_293 rfl (lv_at hl 2 rfl) ?_
    refine lv_iload_n S.1 S.2.1 d_R_satisfies_294 rfl (lv_at hl 3 rfl) ?_
    refine lv_iload_n S.1 S.2.1 d_R_satisfies_295 rfl (lv_at hl 4 rfl) ?_
    refine lv_iload_n S.1 S.2.1 d_R_satisfies_296 rfl (lv_at hl 5 rfl) ?_
    refine kVi (rest := []) S (c_R_untilAt l (f := f) (i := i) (b := b) hT hV hn hf hb hi2 hpl (by omega)) kc_R_untilAt ⟨q_867, q_869, qp_19⟩ rfl rfl ⟨Nat.le_of_ble_eq_true rfl, Nat.le_of_ble_eq_true rfl⟩ hC (hSF s) (hAF K) hw ⟨11, _, _, _, rfl, hw.1⟩ ⟨Nat.zero_le _, Nat.zero_le _⟩ hl.1 rfl rfl (Nat.le_of_ble_eq_true rfl) d_R_satisfies_297 (fun r er => ?_)
    subst er
    exact r_z S hr hk (nz (bI_z _)) d_R_satisfies_300 (by rw [sat_9 hkd])
set_option maxHeartbeats 4000000 in
set_option maxRecDepth 100000 in
theorem c_R_decided (l : Launch) {K : KT} {ma : Nat → Nat} {n pl : Nat} {wt : Int32} {J : Nat → Nat → Int32} {X : Nat → Int64} {kd wh fi se : Nat → Nat} {lo hi : Nat → Int32} {f m2 : Nat} (hT : mT kd wh fi se lo hi J n) (hn : n ≤ 12) (hf : f < n) (hm2 : m2 ≤ 24) (hpl : pl ≤ 24) : Met l y_R_decided (Cond.code y_R_decided b_R_decided 7 (some Jvm.ClassFile.FieldType.int) :: WALL) { frames := 0, cells := 0, slots := 0, locals := 0 } (pc0 K [.ref (ma 0), .int (nI f), .int (nI m2)] (fun H => mW K ma n wt pl J X H)) (vp_Si (fun r => r = nI (dcd (hi f) (J 7) pl m2))) 0 0 (fun _ => False) := by
  refine met0 (own := "MetricLogMonitorModel") (by decide) rfl (Nat.le_of_ble_eq_true rfl) (fun p e s m below meth c ls S hr hk hnm hC hH hl => ?_)
  have hl : lv_has ls 7 [(0, .ref (ma 0)), (1, .int (nI f)), (2, .int (nI m2))] := hl
  have hw := hH
  refine lv_iconst (v := 0) S.1 S.2.1 d_R_decided_0 (by decide) ?_
  refine lv_istore_n S.1 S.2.1 d_R_decided_1 rfl hl (by decide) rfl (fun ls hl => ?_)
  have hl : lv_has ls 7 [(3, .int 0), (0, .ref (ma 0)), (1, .int (nI f)), (2, .int (nI m2))] := hl
  refine lv_iconst (v := 0) S.1 S.2.1 d_R_decided_2 (by decide) ?_
  refine lv_istore S.1 S.2.1 d_R_decided_3 hl (by decide) rfl (fun ls hl => ?_)
  have hl : lv_has ls 7 [(4, .int 0), (3, .int 0), (0, .ref (ma 0)), (1, .int (nI f)), (2, .int (nI m2))] := hl
  have key5 : ∀ (d5 : Nat) (i : Nat) (y : Int32) (ls : Array Slot), i + d5 = pl → (y = nI (ct (fun i => anyb (fun k => decide (J 7 i + hi f < J 7 k)) (min (m2 + 1) pl)) i)) → lv_has ls 7 [(4, .int (nI i)), (3, .int y), (0, .ref (ma 0)), (1, .int (nI f)), (2, .int (nI m2))] → W p l e ({ frames := 0, cells := 0, slots := 0, locals := 0 } : Room) s m ([.ref (ma 0), .int (nI f), .int (nI m2)] : List Value).toArray below meth c s.heap [] 0 0 (MQ below (vp_Si (fun r => r = nI (dcd (hi f) (J 7) pl m2))) ([.ref (ma 0), .int (nI f), .int (nI m2)] : List Value).toArray s 0 0 (fun _ => False)) (F0 m 5 ls []) := by
    intro d5
    induction d5 with
    | zero =>
      intro i y ls hd5 hy hl
      refine lv_iload S.1 S.2.1 d_R_decided_5 (lv_at hl 0 rfl) ?_
      refine lv_aload_n S.1 S.2.1 d_R_decided_7 rfl (lv_at hl 2 rfl) ?_
      refine o_get (v := .int (nI pl)) S hC kf_R hw.1 rfl 2 (by decide) q_701 rfl d_R_decided_8 ?_
      refine lv_icmp_ge (tgt := 96) S.1 S.2.1 d_R_decided_11 (by decide) (fun _ => ?_) (fun hx9 => absurd (nI_le (by omega) (by omega)) hx9)
      refine lv_iload_n S.1 S.2.1 d_R_decided_96 rfl (lv_at hl 1 rfl) ?_
      exact r_i S hr hk d_R_decided_97 (by rw [hy, show i = pl by omega]; rfl)
    | succ d5 ih5 =>
      intro i y ls hd5 hy hl
      refine lv_iload S.1 S.2.1 d_R_decided_5 (lv_at hl 0 rfl) ?_
      refine lv_aload_n S.1 S.2.1 d_R_decided_7 rfl (lv_at hl 2 rfl) ?_
      refine o_get (v := .int (nI pl)) S hC kf_R hw.1 rfl 2 (by decide) q_701 rfl d_R_decided_8 ?_
      refine lv_icmp_ge (tgt := 96) S.1 S.2.1 d_R_decided_11 (by decide) (fun hx9 => absurd hx9 (nI_ge (by omega) (by omega))) (fun _ => ?_)
      refine lv_iconst (v := 0) S.1 S.2.1 d_R_decided_14 (by decide) ?_
      refine lv_istore S.1 S.2.1 d_R_decided_15 hl (by decide) rfl (fun ls hl => ?_)
      have hl : lv_has ls 7 [(5, .int 0), (4, .int (nI i)), (3, .int y), (0, .ref (ma 0)), (1, .int (nI f)), (2, .int (nI m2))] := hl
      refine lv_iconst (v := 0) S.1 S.2.1 d_R_decided_17 (by decide) ?_
      refine lv_istore S.1 S.2.1 d_R_decided_18 hl (by decide) rfl (fun ls hl => ?_)
      have hl : lv_has ls 7 [(6, .int 0), (5, .int 0), (4, .int (nI i)), (3, .int y), (0, .ref (ma 0)), (1, .int (nI f)), (2, .int (nI m2))] := hl
      have key20 : ∀ (d20 : Nat) (k : Nat) (x : Int32) (ls : Array Slot), k + d20 = min (m2 + 1) pl → (x = bI (anyb (fun k => decide (J 7 i + hi f < J 7 k)) k)) → lv_has ls 7 [(6, .int (nI k)), (5, .int x), (4, .int (nI i)), (3, .int y), (0, .ref (ma 0)), (1, .int (nI f)), (2, .int (nI m2))] → W p l e ({ frames := 0, cells := 0, slots := 0, locals := 0 } : Room) s m ([.ref (ma 0), .int (nI f), .int (nI m2)] : List Value).toArray below meth c s.heap [] 0 0 (MQ below (vp_Si (fun r => r = nI (dcd (hi f) (J 7) pl m2))) ([.ref (ma 0), .int (nI f), .int (nI m2)] : List Value).toArray s 0 0 (fun _ => False)) (F0 m 20 ls []) := by
        intro d20
        induction d20 with
        | zero =>
          intro k x ls hd20 hx hl
          have hx2 : x = bI (anyb (fun k => decide (J 7 i + hi f < J 7 k)) (min (m2 + 1) pl)) := by rw [hx, show k = min (m2 + 1) pl by omega]
          refine lv_iload S.1 S.2.1 d_R_decided_20 (lv_at hl 0 rfl) ?_
          by_cases hkm : m2 < k
          · refine lv_iload_n S.1 S.2.1 d_R_decided_22 rfl (lv_at hl 6 rfl) ?_
            refine lv_icmp_gt (tgt := 77) S.1 S.2.1 d_R_decided_23 (by decide) (fun _ => ?_) (fun hx9 => absurd (nI_lt hkm (by omega)) hx9)
            refine lv_iload S.1 S.2.1 d_R_decided_77 (lv_at hl 1 rfl) ?_
            refine lv_if_eq (tgt := 88) S.1 S.2.1 d_R_decided_79 (by decide) (fun hbr1 => ?_) (fun hbr1 => ?_)
            · refine lv_iload_n S.1 S.2.1 d_R_decided_88 rfl (lv_at hl 3 rfl) ?_
              refine lv_istore_n S.1 S.2.1 d_R_decided_89 rfl hl (by decide) rfl (fun ls hl => ?_)
              have hl : lv_has ls 7 [(3, .int y), (6, .int (nI k)), (5, .int x), (4, .int (nI i)), (0, .ref (ma 0)), (1, .int (nI f)), (2, .int (nI m2))] := hl
              refine lv_iinc (v := nI (i + 1)) S.1 S.2.1 d_R_decided_90 hl (k := 3) rfl (nI_1 i) (by decide) rfl (fun ls hl => ?_)
              have hl : lv_has ls 7 [(4, .int (nI (i + 1))), (3, .int y), (6, .int (nI k)), (5, .int x), (0, .ref (ma 0)), (1, .int (nI f)), (2, .int (nI m2))] := hl
              refine lv_goto (tgt := 5) S.1 S.2.1 d_R_decided_93 (by decide) ?_
              exact ih5 (i + 1) y ls (by omega) (by rw [hy]; exact congrArg nI (ct_s0 (bI_0.mp (hx2.symm.trans hbr1)))) (lv_sub hl [0, 1, 4, 5, 6] rfl)
            · refine lv_iload_n S.1 S.2.1 d_R_decided_82 rfl (lv_at hl 3 rfl) ?_
              refine lv_iconst (v := 1) S.1 S.2.1 d_R_decided_83 (by decide) ?_
              refine lv_iadd S.1 S.2.1 d_R_decided_84 ?_
              refine lv_goto (tgt := 89) S.1 S.2.1 d_R_decided_85 (by decide) ?_
              refine lv_istore_n S.1 S.2.1 d_R_decided_89 rfl hl (by decide) rfl (fun ls hl => ?_)
              have hl : lv_has ls 7 [(3, .int (y + 1)), (6, .int (nI k)), (5, .int x), (4, .int (nI i)), (0, .ref (ma 0)), (1, .int (nI f)), (2, .int (nI m2))] := hl
              refine lv_iinc (v := nI (i + 1)) S.1 S.2.1 d_R_decided_90 hl (k := 3) rfl (nI_1 i) (by decide) rfl (fun ls hl => ?_)
              have hl : lv_has ls 7 [(4, .int (nI (i + 1))), (3, .int (y + 1)), (6, .int (nI k)), (5, .int x), (0, .ref (ma 0)), (1, .int (nI f)), (2, .int (nI m2))] := hl
              refine lv_goto (tgt := 5) S.1 S.2.1 d_R_decided_93 (by decide) ?_
              exact ih5 (i + 1) (y + 1) ls (by omega) (by rw [hy, nI_1]; exact congrArg nI (ct_s1 (bI_n (fun z => hbr1 (hx2.trans z))))) (lv_sub hl [0, 1, 4, 5, 6] rfl)
          · refine lv_iload_n S.1 S.2.1 d_R_decided_22 rfl (lv_at hl 6 rfl) ?_
            refine lv_icmp_gt (tgt := 77) S.1 S.2.1 d_R_decided_23 (by decide) (fun hx9 => absurd hx9 (nI_nlt (by omega) (by omega))) (fun _ => ?_)
            refine lv_iload S.1 S.2.1 d_R_decided_26 (lv_at hl 0 rfl) ?_
            refine lv_aload_n S.1 S.2.1 d_R_decided_28 rfl (lv_at hl 4 rfl) ?_
            refine o_get (v := .int (nI pl)) S hC kf_R hw.1 rfl 2 (by decide) q_701 rfl d_R_decided_29 ?_
            refine lv_icmp_ge (tgt := 77) S.1 S.2.1 d_R_decided_32 (by decide) (fun _ => ?_) (fun hx9 => absurd (nI_le (by omega) (by omega)) hx9)
            refine lv_iload S.1 S.2.1 d_R_decided_77 (lv_at hl 1 rfl) ?_
            refine lv_if_eq (tgt := 88) S.1 S.2.1 d_R_decided_79 (by decide) (fun hbr2 => ?_) (fun hbr2 => ?_)
            · refine lv_iload_n S.1 S.2.1 d_R_decided_88 rfl (lv_at hl 3 rfl) ?_
              refine lv_istore_n S.1 S.2.1 d_R_decided_89 rfl hl (by decide) rfl (fun ls hl => ?_)
              have hl : lv_has ls 7 [(3, .int y), (6, .int (nI k)), (5, .int x), (4, .int (nI i)), (0, .ref (ma 0)), (1, .int (nI f)), (2, .int (nI m2))] := hl
              refine lv_iinc (v := nI (i + 1)) S.1 S.2.1 d_R_decided_90 hl (k := 3) rfl (nI_1 i) (by decide) rfl (fun ls hl => ?_)
              have hl : lv_has ls 7 [(4, .int (nI (i + 1))), (3, .int y), (6, .int (nI k)), (5, .int x), (0, .ref (ma 0)), (1, .int (nI f)), (2, .int (nI m2))] := hl
              refine lv_goto (tgt := 5) S.1 S.2.1 d_R_decided_93 (by decide) ?_
              exact ih5 (i + 1) y ls (by omega) (by rw [hy]; exact congrArg nI (ct_s0 (bI_0.mp (hx2.symm.trans hbr2)))) (lv_sub hl [0, 1, 4, 5, 6] rfl)
            · refine lv_iload_n S.1 S.2.1 d_R_decided_82 rfl (lv_at hl 3 rfl) ?_
              refine lv_iconst (v := 1) S.1 S.2.1 d_R_decided_83 (by decide) ?_
              refine lv_iadd S.1 S.2.1 d_R_decided_84 ?_
              refine lv_goto (tgt := 89) S.1 S.2.1 d_R_decided_85 (by decide) ?_
              refine lv_istore_n S.1 S.2.1 d_R_decided_89 rfl hl (by decide) rfl (fun ls hl => ?_)
              have hl : lv_has ls 7 [(3, .int (y + 1)), (6, .int (nI k)), (5, .int x), (4, .int (nI i)), (0, .ref (ma 0)), (1, .int (nI f)), (2, .int (nI m2))] := hl
              refine lv_iinc (v := nI (i + 1)) S.1 S.2.1 d_R_decided_90 hl (k := 3) rfl (nI_1 i) (by decide) rfl (fun ls hl => ?_)
              have hl : lv_has ls 7 [(4, .int (nI (i + 1))), (3, .int (y + 1)), (6, .int (nI k)), (5, .int x), (0, .ref (ma 0)), (1, .int (nI f)), (2, .int (nI m2))] := hl
              refine lv_goto (tgt := 5) S.1 S.2.1 d_R_decided_93 (by decide) ?_
              exact ih5 (i + 1) (y + 1) ls (by omega) (by rw [hy, nI_1]; exact congrArg nI (ct_s1 (bI_n (fun z => hbr2 (hx2.trans z))))) (lv_sub hl [0, 1, 4, 5, 6] rfl)
        | succ d20 ih20 =>
          intro k x ls hd20 hx hl
          refine lv_iload S.1 S.2.1 d_R_decided_20 (lv_at hl 0 rfl) ?_
          refine lv_iload_n S.1 S.2.1 d_R_decided_22 rfl (lv_at hl 6 rfl) ?_
          refine lv_icmp_gt (tgt := 77) S.1 S.2.1 d_R_decided_23 (by decide) (fun hx9 => absurd hx9 (nI_nlt (by omega) (by omega))) (fun _ => ?_)
          refine lv_iload S.1 S.2.1 d_R_decided_26 (lv_at hl 0 rfl) ?_
          refine lv_aload_n S.1 S.2.1 d_R_decided_28 rfl (lv_at hl 4 rfl) ?_
          refine o_get (v := .int (nI pl)) S hC kf_R hw.1 rfl 2 (by decide) q_701 rfl d_R_decided_29 ?_
          refine lv_icmp_ge (tgt := 77) S.1 S.2.1 d_R_decided_32 (by decide) (fun hx9 => absurd hx9 (nI_ge (by omega) (by omega))) (fun _ => ?_)
          refine lv_iload S.1 S.2.1 d_R_decided_35 (lv_at hl 1 rfl) ?_
          refine lv_if_ne (tgt := 64) S.1 S.2.1 d_R_decided_37 (by decide) (fun hbr3 => ?_) (fun hbr3 => ?_)
          · refine lv_iconst (v := 1) S.1 S.2.1 d_R_decided_64 (by decide) ?_
            refine lv_goto (tgt := 69) S.1 S.2.1 d_R_decided_65 (by decide) ?_
            refine lv_istore S.1 S.2.1 d_R_decided_69 hl (by decide) rfl (fun ls hl => ?_)
            have hl : lv_has ls 7 [(5, .int 1), (6, .int (nI k)), (4, .int (nI i)), (3, .int y), (0, .ref (ma 0)), (1, .int (nI f)), (2, .int (nI m2))] := hl
            refine lv_iinc (v := nI (k + 1)) S.1 S.2.1 d_R_decided_71 hl (k := 1) rfl (nI_1 k) (by decide) rfl (fun ls hl => ?_)
            have hl : lv_has ls 7 [(6, .int (nI (k + 1))), (5, .int 1), (4, .int (nI i)), (3, .int y), (0, .ref (ma 0)), (1, .int (nI f)), (2, .int (nI m2))] := hl
            refine lv_goto (tgt := 20) S.1 S.2.1 d_R_decided_74 (by decide) ?_
            exact ih20 (k + 1) 1 ls (by omega) (bI_t (anyb_t (bI_n (by rw [← hx]; exact hbr3)))) (lv_sub hl [0, 1, 2, 3, 4, 5, 6] rfl)
          · refine lv_aload_n S.1 S.2.1 d_R_decided_40 rfl (lv_at hl 4 rfl) ?_
            refine o_get (v := .ref (ma 7)) S hC kf_R hw.1 rfl 9 (by decide) q_702 rfl d_R_decided_41 ?_
            refine lv_iload S.1 S.2.1 d_R_decided_44 (lv_at hl 0 rfl) ?_
            refine o_iald (j := k) S hC (mi_7 hw) (by decide) (by omega) d_R_decided_46 ?_
            refine lv_aload_n S.1 S.2.1 d_R_decided_47 rfl (lv_at hl 4 rfl) ?_
            refine o_get (v := .ref (ma 7)) S hC kf_R hw.1 rfl 9 (by decide) q_702 rfl d_R_decided_48 ?_
            refine lv_iload S.1 S.2.1 d_R_decided_51 (lv_at hl 2 rfl) ?_
            refine o_iald (j := i) S hC (mi_7 hw) (by decide) (by omega) d_R_decided_53 ?_
            refine lv_aload_n S.1 S.2.1 d_R_decided_54 rfl (lv_at hl 4 rfl) ?_
            refine o_get (v := .ref (ma 6)) S hC kf_R hw.1 rfl 8 (by decide) q_699 rfl d_R_decided_55 ?_
            refine lv_iload_n S.1 S.2.1 d_R_decided_58 rfl (lv_at hl 5 rfl) ?_
            refine o_iald (j := f) S hC (mi_6 hw) (by decide) (by omega) d_R_decided_59 ?_
            refine tpi (y := hi f) (hT f (by omega)).2.2.2.2.2 ?_
            refine lv_iadd S.1 S.2.1 d_R_decided_60 ?_
            refine lv_icmp_le (tgt := 68) S.1 S.2.1 d_R_decided_61 (by decide) (fun hbr4 => ?_) (fun hbr4 => ?_)
            · refine lv_iconst (v := 0) S.1 S.2.1 d_R_decided_68 (by decide) ?_
              refine lv_istore S.1 S.2.1 d_R_decided_69 hl (by decide) rfl (fun ls hl => ?_)
              have hl : lv_has ls 7 [(5, .int 0), (6, .int (nI k)), (4, .int (nI i)), (3, .int y), (0, .ref (ma 0)), (1, .int (nI f)), (2, .int (nI m2))] := hl
              refine lv_iinc (v := nI (k + 1)) S.1 S.2.1 d_R_decided_71 hl (k := 1) rfl (nI_1 k) (by decide) rfl (fun ls hl => ?_)
              have hl : lv_has ls 7 [(6, .int (nI (k + 1))), (5, .int 0), (4, .int (nI i)), (3, .int y), (0, .ref (ma 0)), (1, .int (nI f)), (2, .int (nI m2))] := hl
              refine lv_goto (tgt := 20) S.1 S.2.1 d_R_decided_74 (by decide) ?_
              exact ih20 (k + 1) 0 ls (by omega) (bI_f (anyb_s (bI_0.mp (by rw [← hx]; exact hbr3)) (decide_eq_false (fun z => (Int32.not_le.mpr z) hbr4)))) (lv_sub hl [0, 1, 2, 3, 4, 5, 6] rfl)
            · refine lv_iconst (v := 1) S.1 S.2.1 d_R_decided_64 (by decide) ?_
              refine lv_goto (tgt := 69) S.1 S.2.1 d_R_decided_65 (by decide) ?_
              refine lv_istore S.1 S.2.1 d_R_decided_69 hl (by decide) rfl (fun ls hl => ?_)
              have hl : lv_has ls 7 [(5, .int 1), (6, .int (nI k)), (4, .int (nI i)), (3, .int y), (0, .ref (ma 0)), (1, .int (nI f)), (2, .int (nI m2))] := hl
              refine lv_iinc (v := nI (k + 1)) S.1 S.2.1 d_R_decided_71 hl (k := 1) rfl (nI_1 k) (by decide) rfl (fun ls hl => ?_)
              have hl : lv_has ls 7 [(6, .int (nI (k + 1))), (5, .int 1), (4, .int (nI i)), (3, .int y), (0, .ref (ma 0)), (1, .int (nI f)), (2, .int (nI m2))] := hl
              refine lv_goto (tgt := 20) S.1 S.2.1 d_R_decided_74 (by decide) ?_
              exact ih20 (k + 1) 1 ls (by omega) (bI_t (anyb_s (bI_0.mp (by rw [← hx]; exact hbr3)) (decide_eq_true (Int32.not_le.mp hbr4)))) (lv_sub hl [0, 1, 2, 3, 4, 5, 6] rfl)
      exact key20 (min (m2 + 1) pl) 0 0 ls (by omega) rfl (lv_sub hl [0, 1, 2, 3, 4, 5, 6] rfl)
  exact key5 pl 0 0 ls (by omega) rfl (lv_sub hl [0, 1, 2, 3, 4] rfl)
set_option maxHeartbeats 4000000 in
set_option maxRecDepth 100000 in
theorem c_R_agree (l : Launch) {K : KT} {n1 n2 : Nat} {z : Int32} (h1 : n1 < 64) (h2 : n2 < 64) : Met l y_R_agree (Cond.code y_R_agree b_R_agree 5 (some Jvm.ClassFile.FieldType.boolean) :: WALL) { frames := 1, cells := 0, slots := 0, locals := 21 } (pc0 K [.int (nI n1), .int (nI n2), .int z] (fun H => True)) (vp_Si (fun r => r = bI (agr (bt z) n1 n2))) 0 0 (fun _ => False) := by
  refine met0 (own := "MetricLogMonitorModel") (by decide) rfl (Nat.le_of_ble_eq_true rfl) (fun p e s m below meth c ls S hr hk hnm hC hH hl => ?_)
  have hl : lv_has ls 5 [(0, .int (nI n1)), (1, .int (nI n2)), (2, .int z)] := hl
  refine lv_iconst (v := 1) S.1 S.2.1 d_R_agree_0 (by decide) ?_
  refine lv_istore_n S.1 S.2.1 d_R_agree_1 rfl hl (by decide) rfl (fun ls hl => ?_)
  have hl : lv_has ls 5 [(3, .int 1), (0, .int (nI n1)), (1, .int (nI n2)), (2, .int z)] := hl
  refine lv_iconst (v := 0) S.1 S.2.1 d_R_agree_2 (by decide) ?_
  refine lv_istore S.1 S.2.1 d_R_agree_3 hl (by decide) rfl (fun ls hl => ?_)
  have hl : lv_has ls 5 [(4, .int 0), (3, .int 1), (0, .int (nI n1)), (1, .int (nI n2)), (2, .int z)] := hl
  have key5 : ∀ (d5 : Nat) (v : Nat) (x : Int32) (ls : Array Slot), v + d5 = 3 → (x = bI (allb (fun v => !bt z v || decide (vl v n1 = vl v n2)) v)) → lv_has ls 5 [(4, .int (nI v)), (3, .int x), (0, .int (nI n1)), (1, .int (nI n2)), (2, .int z)] → W p l e ({ frames := 1, cells := 0, slots := 0, locals := 21 } : Room) s m ([.int (nI n1), .int (nI n2), .int z] : List Value).toArray below meth c s.heap [] 0 0 (MQ below (vp_Si (fun r => r = bI (agr (bt z) n1 n2))) ([.int (nI n1), .int (nI n2), .int z] : List Value).toArray s 0 0 (fun _ => False)) (F0 m 5 ls []) := by
    intro d5
    induction d5 with
    | zero =>
      intro v x ls hd5 hx hl
      refine lv_iload S.1 S.2.1 d_R_agree_5 (lv_at hl 0 rfl) ?_
      refine lv_iconst (v := 3) S.1 S.2.1 d_R_agree_7 (by decide) ?_
      refine lv_icmp_ge (tgt := 51) S.1 S.2.1 d_R_agree_8 (by decide) (fun _ => ?_) (fun hx9 => absurd (by rw [show v = 3 by omega]; decide) hx9)
      refine lv_iload_n S.1 S.2.1 d_R_agree_51 rfl (lv_at hl 1 rfl) ?_
      exact r_z S hr hk (nz (by rw [hx]; exact bI_z _)) d_R_agree_52 (by rw [hx, show v = 3 by omega]; rfl)
    | succ d5 ih5 =>
      intro v x ls hd5 hx hl
      refine lv_iload S.1 S.2.1 d_R_agree_5 (lv_at hl 0 rfl) ?_
      refine lv_iconst (v := 3) S.1 S.2.1 d_R_agree_7 (by decide) ?_
      refine lv_icmp_ge (tgt := 51) S.1 S.2.1 d_R_agree_8 (by decide) (fun hx9 => absurd hx9 (nI_ge (b := 3) (by omega) (by decide))) (fun _ => ?_)
      refine lv_iload_n S.1 S.2.1 d_R_agree_11 rfl (lv_at hl 1 rfl) ?_
      refine lv_if_eq (tgt := 43) S.1 S.2.1 d_R_agree_12 (by decide) (fun hbr1 => ?_) (fun hbr1 => ?_)
      · refine lv_iconst (v := 0) S.1 S.2.1 d_R_agree_43 (by decide) ?_
        refine lv_istore_n S.1 S.2.1 d_R_agree_44 rfl hl (by decide) rfl (fun ls hl => ?_)
        have hl : lv_has ls 5 [(3, .int 0), (4, .int (nI v)), (0, .int (nI n1)), (1, .int (nI n2)), (2, .int z)] := hl
        refine lv_iinc (v := nI (v + 1)) S.1 S.2.1 d_R_agree_45 hl (k := 1) rfl (nI_1 v) (by decide) rfl (fun ls hl => ?_)
        have hl : lv_has ls 5 [(4, .int (nI (v + 1))), (3, .int 0), (0, .int (nI n1)), (1, .int (nI n2)), (2, .int z)] := hl
        refine lv_goto (tgt := 5) S.1 S.2.1 d_R_agree_48 (by decide) ?_
        exact ih5 (v + 1) 0 ls (by omega) (bI_f (allb_f (bI_0.mp (by rw [← hx]; exact hbr1)))) (lv_sub hl [0, 1, 2, 3, 4] rfl)
      · refine lv_iload_n S.1 S.2.1 d_R_agree_15 rfl (lv_at hl 4 rfl) ?_
        refine lv_iload S.1 S.2.1 d_R_agree_16 (lv_at hl 0 rfl) ?_
        refine lv_ishr S.1 S.2.1 d_R_agree_18 ?_
        refine lv_iconst (v := 1) S.1 S.2.1 d_R_agree_19 (by decide) ?_
        refine lv_iand S.1 S.2.1 d_R_agree_20 ?_
        refine lv_if_eq (tgt := 39) S.1 S.2.1 d_R_agree_21 (by decide) (fun hbr2 => ?_) (fun hbr2 => ?_)
        · refine lv_iconst (v := 1) S.1 S.2.1 d_R_agree_39 (by decide) ?_
          refine lv_goto (tgt := 44) S.1 S.2.1 d_R_agree_40 (by decide) ?_
          refine lv_istore_n S.1 S.2.1 d_R_agree_44 rfl hl (by decide) rfl (fun ls hl => ?_)
          have hl : lv_has ls 5 [(3, .int 1), (4, .int (nI v)), (0, .int (nI n1)), (1, .int (nI n2)), (2, .int z)] := hl
          refine lv_iinc (v := nI (v + 1)) S.1 S.2.1 d_R_agree_45 hl (k := 1) rfl (nI_1 v) (by decide) rfl (fun ls hl => ?_)
          have hl : lv_has ls 5 [(4, .int (nI (v + 1))), (3, .int 1), (0, .int (nI n1)), (1, .int (nI n2)), (2, .int z)] := hl
          refine lv_goto (tgt := 5) S.1 S.2.1 d_R_agree_48 (by decide) ?_
          exact ih5 (v + 1) 1 ls (by omega) (bI_t (allb_s (bI_n (by rw [← hx]; exact hbr1)) (by rw [(b_tst_zero z (by omega)).mp hbr2]; rfl))) (lv_sub hl [0, 1, 2, 3, 4] rfl)
        · refine lv_iload S.1 S.2.1 d_R_agree_24 (lv_at hl 0 rfl) ?_
          refine lv_iload_n S.1 S.2.1 d_R_agree_26 rfl (lv_at hl 2 rfl) ?_
          refine kSi (rest := []) S (c_R_value l (nI v) (nI n1)) kc_R_value ⟨q_848, q_849⟩ rfl rfl ⟨Nat.le_of_ble_eq_true rfl, Nat.le_of_ble_eq_true rfl⟩ hC (hSF s) (hAF K) trivial ⟨Nat.zero_le _, Nat.zero_le _⟩ hl.1 rfl rfl (Nat.le_of_ble_eq_true rfl) d_R_agree_27 (fun r er => ?_)
          refine tpi (y := nI (vl v n1)) (er.trans (value_eq (Or.inl (by omega)) h1)) ?_
          refine lv_iload S.1 S.2.1 d_R_agree_30 (lv_at hl 0 rfl) ?_
          refine lv_iload_n S.1 S.2.1 d_R_agree_32 rfl (lv_at hl 3 rfl) ?_
          refine kSi (rest := [.int (nI (vl v n1))]) S (c_R_value l (nI v) (nI n2)) kc_R_value ⟨q_848, q_849⟩ rfl rfl ⟨Nat.le_of_ble_eq_true rfl, Nat.le_of_ble_eq_true rfl⟩ hC (hSF s) (hAF K) trivial ⟨Nat.zero_le _, Nat.zero_le _⟩ hl.1 rfl rfl (Nat.le_of_ble_eq_true rfl) d_R_agree_33 (fun r er => ?_)
          refine tpi (y := nI (vl v n2)) (er.trans (value_eq (Or.inl (by omega)) h2)) ?_
          refine lv_icmp_ne (tgt := 43) S.1 S.2.1 d_R_agree_36 (by decide) (fun hbr3 => ?_) (fun hbr3 => ?_)
          · refine lv_iconst (v := 0) S.1 S.2.1 d_R_agree_43 (by decide) ?_
            refine lv_istore_n S.1 S.2.1 d_R_agree_44 rfl hl (by decide) rfl (fun ls hl => ?_)
            have hl : lv_has ls 5 [(3, .int 0), (4, .int (nI v)), (0, .int (nI n1)), (1, .int (nI n2)), (2, .int z)] := hl
            refine lv_iinc (v := nI (v + 1)) S.1 S.2.1 d_R_agree_45 hl (k := 1) rfl (nI_1 v) (by decide) rfl (fun ls hl => ?_)
            have hl : lv_has ls 5 [(4, .int (nI (v + 1))), (3, .int 0), (0, .int (nI n1)), (1, .int (nI n2)), (2, .int z)] := hl
            refine lv_goto (tgt := 5) S.1 S.2.1 d_R_agree_48 (by decide) ?_
            exact ih5 (v + 1) 0 ls (by omega) (bI_f (allb_s (bI_n (by rw [← hx]; exact hbr1)) (by rw [decide_eq_false (fun q => hbr3 ((nI_eq (by have := vl_lt (t := v) (n := n1) (Or.inl (by omega)); omega) (by have := vl_lt (t := v) (n := n2) (Or.inl (by omega)); omega)).mpr q)), bnf (fun q => hbr2 ((b_tst_zero z (by omega)).mpr q))]; rfl))) (lv_sub hl [0, 1, 2, 3, 4] rfl)
          · refine lv_iconst (v := 1) S.1 S.2.1 d_R_agree_39 (by decide) ?_
            refine lv_goto (tgt := 44) S.1 S.2.1 d_R_agree_40 (by decide) ?_
            refine lv_istore_n S.1 S.2.1 d_R_agree_44 rfl hl (by decide) rfl (fun ls hl => ?_)
            have hl : lv_has ls 5 [(3, .int 1), (4, .int (nI v)), (0, .int (nI n1)), (1, .int (nI n2)), (2, .int z)] := hl
            refine lv_iinc (v := nI (v + 1)) S.1 S.2.1 d_R_agree_45 hl (k := 1) rfl (nI_1 v) (by decide) rfl (fun ls hl => ?_)
            have hl : lv_has ls 5 [(4, .int (nI (v + 1))), (3, .int 1), (0, .int (nI n1)), (1, .int (nI n2)), (2, .int z)] := hl
            refine lv_goto (tgt := 5) S.1 S.2.1 d_R_agree_48 (by decide) ?_
            exact ih5 (v + 1) 1 ls (by omega) (bI_t (allb_s (bI_n (by rw [← hx]; exact hbr1)) (by rw [decide_eq_true ((nI_eq (by have := vl_lt (t := v) (n := n1) (Or.inl (by omega)); omega) (by have := vl_lt (t := v) (n := n2) (Or.inl (by omega)); omega)).mp hbr3), Bool.or_true]))) (lv_sub hl [0, 1, 2, 3, 4] rfl)
  exact key5 3 0 1 ls rfl rfl (lv_sub hl [0, 1, 2, 3, 4] rfl)
