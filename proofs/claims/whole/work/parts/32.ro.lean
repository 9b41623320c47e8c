/-! the class: methods that only read, without loops -/
def f_Form_isDecidedAt (f4 : Int32) (i : Int32) : Int32 := (if i < 0 then 0 else (if f4 ≤ i then 0 else 1))
theorem z_Form_isDecidedAt (f4 : Int32) (i : Int32) : f_Form_isDecidedAt f4 i = 0 ∨ f_Form_isDecidedAt f4 i = 1 := by
  unfold f_Form_isDecidedAt
  repeat' split
  all_goals first | exact Or.inl rfl | exact Or.inr rfl | exact z_M_isRelation .. | exact z_M_isVariable .. | exact z_M_isValue .. | exact z_M_isValueTerm .. | exact z_M_isTerm .. | exact z_M_isTime .. | exact z_M_isInterval .. | exact z_M_isPastInterval .. | exact z_M_liesIn ..
set_option maxHeartbeats 4000000 in
set_option maxRecDepth 100000 in
theorem c_Form_isDecidedAt (l : Launch) {K : KT} {b ci : Nat} {f1 f2 f3 f4 : Int32} {sa : Nat} {xs : List Value} (hc : ci < 8) (i : Int32) : Met l y_Form_isDecidedAt (Cond.code y_Form_isDecidedAt b_Form_isDecidedAt 2 (some Jvm.ClassFile.FieldType.boolean) :: WALL) { frames := 0, cells := 0, slots := 0, locals := 0 } (pc0 K [.ref b, .int i] (fun H => va_at K.1 classes (b, .inr (ci, .int f1 :: .int f2 :: .int f3 :: .int f4 :: .ref sa :: xs)) H)) (vp_Si (fun r => r = f_Form_isDecidedAt f4 i)) 0 0 (fun _ => False) := by
  refine met0 (own := "MetricLogMonitor$Formula") (by decide) rfl (Nat.le_of_ble_eq_true rfl) (fun p e s m below meth c ls S hr hk hnm hC hH hl => ?_)
  have hl : lv_has ls 2 [(0, .ref b), (1, .int i)] := hl
  refine lv_iload_n S.1 S.2.1 d_Form_isDecidedAt_0 rfl (lv_at hl 1 rfl) ?_
  refine lv_if_lt (tgt := 16) S.1 S.2.1 d_Form_isDecidedAt_1 (by decide) (fun hbr1 => ?_) (fun hbr1 => ?_)
  · refine lv_iconst (v := 0) S.1 S.2.1 d_Form_isDecidedAt_16 (by decide) ?_
    exact r_z S hr hk rfl d_Form_isDecidedAt_17 (by unfold f_Form_isDecidedAt; simp only [if_pos hbr1])
  · refine lv_iload_n S.1 S.2.1 d_Form_isDecidedAt_4 rfl (lv_at hl 1 rfl) ?_
    refine lv_aload_n S.1 S.2.1 d_Form_isDecidedAt_5 rfl (lv_at hl 0 rfl) ?_
    refine fm_get (v := .int f4) S hC hc 3 (by decide) hH q_164  rfl d_Form_isDecidedAt_6 ?_
    refine lv_icmp_ge (tgt := 16) S.1 S.2.1 d_Form_isDecidedAt_9 (by decide) (fun hbr2 => ?_) (fun hbr2 => ?_)
    · refine lv_iconst (v := 0) S.1 S.2.1 d_Form_isDecidedAt_16 (by decide) ?_
      exact r_z S hr hk rfl d_Form_isDecidedAt_17 (by unfold f_Form_isDecidedAt; simp only [if_neg hbr1, if_pos hbr2])
    · refine lv_iconst (v := 1) S.1 S.2.1 d_Form_isDecidedAt_12 (by decide) ?_
      refine lv_goto (tgt := 17) S.1 S.2.1 d_Form_isDecidedAt_13 (by decide) ?_
      exact r_z S hr hk rfl d_Form_isDecidedAt_17 (by unfold f_Form_isDecidedAt; simp only [if_neg hbr1, if_neg hbr2])
theorem dec_yes {d j : Nat} (hd : d ≤ 24) (hj : j < d) : ¬ f_Form_isDecidedAt (nI d) (nI j) = 0 := by
  unfold f_Form_isDecidedAt
  rw [if_neg (nI_pos (by omega)), if_neg (nI_ge hj (by omega))]
  decide
theorem dec_no {d : Nat} {i : Int32} (hd : d ≤ 24) (h : ¬ f_Form_isDecidedAt (nI d) i = 0) : ∃ j, j < d ∧ i = nI j := by
  unfold f_Form_isDecidedAt at h
  by_cases h1 : i < 0
  · rw [if_pos h1] at h; exact absurd rfl h
  · rw [if_neg h1] at h
    by_cases h2 : nI d ≤ i
    · rw [if_pos h2] at h; exact absurd rfl h
    · obtain ⟨j, hj, e⟩ := nI_of h1
      subst e
      exact ⟨j, by rw [nI_leI (by omega) hj] at h2; omega, rfl⟩
theorem nI_nz {N : Nat} (h : ¬ nI N = 0) : 1 ≤ N := by
  rcases Nat.eq_zero_or_pos N with e | e
  · subst e; exact absurd nI_0 h
  · exact e
theorem nI_m1 {N : Nat} (h : 1 ≤ N) : nI N - 1 = nI (N - 1) := pk_sub (a := N) (b := 1) h
set_option maxHeartbeats 4000000 in
set_option maxRecDepth 100000 in
theorem c_Form_setAt (l : Launch) {K : KT} {b ci d : Nat} {f1 f2 f3 : Int32} {sa : Nat} {xs : List Value} {stv : Nat → Int64} (hc : ci < 8) (hd : d ≤ 24) (i : Int32) : Met l y_Form_setAt (Cond.code y_Form_setAt b_Form_setAt 2 (some Jvm.ClassFile.FieldType.long) :: WALL) { frames := 1, cells := 0, slots := 0, locals := 21 } (pc0 K [.ref b, .int i] (fun H => va_at K.1 classes (b, .inr (ci, .int f1 :: .int f2 :: .int f3 :: .int (nI d) :: .ref sa :: xs)) H ∧ va_at K.1 classes (sa, .inl (kJ K, 24, .inr (.inl stv))) H)) (vp_Sl (fun r => (f_Form_isDecidedAt (nI d) i = 0 → r = 0) ∧ ∀ j, j < d → i = nI j → r = stv j)) 0 0 (fun _ => False) := by
  refine met0 (own := "MetricLogMonitor$Formula") (by decide) rfl (Nat.le_of_ble_eq_true rfl) (fun p e s m below meth c ls S hr hk hnm hC hH hl => ?_)
  obtain ⟨hf, hs⟩ := hH
  have hl : lv_has ls 2 [(0, .ref b), (1, .int i)] := hl
  refine lv_aload_n S.1 S.2.1 d_Form_setAt_0 rfl (lv_at hl 0 rfl) ?_
  refine lv_iload_n S.1 S.2.1 d_Form_setAt_1 rfl (lv_at hl 1 rfl) ?_
  refine kFi (rest := []) S (c_Form_isDecidedAt l hc i) kc_Form_isDecidedAt fm_3 ⟨q_593, q_595, q_594⟩ rfl rfl rfl ⟨Nat.le_of_ble_eq_true rfl, Nat.le_of_ble_eq_true rfl⟩ hC (hSF s) (hAF K) hf hc hf ⟨Nat.zero_le _, Nat.zero_le _⟩ hl.1 rfl rfl (Nat.le_of_ble_eq_true rfl) d_Form_setAt_2 (fun r er => ?_)
  subst er
  refine lv_if_eq (tgt := 17) S.1 S.2.1 d_Form_setAt_5 (by decide) (fun hbr1 => ?_) (fun hbr1 => ?_)
  · refine lv_lconst (v := 0) S.1 S.2.1 d_Form_setAt_17 (by decide) ?_
    exact r_l S hr hk d_Form_setAt_18 ⟨fun _ => rfl, fun j hj ej => absurd (by rw [← ej]; exact hbr1) (dec_yes hd hj)⟩
  · obtain ⟨j, hj, ej⟩ := dec_no hd hbr1
    refine lv_aload_n S.1 S.2.1 d_Form_setAt_8 rfl (lv_at hl 0 rfl) ?_
    refine fm_get (v := .ref sa) S hC hc 4 (by decide) hf q_166  rfl d_Form_setAt_9 ?_
    refine lv_iload_n S.1 S.2.1 d_Form_setAt_12 rfl (lv_at hl 1 rfl) ?_
    refine tpi (y := nI j) ej ?_
    refine o_lald (j := j) S hC hs (by decide) (by omega) d_Form_setAt_13 ?_
    refine lv_goto (tgt := 18) S.1 S.2.1 d_Form_setAt_14 (by decide) ?_
    exact r_l S hr hk d_Form_setAt_18 ⟨fun h0 => absurd h0 hbr1, fun j2 hj2 ej2 => by rw [ej] at ej2; rw [(nI_eq (by omega) (by omega)).mp ej2]⟩
def f_Form_isBounded (f1 : Int32) (f2 : Int32) (f3 : Int32) : Int32 := (if f3 = 0 then 0 else (if (f1 &&& (f2 ^^^ (-1))) = 0 then 1 else 0))
theorem z_Form_isBounded (f1 : Int32) (f2 : Int32) (f3 : Int32) : f_Form_isBounded f1 f2 f3 = 0 ∨ f_Form_isBounded f1 f2 f3 = 1 := by
  unfold f_Form_isBounded
  repeat' split
  all_goals first | exact Or.inl rfl | exact Or.inr rfl | exact z_M_isRelation .. | exact z_M_isVariable .. | exact z_M_isValue .. | exact z_M_isValueTerm .. | exact z_M_isTerm .. | exact z_M_isTime .. | exact z_M_isInterval .. | exact z_M_isPastInterval .. | exact z_M_liesIn .. | exact z_Form_isDecidedAt ..
set_option maxHeartbeats 4000000 in
set_option maxRecDepth 100000 in
theorem c_Form_isBounded (l : Launch) {K : KT} {b ci : Nat} {f1 f2 f3 f4 : Int32} {sa : Nat} {xs : List Value} (hc : ci < 8) : Met l y_Form_isBounded (Cond.code y_Form_isBounded b_Form_isBounded 1 (some Jvm.ClassFile.FieldType.boolean) :: WALL) { frames := 0, cells := 0, slots := 0, locals := 0 } (pc0 K [.ref b] (fun H => va_at K.1 classes (b, .inr (ci, .int f1 :: .int f2 :: .int f3 :: .int f4 :: .ref sa :: xs)) H)) (vp_Si (fun r => r = f_Form_isBounded f1 f2 f3)) 0 0 (fun _ => False) := by
  refine met0 (own := "MetricLogMonitor$Formula") (by decide) rfl (Nat.le_of_ble_eq_true rfl) (fun p e s m below meth c ls S hr hk hnm hC hH hl => ?_)
  have hl : lv_has ls 1 [(0, .ref b)] := hl
  refine lv_aload_n S.1 S.2.1 d_Form_isBounded_0 rfl (lv_at hl 0 rfl) ?_
  refine fm_get (v := .int f3) S hC hc 2 (by decide) hH q_156  rfl d_Form_isBounded_1 ?_
  refine lv_if_eq (tgt := 25) S.1 S.2.1 d_Form_isBounded_4 (by decide) (fun hbr1 => ?_) (fun hbr1 => ?_)
  · refine lv_iconst (v := 0) S.1 S.2.1 d_Form_isBounded_25 (by decide) ?_
    exact r_z S hr hk rfl d_Form_isBounded_26 (by unfold f_Form_isBounded; simp only [if_pos hbr1])
  · refine lv_aload_n S.1 S.2.1 d_Form_isBounded_7 rfl (lv_at hl 0 rfl) ?_
    refine fm_get (v := .int f1) S hC hc 0 (by decide) hH q_142  rfl d_Form_isBounded_8 ?_
    refine lv_aload_n S.1 S.2.1 d_Form_isBounded_11 rfl (lv_at hl 0 rfl) ?_
    refine fm_get (v := .int f2) S hC hc 1 (by decide) hH q_148  rfl d_Form_isBounded_12 ?_
    refine lv_iconst (v := (-1)) S.1 S.2.1 d_Form_isBounded_15 (by decide) ?_
    refine lv_ixor S.1 S.2.1 d_Form_isBounded_16 ?_
    refine lv_iand S.1 S.2.1 d_Form_isBounded_17 ?_
    refine lv_if_ne (tgt := 25) S.1 S.2.1 d_Form_isBounded_18 (by decide) (fun hbr2 => ?_) (fun hbr2 => ?_)
    · refine lv_iconst (v := 0) S.1 S.2.1 d_Form_isBounded_25 (by decide) ?_
      exact r_z S hr hk rfl d_Form_isBounded_26 (by unfold f_Form_isBounded; simp only [if_neg hbr1, if_neg hbr2])
    · refine lv_iconst (v := 1) S.1 S.2.1 d_Form_isBounded_21 (by decide) ?_
      refine lv_goto (tgt := 26) S.1 S.2.1 d_Form_isBounded_22 (by decide) ?_
      exact r_z S hr hk rfl d_Form_isBounded_26 (by unfold f_Form_isBounded; simp only [if_neg hbr1, if_pos hbr2])
def f_Log_duration (T : Nat → Int32) (i : Nat) (j : Nat) : Int32 := ((T j) - (T i))
set_option maxHeartbeats 4000000 in
set_option maxRecDepth 100000 in
theorem c_Log_duration (l : Launch) {K : KT} {lg tm pr : Nat} {G : Int64} {N : Nat} {T : Nat → Int32} {i j : Nat} (hi : i < 24) (hj : j < 24) : Met l y_Log_duration (Cond.code y_Log_duration b_Log_duration 3 (some Jvm.ClassFile.FieldType.int) :: WALL) { frames := 0, cells := 0, slots := 0, locals := 0 } (pc0 K [.ref lg, .int (nI i), .int (nI j)] (fun H => va_at K.1 classes (lg, .inr (9, [.ref tm, .ref pr, .long G, .int (nI N)])) H ∧ va_at K.1 classes (tm, .inl (kI K, 24, .inl T)) H)) (vp_Si (fun r => r = f_Log_duration T i j)) 0 0 (fun _ => False) := by
  refine met0 (own := "MetricLogMonitor$Log") (by decide) rfl (Nat.le_of_ble_eq_true rfl) (fun p e s m below meth c ls S hr hk hnm hC hH hl => ?_)
  obtain ⟨hg, ht⟩ := hH
  have hl : lv_has ls 3 [(0, .ref lg), (1, .int (nI i)), (2, .int (nI j))] := hl
  refine lv_aload_n S.1 S.2.1 d_Log_duration_0 rfl (lv_at hl 0 rfl) ?_
  refine o_get (v := .ref tm) S hC kf_Log hg rfl 0 (by decide) q_63 rfl d_Log_duration_1 ?_
  refine lv_iload_n S.1 S.2.1 d_Log_duration_4 rfl (lv_at hl 2 rfl) ?_
  refine o_iald (j := j) S hC ht (by decide) (by omega) d_Log_duration_5 ?_
  refine lv_aload_n S.1 S.2.1 d_Log_duration_6 rfl (lv_at hl 0 rfl) ?_
  refine o_get (v := .ref tm) S hC kf_Log hg rfl 0 (by decide) q_63 rfl d_Log_duration_7 ?_
  refine lv_iload_n S.1 S.2.1 d_Log_duration_10 rfl (lv_at hl 1 rfl) ?_
  refine o_iald (j := i) S hC ht (by decide) (by omega) d_Log_duration_11 ?_
  refine lv_isub S.1 S.2.1 d_Log_duration_12 ?_
  exact r_i S hr hk d_Log_duration_13 (by unfold f_Log_duration; rfl)
def f_Log_accepts (T : Nat → Int32) (N : Nat) (time : Int32) : Int32 := (if (f_M_isTime time) = 0 then 0 else (if 24 ≤ (nI N) then 0 else (if (nI N) = 0 then 1 else (if time < (T (N - 1)) then 0 else 1))))
theorem z_Log_accepts (T : Nat → Int32) (N : Nat) (time : Int32) : f_Log_accepts T N time = 0 ∨ f_Log_accepts T N time = 1 := by
  unfold f_Log_accepts
  repeat' split
  all_goals first | exact Or.inl rfl | exact Or.inr rfl | exact z_M_isRelation .. | exact z_M_isVariable .. | exact z_M_isValue .. | exact z_M_isValueTerm .. | exact z_M_isTerm .. | exact z_M_isTime .. | exact z_M_isInterval .. | exact z_M_isPastInterval .. | exact z_M_liesIn .. | exact z_Form_isDecidedAt .. | exact z_Form_isBounded ..
set_option maxHeartbeats 4000000 in
set_option maxRecDepth 100000 in
theorem c_Log_accepts (l : Launch) {K : KT} {lg tm pr : Nat} {G : Int64} {N : Nat} {T : Nat → Int32} (time : Int32) (hN : N ≤ 24) : Met l y_Log_accepts (Cond.code y_Log_accepts b_Log_accepts 2 (some Jvm.ClassFile.FieldType.boolean) :: WALL) { frames := 1, cells := 0, slots := 0, locals := 20 } (pc0 K [.ref lg, .int time] (fun H => va_at K.1 classes (lg, .inr (9, [.ref tm, .ref pr, .long G, .int (nI N)])) H ∧ va_at K.1 classes (tm, .inl (kI K, 24, .inl T)) H)) (vp_Si (fun r => r = f_Log_accepts T N time)) 0 0 (fun _ => False) := by
  refine met0 (own := "MetricLogMonitor$Log") (by decide) rfl (Nat.le_of_ble_eq_true rfl) (fun p e s m below meth c ls S hr hk hnm hC hH hl => ?_)
  obtain ⟨hg, ht⟩ := hH
  have hl : lv_has ls 2 [(0, .ref lg), (1, .int time)] := hl
  refine lv_iload_n S.1 S.2.1 d_Log_accepts_0 rfl (lv_at hl 1 rfl) ?_
  refine kNi (rest := []) S (c_M_isTime l time) kc_M_isTime ⟨qn_511, q_374⟩ rfl rfl ⟨Nat.le_of_ble_eq_true rfl, Nat.le_of_ble_eq_true rfl⟩ hC (hSF s) (hAF K) trivial ⟨Nat.zero_le _, Nat.zero_le _⟩ hl.1 rfl rfl (Nat.le_of_ble_eq_true rfl) d_Log_accepts_1 (fun r er => ?_)
  subst er
  refine lv_if_eq (tgt := 42) S.1 S.2.1 d_Log_accepts_4 (by decide) (fun hbr1 => ?_) (fun hbr1 => ?_)
  · refine lv_iconst (v := 0) S.1 S.2.1 d_Log_accepts_42 (by decide) ?_
    exact r_z S hr hk rfl d_Log_accepts_43 (by unfold f_Log_accepts; simp only [if_pos hbr1])
  · refine lv_aload_n S.1 S.2.1 d_Log_accepts_7 rfl (lv_at hl 0 rfl) ?_
    refine o_get (v := .int (nI N)) S hC kf_Log hg rfl 3 (by decide) q_71 rfl d_Log_accepts_8 ?_
    refine lv_bipush (v := 24) S.1 S.2.1 d_Log_accepts_11 (by decide) ?_
    refine lv_icmp_ge (tgt := 42) S.1 S.2.1 d_Log_accepts_13 (by decide) (fun hbr2 => ?_) (fun hbr2 => ?_)
    · refine lv_iconst (v := 0) S.1 S.2.1 d_Log_accepts_42 (by decide) ?_
      exact r_z S hr hk rfl d_Log_accepts_43 (by unfold f_Log_accepts; simp only [if_neg hbr1, if_pos hbr2])
    · refine lv_aload_n S.1 S.2.1 d_Log_accepts_16 rfl (lv_at hl 0 rfl) ?_
      refine o_get (v := .int (nI N)) S hC kf_Log hg rfl 3 (by decide) q_71 rfl d_Log_accepts_17 ?_
      refine lv_if_eq (tgt := 38) S.1 S.2.1 d_Log_accepts_20 (by decide) (fun hbr3 => ?_) (fun hbr3 => ?_)
      · refine lv_iconst (v := 1) S.1 S.2.1 d_Log_accepts_38 (by decide) ?_
        refine lv_goto (tgt := 43) S.1 S.2.1 d_Log_accepts_39 (by decide) ?_
        exact r_z S hr hk rfl d_Log_accepts_43 (by unfold f_Log_accepts; simp only [if_neg hbr1, if_neg hbr2, if_pos hbr3])
      · refine lv_iload_n S.1 S.2.1 d_Log_accepts_23 rfl (lv_at hl 1 rfl) ?_
        refine lv_aload_n S.1 S.2.1 d_Log_accepts_24 rfl (lv_at hl 0 rfl) ?_
        refine o_get (v := .ref tm) S hC kf_Log hg rfl 0 (by decide) q_63 rfl d_Log_accepts_25 ?_
        refine lv_aload_n S.1 S.2.1 d_Log_accepts_28 rfl (lv_at hl 0 rfl) ?_
        refine o_get (v := .int (nI N)) S hC kf_Log hg rfl 3 (by decide) q_71 rfl d_Log_accepts_29 ?_
        refine lv_iconst (v := 1) S.1 S.2.1 d_Log_accepts_32 (by decide) ?_
        refine lv_isub S.1 S.2.1 d_Log_accepts_33 ?_
        refine tpi (y := nI (N - 1)) (nI_m1 (nI_nz hbr3)) ?_
        refine o_iald (j := (N - 1)) S hC ht (by decide) (by omega) d_Log_accepts_34 ?_
        refine lv_icmp_lt (tgt := 42) S.1 S.2.1 d_Log_accepts_35 (by decide) (fun hbr4 => ?_) (fun hbr4 => ?_)
        · refine lv_iconst (v := 0) S.1 S.2.1 d_Log_accepts_42 (by decide) ?_
          exact r_z S hr hk rfl d_Log_accepts_43 (by unfold f_Log_accepts; simp only [if_neg hbr1, if_neg hbr2, if_neg hbr3, if_pos hbr4])
        · refine lv_iconst (v := 1) S.1 S.2.1 d_Log_accepts_38 (by decide) ?_
          refine lv_goto (tgt := 43) S.1 S.2.1 d_Log_accepts_39 (by decide) ?_
          exact r_z S hr hk rfl d_Log_accepts_43 (by unfold f_Log_accepts; simp only [if_neg hbr1, if_neg hbr2, if_neg hbr3, if_neg hbr4])
set_option maxHeartbeats 4000000 in
set_option maxRecDepth 100000 in
theorem c_AL_size (l : Launch) {K : KT} {lst els : Nat} {md : Int32} {n : Nat} : Met l y_AL_size (Cond.code y_AL_size b_AL_size 1 (some Jvm.ClassFile.FieldType.int) :: WALL) { frames := 0, cells := 0, slots := 0, locals := 0 } (pc0 K [.ref lst] (fun H => va_at K.1 classes (lst, .inr (10, [.int md, .ref els, .int (nI n)])) H)) (vp_Si (fun r => r = nI n)) 0 0 (fun _ => False) := by
  refine met0 (own := "java/util/ArrayList") (by decide) rfl (Nat.le_of_ble_eq_true rfl) (fun p e s m below meth c ls S hr hk hnm hC hH hl => ?_)
  have hl : lv_has ls 1 [(0, .ref lst)] := hl
  refine lv_aload_n S.1 S.2.1 d_AL_size_0 rfl (lv_at hl 0 rfl) ?_
  refine o_get (v := .int (nI n)) S hC kf_AL hH rfl 2 (by decide) q_46 rfl d_AL_size_1 ?_
  exact r_i S hr hk d_AL_size_4 rfl
def f_AL_isEmpty (n : Nat) : Int32 := (if (nI n) = 0 then 1 else 0)
theorem z_AL_isEmpty (n : Nat) : f_AL_isEmpty n = 0 ∨ f_AL_isEmpty n = 1 := by
  unfold f_AL_isEmpty
  repeat' split
  all_goals first | exact Or.inl rfl | exact Or.inr rfl | exact z_M_isRelation .. | exact z_M_isVariable .. | exact z_M_isValue .. | exact z_M_isValueTerm .. | exact z_M_isTerm .. | exact z_M_isTime .. | exact z_M_isInterval .. | exact z_M_isPastInterval .. | exact z_M_liesIn .. | exact z_Form_isDecidedAt .. | exact z_Form_isBounded .. | exact z_Log_accepts ..
set_option maxHeartbeats 4000000 in
set_option maxRecDepth 100000 in
theorem c_AL_isEmpty (l : Launch) {K : KT} {lst els : Nat} {md : Int32} {n : Nat} : Met l y_AL_isEmpty (Cond.code y_AL_isEmpty b_AL_isEmpty 1 (some Jvm.ClassFile.FieldType.boolean) :: WALL) { frames := 0, cells := 0, slots := 0, locals := 0 } (pc0 K [.ref lst] (fun H => va_at K.1 classes (lst, .inr (10, [.int md, .ref els, .int (nI n)])) H)) (vp_Si (fun r => r = f_AL_isEmpty n)) 0 0 (fun _ => False) := by
  refine met0 (own := "java/util/ArrayList") (by decide) rfl (Nat.le_of_ble_eq_true rfl) (fun p e s m below meth c ls S hr hk hnm hC hH hl => ?_)
  have hl : lv_has ls 1 [(0, .ref lst)] := hl
  refine lv_aload_n S.1 S.2.1 d_AL_isEmpty_0 rfl (lv_at hl 0 rfl) ?_
  refine o_get (v := .int (nI n)) S hC kf_AL hH rfl 2 (by decide) q_46 rfl d_AL_isEmpty_1 ?_
  refine lv_if_ne (tgt := 11) S.1 S.2.1 d_AL_isEmpty_4 (by decide) (fun hbr1 => ?_) (fun hbr1 => ?_)
  · refine lv_iconst (v := 0) S.1 S.2.1 d_AL_isEmpty_11 (by decide) ?_
    exact r_z S hr hk rfl d_AL_isEmpty_12 (by unfold f_AL_isEmpty; simp only [if_neg hbr1])
  · refine lv_iconst (v := 1) S.1 S.2.1 d_AL_isEmpty_7 (by decide) ?_
    refine lv_goto (tgt := 12) S.1 S.2.1 d_AL_isEmpty_8 (by decide) ?_
    exact r_z S hr hk rfl d_AL_isEmpty_12 (by unfold f_AL_isEmpty; simp only [if_pos hbr1])
