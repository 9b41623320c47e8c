/-! the reference's making calls -/
def mMk (J J1 : Nat → Nat → Int32) (n : Nat) (k w a b lo hi : Int32) : Prop := J1 1 n = k ∧ J1 2 n = w ∧ J1 3 n = a ∧ J1 4 n = b ∧ J1 5 n = lo ∧ J1 6 n = hi ∧ (∀ p i, i ≠ n → J1 p i = J p i) ∧ ∀ p, 7 ≤ p → J1 p = J p
theorem up_i {J J1 : Nat → Nat → Int32} {j n : Nat} {x : Int32} (e : J1 j = upd (J j) n x) (o : ∀ q, q ≠ j → J1 q = J q) (p i : Nat) (hi : i ≠ n) : J1 p i = J p i := by
  by_cases h : p = j
  · subst h; rw [e, pk_un hi]
  · rw [o p h]
set_option maxHeartbeats 4000000 in
set_option maxRecDepth 100000 in
theorem c_R_make (l : Launch) {K : KT} {ma : Nat → Nat} {n pl : Nat} {wt : Int32} {J : Nat → Nat → Int32} {X : Nat → Int64} (hD : mD K ma) (k w a b : Int32) (hn : n < 12) : Met l y_R_make (Cond.code y_R_make b_R_make 5 (some Jvm.ClassFile.FieldType.int) :: WALL) { frames := 0, cells := 0, slots := 0, locals := 0 } (pc0 K [.ref (ma 0), .int k, .int w, .int a, .int b] (fun H => mW K ma n wt pl J X H)) (va_Qi (fun r H => r = nI n ∧ ∃ J', mMk J J' n k w a b 0 (-1) ∧ mW K ma (n + 1) wt pl J' X H) (fun u t => t.heap = u) (mA ma)) 0 0 (mA ma) := by
  refine met0 (own := "MetricLogMonitorModel") (by decide) rfl (Nat.le_of_ble_eq_true rfl) (fun p e s m below meth c ls S hr hk hnm hC hH hl => ?_)
  have hl : lv_has ls 5 [(0, .ref (ma 0)), (1, .int k), (2, .int w), (3, .int a), (4, .int b)] := hl
  have hS : va_S (mA ma) s.heap s.heap [] := va_S.rf
  have hA : ∀ q, (mA ma) q → kz K ≤ q := fun q h => by obtain ⟨i, hi, rfl⟩ := h; exact hD.2 i hi
  have hw := hH
  refine lv_aload_n S.1 S.2.1 d_R_make_0 rfl (lv_at hl 0 rfl) ?_
  refine o_get (v := .ref (ma 1)) S hC kf_R hw.1 rfl 3 (by decide) q_694 rfl d_R_make_1 ?_
  refine lv_aload_n S.1 S.2.1 d_R_make_4 rfl (lv_at hl 0 rfl) ?_
  refine o_get (v := .int (nI n)) S hC kf_R hw.1 rfl 0 (by decide) q_693 rfl d_R_make_5 ?_
  refine lv_iload_n S.1 S.2.1 d_R_make_8 rfl (lv_at hl 1 rfl) ?_
  refine m_iast (i := n) (x := k) 1 S hC hD hw hS (by decide) (by decide) (by decide) (by decide) (show n < 12 by omega) d_R_make_9 (fun H locs J1 eJ1 oJ1 hw hS => ?_)
  refine lv_aload_n S.1 S.2.1 d_R_make_10 rfl (lv_at hl 0 rfl) ?_
  refine o_get (v := .ref (ma 2)) S hC kf_R hw.1 rfl 4 (by decide) q_695 rfl d_R_make_11 ?_
  refine lv_aload_n S.1 S.2.1 d_R_make_14 rfl (lv_at hl 0 rfl) ?_
  refine o_get (v := .int (nI n)) S hC kf_R hw.1 rfl 0 (by decide) q_693 rfl d_R_make_15 ?_
  refine lv_iload_n S.1 S.2.1 d_R_make_18 rfl (lv_at hl 2 rfl) ?_
  refine m_iast (i := n) (x := w) 2 S hC hD hw hS (by decide) (by decide) (by decide) (by decide) (show n < 12 by omega) d_R_make_19 (fun H locs J2 eJ2 oJ2 hw hS => ?_)
  refine lv_aload_n S.1 S.2.1 d_R_make_20 rfl (lv_at hl 0 rfl) ?_
  refine o_get (v := .ref (ma 3)) S hC kf_R hw.1 rfl 5 (by decide) q_696 rfl d_R_make_21 ?_
  refine lv_aload_n S.1 S.2.1 d_R_make_24 rfl (lv_at hl 0 rfl) ?_
  refine o_get (v := .int (nI n)) S hC kf_R hw.1 rfl 0 (by decide) q_693 rfl d_R_make_25 ?_
  refine lv_iload_n S.1 S.2.1 d_R_make_28 rfl (lv_at hl 3 rfl) ?_
  refine m_iast (i := n) (x := a) 3 S hC hD hw hS (by decide) (by decide) (by decide) (by decide) (show n < 12 by omega) d_R_make_29 (fun H locs J3 eJ3 oJ3 hw hS => ?_)
  refine lv_aload_n S.1 S.2.1 d_R_make_30 rfl (lv_at hl 0 rfl) ?_
  refine o_get (v := .ref (ma 4)) S hC kf_R hw.1 rfl 6 (by decide) q_697 rfl d_R_make_31 ?_
  refine lv_aload_n S.1 S.2.1 d_R_make_34 rfl (lv_at hl 0 rfl) ?_
  refine o_get (v := .int (nI n)) S hC kf_R hw.1 rfl 0 (by decide) q_693 rfl d_R_make_35 ?_
  refine lv_iload S.1 S.2.1 d_R_make_38 (lv_at hl 4 rfl) ?_
  refine m_iast (i := n) (x := b) 4 S hC hD hw hS (by decide) (by decide) (by decide) (by decide) (show n < 12 by omega) d_R_make_40 (fun H locs J4 eJ4 oJ4 hw hS => ?_)
  refine lv_aload_n S.1 S.2.1 d_R_make_41 rfl (lv_at hl 0 rfl) ?_
  refine o_get (v := .ref (ma 5)) S hC kf_R hw.1 rfl 7 (by decide) q_698 rfl d_R_make_42 ?_
  refine lv_aload_n S.1 S.2.1 d_R_make_45 rfl (lv_at hl 0 rfl) ?_
  refine o_get (v := .int (nI n)) S hC kf_R hw.1 rfl 0 (by decide) q_693 rfl d_R_make_46 ?_
  refine lv_iconst (v := 0) S.1 S.2.1 d_R_make_49 (by decide) ?_
  refine m_iast (i := n) (x := 0) 5 S hC hD hw hS (by decide) (by decide) (by decide) (by decide) (show n < 12 by omega) d_R_make_50 (fun H locs J5 eJ5 oJ5 hw hS => ?_)
  refine lv_aload_n S.1 S.2.1 d_R_make_51 rfl (lv_at hl 0 rfl) ?_
  refine o_get (v := .ref (ma 6)) S hC kf_R hw.1 rfl 8 (by decide) q_699 rfl d_R_make_52 ?_
  refine lv_aload_n S.1 S.2.1 d_R_make_55 rfl (lv_at hl 0 rfl) ?_
  refine o_get (v := .int (nI n)) S hC kf_R hw.1 rfl 0 (by decide) q_693 rfl d_R_make_56 ?_
  refine lv_iconst (v := (-1)) S.1 S.2.1 d_R_make_59 (by decide) ?_
  refine m_iast (i := n) (x := (-1)) 6 S hC hD hw hS (by decide) (by decide) (by decide) (by decide) (show n < 12 by omega) d_R_make_60 (fun H locs J6 eJ6 oJ6 hw hS => ?_)
  refine lv_aload_n S.1 S.2.1 d_R_make_61 rfl (lv_at hl 0 rfl) ?_
  refine lv_dup S.1 S.2.1 d_R_make_62 rfl ?_
  refine o_get (v := .int (nI n)) S hC kf_R hw.1 rfl 0 (by decide) q_693 rfl d_R_make_63 ?_
  refine lv_iconst (v := 1) S.1 S.2.1 d_R_make_66 (by decide) ?_
  refine lv_iadd S.1 S.2.1 d_R_make_67 ?_
  refine tpi (y := nI (n + 1)) (nI_1 n) ?_
  refine m_putn (n + 1) S hC hD hw hS q_693 d_R_make_68 (fun H locs hw hS => ?_)
  refine lv_aload_n S.1 S.2.1 d_R_make_71 rfl (lv_at hl 0 rfl) ?_
  refine o_get (v := .int (nI (n + 1))) S hC kf_R hw.1 rfl 0 (by decide) q_693 rfl d_R_make_72 ?_
  refine lv_iconst (v := 1) S.1 S.2.1 d_R_make_75 (by decide) ?_
  refine lv_isub S.1 S.2.1 d_R_make_76 ?_
  refine tpi (y := nI n) (nI_pred n) ?_
  exact rw_i S hr hk hS d_R_make_77 ⟨rfl, J6, ⟨(by rw [oJ6 1 (by decide), oJ5 1 (by decide), oJ4 1 (by decide), oJ3 1 (by decide), oJ2 1 (by decide), eJ1, pk_us]), (by rw [oJ6 2 (by decide), oJ5 2 (by decide), oJ4 2 (by decide), oJ3 2 (by decide), eJ2, pk_us]), (by rw [oJ6 3 (by decide), oJ5 3 (by decide), oJ4 3 (by decide), eJ3, pk_us]), (by rw [oJ6 4 (by decide), oJ5 4 (by decide), eJ4, pk_us]), (by rw [oJ6 5 (by decide), eJ5, pk_us]), (by rw [eJ6, pk_us]), (fun p i hi => (up_i eJ6 oJ6 p i hi).trans ((up_i eJ5 oJ5 p i hi).trans ((up_i eJ4 oJ4 p i hi).trans ((up_i eJ3 oJ3 p i hi).trans ((up_i eJ2 oJ2 p i hi).trans ((up_i eJ1 oJ1 p i hi))))))), (fun p hp => by rw [oJ6 p (by omega), oJ5 p (by omega), oJ4 p (by omega), oJ3 p (by omega), oJ2 p (by omega), oJ1 p (by omega)])⟩, hw⟩
set_option maxHeartbeats 4000000 in
set_option maxRecDepth 100000 in
theorem c_R_makeTimed (l : Launch) {K : KT} {ma : Nat → Nat} {n pl : Nat} {wt : Int32} {J : Nat → Nat → Int32} {X : Nat → Int64} (hD : mD K ma) (k x y a b : Int32) (hn : n < 12) : Met l y_R_makeTimed (Cond.code y_R_makeTimed b_R_makeTimed 7 (some Jvm.ClassFile.FieldType.int) :: WALL) { frames := 1, cells := 0, slots := 0, locals := 24 } (pc0 K [.ref (ma 0), .int k, .int x, .int y, .int a, .int b] (fun H => mW K ma n wt pl J X H)) (va_Qi (fun r H => r = nI n ∧ ∃ J', mMk J J' n k 0 a b x y ∧ mW K ma (n + 1) wt pl J' X H) (fun u t => t.heap = u) (mA ma)) 0 0 (mA ma) := by
  refine met0 (own := "MetricLogMonitorModel") (by decide) rfl (Nat.le_of_ble_eq_true rfl) (fun p e s m below meth c ls S hr hk hnm hC hH hl => ?_)
  have hl : lv_has ls 7 [(0, .ref (ma 0)), (1, .int k), (2, .int x), (3, .int y), (4, .int a), (5, .int b)] := hl
  have hS : va_S (mA ma) s.heap s.heap [] := va_S.rf
  have hA : ∀ q, (mA ma) q → kz K ≤ q := fun q h => by obtain ⟨i, hi, rfl⟩ := h; exact hD.2 i hi
  have hw := hH
  refine lv_aload_n S.1 S.2.1 d_R_makeTimed_0 rfl (lv_at hl 0 rfl) ?_
  refine lv_iload_n S.1 S.2.1 d_R_makeTimed_1 rfl (lv_at hl 1 rfl) ?_
  refine lv_iconst (v := 0) S.1 S.2.1 d_R_makeTimed_2 (by decide) ?_
  refine lv_iload S.1 S.2.1 d_R_makeTimed_3 (lv_at hl 4 rfl) ?_
  refine lv_iload S.1 S.2.1 d_R_makeTimed_5 (lv_at hl 5 rfl) ?_
  refine kw_i (A := mA ma) (k_V (rest := []) S (c_R_make l hD k 0 a b hn) kc_R_make ⟨q_757, q_759, qp_7⟩ rfl rfl ⟨Nat.le_of_ble_eq_true rfl, Nat.le_of_ble_eq_true rfl⟩ hC hS hA hw ⟨11, _, _, _, rfl, hw.1⟩ rfl hl.1 rfl (Nat.le_of_ble_eq_true rfl) ⟨Nat.zero_le _, Nat.zero_le _⟩ d_R_makeTimed_7) hS (fun q h => h) (fun r H locs er hz hkp hS => ?_)
  obtain ⟨er0, Ja, hmk, hw⟩ := er
  subst er0
  refine lv_istore S.1 S.2.1 d_R_makeTimed_10 hl (by decide) rfl (fun ls hl => ?_)
  have hl : lv_has ls 7 [(6, .int (nI n)), (0, .ref (ma 0)), (1, .int k), (2, .int x), (3, .int y), (4, .int a), (5, .int b)] := hl
  refine lv_aload_n S.1 S.2.1 d_R_makeTimed_12 rfl (lv_at hl 1 rfl) ?_
  refine o_get (v := .ref (ma 5)) S hC kf_R hw.1 rfl 7 (by decide) q_698 rfl d_R_makeTimed_13 ?_
  refine lv_iload S.1 S.2.1 d_R_makeTimed_16 (lv_at hl 0 rfl) ?_
  refine lv_iload_n S.1 S.2.1 d_R_makeTimed_18 rfl (lv_at hl 3 rfl) ?_
  refine m_iast (i := n) (x := x) 5 S hC hD hw hS (by decide) (by decide) (by decide) (by decide) (show n < 12 by omega) d_R_makeTimed_19 (fun H locs J1 eJ1 oJ1 hw hS => ?_)
  refine lv_aload_n S.1 S.2.1 d_R_makeTimed_20 rfl (lv_at hl 1 rfl) ?_
  refine o_get (v := .ref (ma 6)) S hC kf_R hw.1 rfl 8 (by decide) q_699 rfl d_R_makeTimed_21 ?_
  refine lv_iload S.1 S.2.1 d_R_makeTimed_24 (lv_at hl 0 rfl) ?_
  refine lv_iload_n S.1 S.2.1 d_R_makeTimed_26 rfl (lv_at hl 4 rfl) ?_
  refine m_iast (i := n) (x := y) 6 S hC hD hw hS (by decide) (by decide) (by decide) (by decide) (show n < 12 by omega) d_R_makeTimed_27 (fun H locs J2 eJ2 oJ2 hw hS => ?_)
  refine lv_iload S.1 S.2.1 d_R_makeTimed_28 (lv_at hl 0 rfl) ?_
  exact rw_i S hr hk hS d_R_makeTimed_30 ⟨rfl, J2, ⟨(by rw [oJ2 1 (by decide), oJ1 1 (by decide)]; exact hmk.1), (by rw [oJ2 2 (by decide), oJ1 2 (by decide)]; exact hmk.2.1), (by rw [oJ2 3 (by decide), oJ1 3 (by decide)]; exact hmk.2.2.1), (by rw [oJ2 4 (by decide), oJ1 4 (by decide)]; exact hmk.2.2.2.1), (by rw [oJ2 5 (by decide), eJ1, pk_us]), (by rw [eJ2, pk_us]), (fun p i hi => (up_i eJ2 oJ2 p i hi).trans ((up_i eJ1 oJ1 p i hi).trans (hmk.2.2.2.2.2.2.1 p i hi))), (fun p hp => by rw [oJ2 p (by omega), oJ1 p (by omega), hmk.2.2.2.2.2.2.2 p hp])⟩, hw⟩
theorem hmay {wt : Int32} {n : Nat} (c3 : n < 2147483648) (h : ¬ f_R_mayMake wt n = 0) : n < 12 := by
  unfold f_R_mayMake at h
  by_cases c : n < 12
  · exact c
  · exfalso; apply h
    rw [if_pos (show (12 : Int32) ≤ nI n from nI_le (a := 12) (b := n) (by omega) c3)]
    split <;> rfl
set_option maxHeartbeats 4000000 in
set_option maxRecDepth 100000 in
theorem c_R_atom (l : Launch) {K : KT} {ma : Nat → Nat} {n pl : Nat} {wt : Int32} {J : Nat → Nat → Int32} {X : Nat → Int64} (hD : mD K ma) (x a b : Int32) (hn31 : n < 2147483648) : Met l y_R_atom (Cond.code y_R_atom b_R_atom 4 (some Jvm.ClassFile.FieldType.int) :: WALL) { frames := 1, cells := 0, slots := 0, locals := 24 } (pc0 K [.ref (ma 0), .int x, .int a, .int b] (fun H => mW K ma n wt pl J X H)) (va_Qi (fun r H => ((¬ f_R_mayMake wt n = 0 ∧ ¬ x < 0 ∧ ¬ 2 < x ∧ ¬ f_R_isTerm a = 0 ∧ ¬ f_R_isTerm b = 0) → r = nI n ∧ ∃ J', mMk J J' n 0 x a b 0 (-1) ∧ mW K ma (n + 1) wt pl J' X H) ∧ (¬ (¬ f_R_mayMake wt n = 0 ∧ ¬ x < 0 ∧ ¬ 2 < x ∧ ¬ f_R_isTerm a = 0 ∧ ¬ f_R_isTerm b = 0) → r = -1 ∧ mW K ma n wt pl J X H)) (fun u t => t.heap = u) (mA ma)) 0 0 (mA ma) := by
  refine met0 (own := "MetricLogMonitorModel") (by decide) rfl (Nat.le_of_ble_eq_true rfl) (fun p e s m below meth c ls S hr hk hnm hC hH hl => ?_)
  have hl : lv_has ls 4 [(0, .ref (ma 0)), (1, .int x), (2, .int a), (3, .int b)] := hl
  have hS : va_S (mA ma) s.heap s.heap [] := va_S.rf
  have hA : ∀ q, (mA ma) q → kz K ≤ q := fun q h => by obtain ⟨i, hi, rfl⟩ := h; exact hD.2 i hi
  have hw := hH
  refine lv_aload_n S.1 S.2.1 d_R_atom_0 rfl (lv_at hl 0 rfl) ?_
  refine kVi (rest := []) S (c_R_mayMake l) kc_R_mayMake ⟨q_750, q_752, qp_6⟩ rfl rfl ⟨Nat.le_of_ble_eq_true rfl, Nat.le_of_ble_eq_true rfl⟩ hC hS hA hw ⟨11, _, _, _, rfl, hw.1⟩ ⟨Nat.zero_le _, Nat.zero_le _⟩ hl.1 rfl rfl (Nat.le_of_ble_eq_true rfl) d_R_atom_1 (fun r er => ?_)
  subst er
  refine lv_if_eq (tgt := 41) S.1 S.2.1 d_R_atom_4 (by decide) (fun hbr1 => ?_) (fun hbr1 => ?_)
  · refine lv_iconst (v := (-1)) S.1 S.2.1 d_R_atom_41 (by decide) ?_
    exact rw_i S hr hk hS d_R_atom_42 ⟨fun h => absurd hbr1 h.1, fun _ => ⟨rfl, hw⟩⟩
  · refine lv_iload_n S.1 S.2.1 d_R_atom_7 rfl (lv_at hl 1 rfl) ?_
    refine lv_if_lt (tgt := 41) S.1 S.2.1 d_R_atom_8 (by decide) (fun hbr2 => ?_) (fun hbr2 => ?_)
    · refine lv_iconst (v := (-1)) S.1 S.2.1 d_R_atom_41 (by decide) ?_
      exact rw_i S hr hk hS d_R_atom_42 ⟨fun h => absurd hbr2 h.2.1, fun _ => ⟨rfl, hw⟩⟩
    · refine lv_iload_n S.1 S.2.1 d_R_atom_11 rfl (lv_at hl 1 rfl) ?_
      refine lv_iconst (v := 2) S.1 S.2.1 d_R_atom_12 (by decide) ?_
      refine lv_icmp_gt (tgt := 41) S.1 S.2.1 d_R_atom_13 (by decide) (fun hbr3 => ?_) (fun hbr3 => ?_)
      · refine lv_iconst (v := (-1)) S.1 S.2.1 d_R_atom_41 (by decide) ?_
        exact rw_i S hr hk hS d_R_atom_42 ⟨fun h => absurd hbr3 h.2.2.1, fun _ => ⟨rfl, hw⟩⟩
      · refine lv_iload_n S.1 S.2.1 d_R_atom_16 rfl (lv_at hl 2 rfl) ?_
        refine kSi (rest := []) S (c_R_isTerm l a) kc_R_isTerm ⟨q_754, q_755⟩ rfl rfl ⟨Nat.le_of_ble_eq_true rfl, Nat.le_of_ble_eq_true rfl⟩ hC hS hA trivial ⟨Nat.zero_le _, Nat.zero_le _⟩ hl.1 rfl rfl (Nat.le_of_ble_eq_true rfl) d_R_atom_17 (fun r er => ?_)
        subst er
        refine lv_if_eq (tgt := 41) S.1 S.2.1 d_R_atom_20 (by decide) (fun hbr4 => ?_) (fun hbr4 => ?_)
        · refine lv_iconst (v := (-1)) S.1 S.2.1 d_R_atom_41 (by decide) ?_
          exact rw_i S hr hk hS d_R_atom_42 ⟨fun h => absurd hbr4 h.2.2.2.1, fun _ => ⟨rfl, hw⟩⟩
        · refine lv_iload_n S.1 S.2.1 d_R_atom_23 rfl (lv_at hl 3 rfl) ?_
          refine kSi (rest := []) S (c_R_isTerm l b) kc_R_isTerm ⟨q_754, q_755⟩ rfl rfl ⟨Nat.le_of_ble_eq_true rfl, Nat.le_of_ble_eq_true rfl⟩ hC hS hA trivial ⟨Nat.zero_le _, Nat.zero_le _⟩ hl.1 rfl rfl (Nat.le_of_ble_eq_true rfl) d_R_atom_24 (fun r er => ?_)
          subst er
          refine lv_if_eq (tgt := 41) S.1 S.2.1 d_R_atom_27 (by decide) (fun hbr5 => ?_) (fun hbr5 => ?_)
          · refine lv_iconst (v := (-1)) S.1 S.2.1 d_R_atom_41 (by decide) ?_
            exact rw_i S hr hk hS d_R_atom_42 ⟨fun h => absurd hbr5 h.2.2.2.2, fun _ => ⟨rfl, hw⟩⟩
          · refine lv_aload_n S.1 S.2.1 d_R_atom_30 rfl (lv_at hl 0 rfl) ?_
            refine lv_iconst (v := 0) S.1 S.2.1 d_R_atom_31 (by decide) ?_
            refine lv_iload_n S.1 S.2.1 d_R_atom_32 rfl (lv_at hl 1 rfl) ?_
            refine lv_iload_n S.1 S.2.1 d_R_atom_33 rfl (lv_at hl 2 rfl) ?_
            refine lv_iload_n S.1 S.2.1 d_R_atom_34 rfl (lv_at hl 3 rfl) ?_
            refine kw_i (A := mA ma) (k_V (rest := []) S (c_R_make l hD 0 x a b (hmay hn31 hbr1)) kc_R_make ⟨q_757, q_759, qp_7⟩ rfl rfl ⟨Nat.le_of_ble_eq_true rfl, Nat.le_of_ble_eq_true rfl⟩ hC hS hA hw ⟨11, _, _, _, rfl, hw.1⟩ rfl hl.1 rfl (Nat.le_of_ble_eq_true rfl) ⟨Nat.zero_le _, Nat.zero_le _⟩ d_R_atom_35) hS (fun q h => h) (fun r H locs er hz hkp hS => ?_)
            refine lv_goto (tgt := 42) S.1 S.2.1 d_R_atom_38 (by decide) ?_
            exact rw_i S hr hk hS d_R_atom_42 ⟨fun _ => er, fun z => absurd ⟨hbr1, hbr2, hbr3, hbr4, hbr5⟩ z⟩
set_option maxHeartbeats 4000000 in
set_option maxRecDepth 100000 in
theorem c_R_compare (l : Launch) {K : KT} {ma : Nat → Nat} {n pl : Nat} {wt : Int32} {J : Nat → Nat → Int32} {X : Nat → Int64} (hD : mD K ma) (less a b : Int32) (hn31 : n < 2147483648) : Met l y_R_compare (Cond.code y_R_compare b_R_compare 4 (some Jvm.ClassFile.FieldType.int) :: WALL) { frames := 1, cells := 0, slots := 0, locals := 24 } (pc0 K [.ref (ma 0), .int less, .int a, .int b] (fun H => mW K ma n wt pl J X H)) (va_Qi (fun r H => ((¬ f_R_mayMake wt n = 0 ∧ ¬ f_R_isTerm a = 0 ∧ ¬ f_R_isTerm b = 0) → r = nI n ∧ ∃ J', mMk J J' n (if less = 0 then 1 else 2) 0 a b 0 (-1) ∧ mW K ma (n + 1) wt pl J' X H) ∧ (¬ (¬ f_R_mayMake wt n = 0 ∧ ¬ f_R_isTerm a = 0 ∧ ¬ f_R_isTerm b = 0) → r = -1 ∧ mW K ma n wt pl J X H)) (fun u t => t.heap = u) (mA ma)) 0 0 (mA ma) := by
  refine met0 (own := "MetricLogMonitorModel") (by decide) rfl (Nat.le_of_ble_eq_true rfl) (fun p e s m below meth c ls S hr hk hnm hC hH hl => ?_)
  have hl : lv_has ls 4 [(0, .ref (ma 0)), (1, .int less), (2, .int a), (3, .int b)] := hl
  have hS : va_S (mA ma) s.heap s.heap [] := va_S.rf
  have hA : ∀ q, (mA ma) q → kz K ≤ q := fun q h => by obtain ⟨i, hi, rfl⟩ := h; exact hD.2 i hi
  have hw := hH
  refine lv_aload_n S.1 S.2.1 d_R_compare_0 rfl (lv_at hl 0 rfl) ?_
  refine kVi (rest := []) S (c_R_mayMake l) kc_R_mayMake ⟨q_750, q_752, qp_6⟩ rfl rfl ⟨Nat.le_of_ble_eq_true rfl, Nat.le_of_ble_eq_true rfl⟩ hC hS hA hw ⟨11, _, _, _, rfl, hw.1⟩ ⟨Nat.zero_le _, Nat.zero_le _⟩ hl.1 rfl rfl (Nat.le_of_ble_eq_true rfl) d_R_compare_1 (fun r er => ?_)
  subst er
  refine lv_if_eq (tgt := 40) S.1 S.2.1 d_R_compare_4 (by decide) (fun hbr1 => ?_) (fun hbr1 => ?_)
  · refine lv_iconst (v := (-1)) S.1 S.2.1 d_R_compare_40 (by decide) ?_
    exact rw_i S hr hk hS d_R_compare_41 ⟨fun h => absurd hbr1 h.1, fun _ => ⟨rfl, hw⟩⟩
  · refine lv_iload_n S.1 S.2.1 d_R_compare_7 rfl (lv_at hl 2 rfl) ?_
    refine kSi (rest := []) S (c_R_isTerm l a) kc_R_isTerm ⟨q_754, q_755⟩ rfl rfl ⟨Nat.le_of_ble_eq_true rfl, Nat.le_of_ble_eq_true rfl⟩ hC hS hA trivial ⟨Nat.zero_le _, Nat.zero_le _⟩ hl.1 rfl rfl (Nat.le_of_ble_eq_true rfl) d_R_compare_8 (fun r er => ?_)
    subst er
    refine lv_if_eq (tgt := 40) S.1 S.2.1 d_R_compare_11 (by decide) (fun hbr2 => ?_) (fun hbr2 => ?_)
    · refine lv_iconst (v := (-1)) S.1 S.2.1 d_R_compare_40 (by decide) ?_
      exact rw_i S hr hk hS d_R_compare_41 ⟨fun h => absurd hbr2 h.2.1, fun _ => ⟨rfl, hw⟩⟩
    · refine lv_iload_n S.1 S.2.1 d_R_compare_14 rfl (lv_at hl 3 rfl) ?_
      refine kSi (rest := []) S (c_R_isTerm l b) kc_R_isTerm ⟨q_754, q_755⟩ rfl rfl ⟨Nat.le_of_ble_eq_true rfl, Nat.le_of_ble_eq_true rfl⟩ hC hS hA trivial ⟨Nat.zero_le _, Nat.zero_le _⟩ hl.1 rfl rfl (Nat.le_of_ble_eq_true rfl) d_R_compare_15 (fun r er => ?_)
      subst er
      refine lv_if_eq (tgt := 40) S.1 S.2.1 d_R_compare_18 (by decide) (fun hbr3 => ?_) (fun hbr3 => ?_)
      · refine lv_iconst (v := (-1)) S.1 S.2.1 d_R_compare_40 (by decide) ?_
        exact rw_i S hr hk hS d_R_compare_41 ⟨fun h => absurd hbr3 h.2.2, fun _ => ⟨rfl, hw⟩⟩
      · refine lv_aload_n S.1 S.2.1 d_R_compare_21 rfl (lv_at hl 0 rfl) ?_
        refine lv_iload_n S.1 S.2.1 d_R_compare_22 rfl (lv_at hl 1 rfl) ?_
        refine lv_if_eq (tgt := 30) S.1 S.2.1 d_R_compare_23 (by decide) (fun hbr4 => ?_) (fun hbr4 => ?_)
        · refine lv_iconst (v := 1) S.1 S.2.1 d_R_compare_30 (by decide) ?_
          refine lv_iconst (v := 0) S.1 S.2.1 d_R_compare_31 (by decide) ?_
          refine lv_iload_n S.1 S.2.1 d_R_compare_32 rfl (lv_at hl 2 rfl) ?_
          refine lv_iload_n S.1 S.2.1 d_R_compare_33 rfl (lv_at hl 3 rfl) ?_
          refine kw_i (A := mA ma) (k_V (rest := []) S (c_R_make l hD 1 0 a b (hmay hn31 hbr1)) kc_R_make ⟨q_757, q_759, qp_7⟩ rfl rfl ⟨Nat.le_of_ble_eq_true rfl, Nat.le_of_ble_eq_true rfl⟩ hC hS hA hw ⟨11, _, _, _, rfl, hw.1⟩ rfl hl.1 rfl (Nat.le_of_ble_eq_true rfl) ⟨Nat.zero_le _, Nat.zero_le _⟩ d_R_compare_34) hS (fun q h => h) (fun r H locs er hz hkp hS => ?_)
          refine lv_goto (tgt := 41) S.1 S.2.1 d_R_compare_37 (by decide) ?_
          exact rw_i S hr hk hS d_R_compare_41 ⟨fun _ => (by rw [if_pos hbr4]; exact er), fun z => absurd ⟨hbr1, hbr2, hbr3⟩ z⟩
        · refine lv_iconst (v := 2) S.1 S.2.1 d_R_compare_26 (by decide) ?_
          refine lv_goto (tgt := 31) S.1 S.2.1 d_R_compare_27 (by decide) ?_
          refine lv_iconst (v := 0) S.1 S.2.1 d_R_compare_31 (by decide) ?_
          refine lv_iload_n S.1 S.2.1 d_R_compare_32 rfl (lv_at hl 2 rfl) ?_
          refine lv_iload_n S.1 S.2.1 d_R_compare_33 rfl (lv_at hl 3 rfl) ?_
          refine kw_i (A := mA ma) (k_V (rest := []) S (c_R_make l hD 2 0 a b (hmay hn31 hbr1)) kc_R_make ⟨q_757, q_759, qp_7⟩ rfl rfl ⟨Nat.le_of_ble_eq_true rfl, Nat.le_of_ble_eq_true rfl⟩ hC hS hA hw ⟨11, _, _, _, rfl, hw.1⟩ rfl hl.1 rfl (Nat.le_of_ble_eq_true rfl) ⟨Nat.zero_le _, Nat.zero_le _⟩ d_R_compare_34) hS (fun q h => h) (fun r H locs er hz hkp hS => ?_)
          refine lv_goto (tgt := 41) S.1 S.2.1 d_R_compare_37 (by decide) ?_
          exact rw_i S hr hk hS d_R_compare_41 ⟨fun _ => (by rw [if_neg hbr4]; exact er), fun z => absurd ⟨hbr1, hbr2, hbr3⟩ z⟩
set_option maxHeartbeats 4000000 in
set_option maxRecDepth 100000 in
theorem c_R_not (l : Launch) {K : KT} {ma : Nat → Nat} {n pl : Nat} {wt : Int32} {J : Nat → Nat → Int32} {X : Nat → Int64} (hD : mD K ma) (f : Int32) (hn31 : n < 2147483648) : Met l y_R_not (Cond.code y_R_not b_R_not 2 (some Jvm.ClassFile.FieldType.int) :: WALL) { frames := 1, cells := 0, slots := 0, locals := 24 } (pc0 K [.ref (ma 0), .int f] (fun H => mW K ma n wt pl J X H)) (va_Qi (fun r H => ((¬ f_R_mayMake wt n = 0 ∧ ¬ f_R_isFormula n f = 0) → r = nI n ∧ ∃ J', mMk J J' n 3 0 f f 0 (-1) ∧ mW K ma (n + 1) wt pl J' X H) ∧ (¬ (¬ f_R_mayMake wt n = 0 ∧ ¬ f_R_isFormula n f = 0) → r = -1 ∧ mW K ma n wt pl J X H)) (fun u t => t.heap = u) (mA ma)) 0 0 (mA ma) := by
  refine met0 (own := "MetricLogMonitorModel") (by decide) rfl (Nat.le_of_ble_eq_true rfl) (fun p e s m below meth c ls S hr hk hnm hC hH hl => ?_)
  have hl : lv_has ls 2 [(0, .ref (ma 0)), (1, .int f)] := hl
  have hS : va_S (mA ma) s.heap s.heap [] := va_S.rf
  have hA : ∀ q, (mA ma) q → kz K ≤ q := fun q h => by obtain ⟨i, hi, rfl⟩ := h; exact hD.2 i hi
  have hw := hH
  refine lv_aload_n S.1 S.2.1 d_R_not_0 rfl (lv_at hl 0 rfl) ?_
  refine kVi (rest := []) S (c_R_mayMake l) kc_R_mayMake ⟨q_750, q_752, qp_6⟩ rfl rfl ⟨Nat.le_of_ble_eq_true rfl, Nat.le_of_ble_eq_true rfl⟩ hC hS hA hw ⟨11, _, _, _, rfl, hw.1⟩ ⟨Nat.zero_le _, Nat.zero_le _⟩ hl.1 rfl rfl (Nat.le_of_ble_eq_true rfl) d_R_not_1 (fun r er => ?_)
  subst er
  refine lv_if_eq (tgt := 26) S.1 S.2.1 d_R_not_4 (by decide) (fun hbr1 => ?_) (fun hbr1 => ?_)
  · refine lv_iconst (v := (-1)) S.1 S.2.1 d_R_not_26 (by decide) ?_
    exact rw_i S hr hk hS d_R_not_27 ⟨fun h => absurd hbr1 h.1, fun _ => ⟨rfl, hw⟩⟩
  · refine lv_aload_n S.1 S.2.1 d_R_not_7 rfl (lv_at hl 0 rfl) ?_
    refine lv_iload_n S.1 S.2.1 d_R_not_8 rfl (lv_at hl 1 rfl) ?_
    refine kVi (rest := []) S (c_R_isFormula l f) kc_R_isFormula ⟨q_769, q_771, qp_8⟩ rfl rfl ⟨Nat.le_of_ble_eq_true rfl, Nat.le_of_ble_eq_true rfl⟩ hC hS hA hw ⟨11, _, _, _, rfl, hw.1⟩ ⟨Nat.zero_le _, Nat.zero_le _⟩ hl.1 rfl rfl (Nat.le_of_ble_eq_true rfl) d_R_not_9 (fun r er => ?_)
    subst er
    refine lv_if_eq (tgt := 26) S.1 S.2.1 d_R_not_12 (by decide) (fun hbr2 => ?_) (fun hbr2 => ?_)
    · refine lv_iconst (v := (-1)) S.1 S.2.1 d_R_not_26 (by decide) ?_
      exact rw_i S hr hk hS d_R_not_27 ⟨fun h => absurd hbr2 h.2, fun _ => ⟨rfl, hw⟩⟩
    · refine lv_aload_n S.1 S.2.1 d_R_not_15 rfl (lv_at hl 0 rfl) ?_
      refine lv_iconst (v := 3) S.1 S.2.1 d_R_not_16 (by decide) ?_
      refine lv_iconst (v := 0) S.1 S.2.1 d_R_not_17 (by decide) ?_
      refine lv_iload_n S.1 S.2.1 d_R_not_18 rfl (lv_at hl 1 rfl) ?_
      refine lv_iload_n S.1 S.2.1 d_R_not_19 rfl (lv_at hl 1 rfl) ?_
      refine kw_i (A := mA ma) (k_V (rest := []) S (c_R_make l hD 3 0 f f (hmay hn31 hbr1)) kc_R_make ⟨q_757, q_759, qp_7⟩ rfl rfl ⟨Nat.le_of_ble_eq_true rfl, Nat.le_of_ble_eq_true rfl⟩ hC hS hA hw ⟨11, _, _, _, rfl, hw.1⟩ rfl hl.1 rfl (Nat.le_of_ble_eq_true rfl) ⟨Nat.zero_le _, Nat.zero_le _⟩ d_R_not_20) hS (fun q h => h) (fun r H locs er hz hkp hS => ?_)
      refine lv_goto (tgt := 27) S.1 S.2.1 d_R_not_23 (by decide) ?_
      exact rw_i S hr hk hS d_R_not_27 ⟨fun _ => er, fun z => absurd ⟨hbr1, hbr2⟩ z⟩
set_option maxHeartbeats 4000000 in
set_option maxRecDepth 100000 in
theorem c_R_join (l : Launch) {K : KT} {ma : Nat → Nat} {n pl : Nat} {wt : Int32} {J : Nat → Nat → Int32} {X : Nat → Int64} (hD : mD K ma) (both f g : Int32) (hn31 : n < 2147483648) : Met l y_R_join (Cond.code y_R_join b_R_join 4 (some Jvm.ClassFile.FieldType.int) :: WALL) { frames := 1, cells := 0, slots := 0, locals := 24 } (pc0 K [.ref (ma 0), .int both, .int f, .int g] (fun H => mW K ma n wt pl J X H)) (va_Qi (fun r H => ((¬ f_R_mayMake wt n = 0 ∧ ¬ f_R_isFormula n f = 0 ∧ ¬ f_R_isFormula n g = 0) → r = nI n ∧ ∃ J', mMk J J' n (if both = 0 then 5 else 4) 0 f g 0 (-1) ∧ mW K ma (n + 1) wt pl J' X H) ∧ (¬ (¬ f_R_mayMake wt n = 0 ∧ ¬ f_R_isFormula n f = 0 ∧ ¬ f_R_isFormula n g = 0) → r = -1 ∧ mW K ma n wt pl J X H)) (fun u t => t.heap = u) (mA ma)) 0 0 (mA ma) := by
  refine met0 (own := "MetricLogMonitorModel") (by decide) rfl (Nat.le_of_ble_eq_true rfl) (fun p e s m below meth c ls S hr hk hnm hC hH hl => ?_)
  have hl : lv_has ls 4 [(0, .ref (ma 0)), (1, .int both), (2, .int f), (3, .int g)] := hl
  have hS : va_S (mA ma) s.heap s.heap [] := va_S.rf
  have hA : ∀ q, (mA ma) q → kz K ≤ q := fun q h => by obtain ⟨i, hi, rfl⟩ := h; exact hD.2 i hi
  have hw := hH
  refine lv_aload_n S.1 S.2.1 d_R_join_0 rfl (lv_at hl 0 rfl) ?_
  refine kVi (rest := []) S (c_R_mayMake l) kc_R_mayMake ⟨q_750, q_752, qp_6⟩ rfl rfl ⟨Nat.le_of_ble_eq_true rfl, Nat.le_of_ble_eq_true rfl⟩ hC hS hA hw ⟨11, _, _, _, rfl, hw.1⟩ ⟨Nat.zero_le _, Nat.zero_le _⟩ hl.1 rfl rfl (Nat.le_of_ble_eq_true rfl) d_R_join_1 (fun r er => ?_)
  subst er
  refine lv_if_eq (tgt := 42) S.1 S.2.1 d_R_join_4 (by decide) (fun hbr1 => ?_) (fun hbr1 => ?_)
  · refine lv_iconst (v := (-1)) S.1 S.2.1 d_R_join_42 (by decide) ?_
    exact rw_i S hr hk hS d_R_join_43 ⟨fun h => absurd hbr1 h.1, fun _ => ⟨rfl, hw⟩⟩
  · refine lv_aload_n S.1 S.2.1 d_R_join_7 rfl (lv_at hl 0 rfl) ?_
    refine lv_iload_n S.1 S.2.1 d_R_join_8 rfl (lv_at hl 2 rfl) ?_
    refine kVi (rest := []) S (c_R_isFormula l f) kc_R_isFormula ⟨q_769, q_771, qp_8⟩ rfl rfl ⟨Nat.le_of_ble_eq_true rfl, Nat.le_of_ble_eq_true rfl⟩ hC hS hA hw ⟨11, _, _, _, rfl, hw.1⟩ ⟨Nat.zero_le _, Nat.zero_le _⟩ hl.1 rfl rfl (Nat.le_of_ble_eq_true rfl) d_R_join_9 (fun r er => ?_)
    subst er
    refine lv_if_eq (tgt := 42) S.1 S.2.1 d_R_join_12 (by decide) (fun hbr2 => ?_) (fun hbr2 => ?_)
    · refine lv_iconst (v := (-1)) S.1 S.2.1 d_R_join_42 (by decide) ?_
      exact rw_i S hr hk hS d_R_join_43 ⟨fun h => absurd hbr2 h.2.1, fun _ => ⟨rfl, hw⟩⟩
    · refine lv_aload_n S.1 S.2.1 d_R_join_15 rfl (lv_at hl 0 rfl) ?_
      refine lv_iload_n S.1 S.2.1 d_R_join_16 rfl (lv_at hl 3 rfl) ?_
      refine kVi (rest := []) S (c_R_isFormula l g) kc_R_isFormula ⟨q_769, q_771, qp_8⟩ rfl rfl ⟨Nat.le_of_ble_eq_true rfl, Nat.le_of_ble_eq_true rfl⟩ hC hS hA hw ⟨11, _, _, _, rfl, hw.1⟩ ⟨Nat.zero_le _, Nat.zero_le _⟩ hl.1 rfl rfl (Nat.le_of_ble_eq_true rfl) d_R_join_17 (fun r er => ?_)
      subst er
      refine lv_if_eq (tgt := 42) S.1 S.2.1 d_R_join_20 (by decide) (fun hbr3 => ?_) (fun hbr3 => ?_)
      · refine lv_iconst (v := (-1)) S.1 S.2.1 d_R_join_42 (by decide) ?_
        exact rw_i S hr hk hS d_R_join_43 ⟨fun h => absurd hbr3 h.2.2, fun _ => ⟨rfl, hw⟩⟩
      · refine lv_aload_n S.1 S.2.1 d_R_join_23 rfl (lv_at hl 0 rfl) ?_
        refine lv_iload_n S.1 S.2.1 d_R_join_24 rfl (lv_at hl 1 rfl) ?_
        refine lv_if_eq (tgt := 32) S.1 S.2.1 d_R_join_25 (by decide) (fun hbr4 => ?_) (fun hbr4 => ?_)
        · refine lv_iconst (v := 5) S.1 S.2.1 d_R_join_32 (by decide) ?_
          refine lv_iconst (v := 0) S.1 S.2.1 d_R_join_33 (by decide) ?_
          refine lv_iload_n S.1 S.2.1 d_R_join_34 rfl (lv_at hl 2 rfl) ?_
          refine lv_iload_n S.1 S.2.1 d_R_join_35 rfl (lv_at hl 3 rfl) ?_
          refine kw_i (A := mA ma) (k_V (rest := []) S (c_R_make l hD 5 0 f g (hmay hn31 hbr1)) kc_R_make ⟨q_757, q_759, qp_7⟩ rfl rfl ⟨Nat.le_of_ble_eq_true rfl, Nat.le_of_ble_eq_true rfl⟩ hC hS hA hw ⟨11, _, _, _, rfl, hw.1⟩ rfl hl.1 rfl (Nat.le_of_ble_eq_true rfl) ⟨Nat.zero_le _, Nat.zero_le _⟩ d_R_join_36) hS (fun q h => h) (fun r H locs er hz hkp hS => ?_)
          refine lv_goto (tgt := 43) S.1 S.2.1 d_R_join_39 (by decide) ?_
          exact rw_i S hr hk hS d_R_join_43 ⟨fun _ => (by rw [if_pos hbr4]; exact er), fun z => absurd ⟨hbr1, hbr2, hbr3⟩ z⟩
        · refine lv_iconst (v := 4) S.1 S.2.1 d_R_join_28 (by decide) ?_
          refine lv_goto (tgt := 33) S.1 S.2.1 d_R_join_29 (by decide) ?_
          refine lv_iconst (v := 0) S.1 S.2.1 d_R_join_33 (by decide) ?_
          refine lv_iload_n S.1 S.2.1 d_R_join_34 rfl (lv_at hl 2 rfl) ?_
          refine lv_iload_n S.1 S.2.1 d_R_join_35 rfl (lv_at hl 3 rfl) ?_
          refine kw_i (A := mA ma) (k_V (rest := []) S (c_R_make l hD 4 0 f g (hmay hn31 hbr1)) kc_R_make ⟨q_757, q_759, qp_7⟩ rfl rfl ⟨Nat.le_of_ble_eq_true rfl, Nat.le_of_ble_eq_true rfl⟩ hC hS hA hw ⟨11, _, _, _, rfl, hw.1⟩ rfl hl.1 rfl (Nat.le_of_ble_eq_true rfl) ⟨Nat.zero_le _, Nat.zero_le _⟩ d_R_join_36) hS (fun q h => h) (fun r H locs er hz hkp hS => ?_)
          refine lv_goto (tgt := 43) S.1 S.2.1 d_R_join_39 (by decide) ?_
          exact rw_i S hr hk hS d_R_join_43 ⟨fun _ => (by rw [if_neg hbr4]; exact er), fun z => absurd ⟨hbr1, hbr2, hbr3⟩ z⟩
set_option maxHeartbeats 4000000 in
set_option maxRecDepth 100000 in
theorem c_R_exists (l : Launch) {K : KT} {ma : Nat → Nat} {n pl : Nat} {wt : Int32} {J : Nat → Nat → Int32} {X : Nat → Int64} (hD : mD K ma) (v f : Int32) (hn31 : n < 2147483648) : Met l y_R_exists (Cond.code y_R_exists b_R_exists 3 (some Jvm.ClassFile.FieldType.int) :: WALL) { frames := 1, cells := 0, slots := 0, locals := 24 } (pc0 K [.ref (ma 0), .int v, .int f] (fun H => mW K ma n wt pl J X H)) (va_Qi (fun r H => ((¬ f_R_mayMake wt n = 0 ∧ ¬ v < 0 ∧ ¬ 2 < v ∧ ¬ f_R_isFormula n f = 0) → r = nI n ∧ ∃ J', mMk J J' n 6 v f f 0 (-1) ∧ mW K ma (n + 1) wt pl J' X H) ∧ (¬ (¬ f_R_mayMake wt n = 0 ∧ ¬ v < 0 ∧ ¬ 2 < v ∧ ¬ f_R_isFormula n f = 0) → r = -1 ∧ mW K ma n wt pl J X H)) (fun u t => t.heap = u) (mA ma)) 0 0 (mA ma) := by
  refine met0 (own := "MetricLogMonitorModel") (by decide) rfl (Nat.le_of_ble_eq_true rfl) (fun p e s m below meth c ls S hr hk hnm hC hH hl => ?_)
  have hl : lv_has ls 3 [(0, .ref (ma 0)), (1, .int v), (2, .int f)] := hl
  have hS : va_S (mA ma) s.heap s.heap [] := va_S.rf
  have hA : ∀ q, (mA ma) q → kz K ≤ q := fun q h => by obtain ⟨i, hi, rfl⟩ := h; exact hD.2 i hi
  have hw := hH
  refine lv_aload_n S.1 S.2.1 d_R_exists_0 rfl (lv_at hl 0 rfl) ?_
  refine kVi (rest := []) S (c_R_mayMake l) kc_R_mayMake ⟨q_750, q_752, qp_6⟩ rfl rfl ⟨Nat.le_of_ble_eq_true rfl, Nat.le_of_ble_eq_true rfl⟩ hC hS hA hw ⟨11, _, _, _, rfl, hw.1⟩ ⟨Nat.zero_le _, Nat.zero_le _⟩ hl.1 rfl rfl (Nat.le_of_ble_eq_true rfl) d_R_exists_1 (fun r er => ?_)
  subst er
  refine lv_if_eq (tgt := 36) S.1 S.2.1 d_R_exists_4 (by decide) (fun hbr1 => ?_) (fun hbr1 => ?_)
  · refine lv_iconst (v := (-1)) S.1 S.2.1 d_R_exists_36 (by decide) ?_
    exact rw_i S hr hk hS d_R_exists_37 ⟨fun h => absurd hbr1 h.1, fun _ => ⟨rfl, hw⟩⟩
  · refine lv_iload_n S.1 S.2.1 d_R_exists_7 rfl (lv_at hl 1 rfl) ?_
    refine lv_if_lt (tgt := 36) S.1 S.2.1 d_R_exists_8 (by decide) (fun hbr2 => ?_) (fun hbr2 => ?_)
    · refine lv_iconst (v := (-1)) S.1 S.2.1 d_R_exists_36 (by decide) ?_
      exact rw_i S hr hk hS d_R_exists_37 ⟨fun h => absurd hbr2 h.2.1, fun _ => ⟨rfl, hw⟩⟩
    · refine lv_iload_n S.1 S.2.1 d_R_exists_11 rfl (lv_at hl 1 rfl) ?_
      refine lv_iconst (v := 2) S.1 S.2.1 d_R_exists_12 (by decide) ?_
      refine lv_icmp_gt (tgt := 36) S.1 S.2.1 d_R_exists_13 (by decide) (fun hbr3 => ?_) (fun hbr3 => ?_)
      · refine lv_iconst (v := (-1)) S.1 S.2.1 d_R_exists_36 (by decide) ?_
        exact rw_i S hr hk hS d_R_exists_37 ⟨fun h => absurd hbr3 h.2.2.1, fun _ => ⟨rfl, hw⟩⟩
      · refine lv_aload_n S.1 S.2.1 d_R_exists_16 rfl (lv_at hl 0 rfl) ?_
        refine lv_iload_n S.1 S.2.1 d_R_exists_17 rfl (lv_at hl 2 rfl) ?_
        refine kVi (rest := []) S (c_R_isFormula l f) kc_R_isFormula ⟨q_769, q_771, qp_8⟩ rfl rfl ⟨Nat.le_of_ble_eq_true rfl, Nat.le_of_ble_eq_true rfl⟩ hC hS hA hw ⟨11, _, _, _, rfl, hw.1⟩ ⟨Nat.zero_le _, Nat.zero_le _⟩ hl.1 rfl rfl (Nat.le_of_ble_eq_true rfl) d_R_exists_18 (fun r er => ?_)
        subst er
        refine lv_if_eq (tgt := 36) S.1 S.2.1 d_R_exists_21 (by decide) (fun hbr4 => ?_) (fun hbr4 => ?_)
        · refine lv_iconst (v := (-1)) S.1 S.2.1 d_R_exists_36 (by decide) ?_
          exact rw_i S hr hk hS d_R_exists_37 ⟨fun h => absurd hbr4 h.2.2.2, fun _ => ⟨rfl, hw⟩⟩
        · refine lv_aload_n S.1 S.2.1 d_R_exists_24 rfl (lv_at hl 0 rfl) ?_
          refine lv_bipush (v := 6) S.1 S.2.1 d_R_exists_25 (by decide) ?_
          refine lv_iload_n S.1 S.2.1 d_R_exists_27 rfl (lv_at hl 1 rfl) ?_
          refine lv_iload_n S.1 S.2.1 d_R_exists_28 rfl (lv_at hl 2 rfl) ?_
          refine lv_iload_n S.1 S.2.1 d_R_exists_29 rfl (lv_at hl 2 rfl) ?_
          refine kw_i (A := mA ma) (k_V (rest := []) S (c_R_make l hD 6 v f f (hmay hn31 hbr1)) kc_R_make ⟨q_757, q_759, qp_7⟩ rfl rfl ⟨Nat.le_of_ble_eq_true rfl, Nat.le_of_ble_eq_true rfl⟩ hC hS hA hw ⟨11, _, _, _, rfl, hw.1⟩ rfl hl.1 rfl (Nat.le_of_ble_eq_true rfl) ⟨Nat.zero_le _, Nat.zero_le _⟩ d_R_exists_30) hS (fun q h => h) (fun r H locs er hz hkp hS => ?_)
          refine lv_goto (tgt := 37) S.1 S.2.1 d_R_exists_33 (by decide) ?_
          exact rw_i S hr hk hS d_R_exists_37 ⟨fun _ => er, fun z => absurd ⟨hbr1, hbr2, hbr3, hbr4⟩ z⟩
set_option maxHeartbeats 4000000 in
set_option maxRecDepth 100000 in
theorem c_R_previous (l : Launch) {K : KT} {ma : Nat → Nat} {n pl : Nat} {wt : Int32} {J : Nat → Nat → Int32} {X : Nat → Int64} (hD : mD K ma) (x y f : Int32) (hn31 : n < 2147483648) : Met l y_R_previous (Cond.code y_R_previous b_R_previous 4 (some Jvm.ClassFile.FieldType.int) :: WALL) { frames := 2, cells := 0, slots := 0, locals := 50 } (pc0 K [.ref (ma 0), .int x, .int y, .int f] (fun H => mW K ma n wt pl J X H)) (va_Qi (fun r H => ((¬ f_R_mayMake wt n = 0 ∧ ¬ f_R_isInterval x y 1 = 0 ∧ ¬ f_R_isFormula n f = 0) → r = nI n ∧ ∃ J', mMk J J' n 7 0 f f x y ∧ mW K ma (n + 1) wt pl J' X H) ∧ (¬ (¬ f_R_mayMake wt n = 0 ∧ ¬ f_R_isInterval x y 1 = 0 ∧ ¬ f_R_isFormula n f = 0) → r = -1 ∧ mW K ma n wt pl J X H)) (fun u t => t.heap = u) (mA ma)) 0 0 (mA ma) := by
  refine met0 (own := "MetricLogMonitorModel") (by decide) rfl (Nat.le_of_ble_eq_true rfl) (fun p e s m below meth c ls S hr hk hnm hC hH hl => ?_)
  have hl : lv_has ls 4 [(0, .ref (ma 0)), (1, .int x), (2, .int y), (3, .int f)] := hl
  have hS : va_S (mA ma) s.heap s.heap [] := va_S.rf
  have hA : ∀ q, (mA ma) q → kz K ≤ q := fun q h => by obtain ⟨i, hi, rfl⟩ := h; exact hD.2 i hi
  have hw := hH
  refine lv_aload_n S.1 S.2.1 d_R_previous_0 rfl (lv_at hl 0 rfl) ?_
  refine kVi (rest := []) S (c_R_mayMake l) kc_R_mayMake ⟨q_750, q_752, qp_6⟩ rfl rfl ⟨Nat.le_of_ble_eq_true rfl, Nat.le_of_ble_eq_true rfl⟩ hC hS hA hw ⟨11, _, _, _, rfl, hw.1⟩ ⟨Nat.zero_le _, Nat.zero_le _⟩ hl.1 rfl rfl (Nat.le_of_ble_eq_true rfl) d_R_previous_1 (fun r er => ?_)
  subst er
  refine lv_if_eq (tgt := 37) S.1 S.2.1 d_R_previous_4 (by decide) (fun hbr1 => ?_) (fun hbr1 => ?_)
  · refine lv_iconst (v := (-1)) S.1 S.2.1 d_R_previous_37 (by decide) ?_
    exact rw_i S hr hk hS d_R_previous_38 ⟨fun h => absurd hbr1 h.1, fun _ => ⟨rfl, hw⟩⟩
  · refine lv_iload_n S.1 S.2.1 d_R_previous_7 rfl (lv_at hl 1 rfl) ?_
    refine lv_iload_n S.1 S.2.1 d_R_previous_8 rfl (lv_at hl 2 rfl) ?_
    refine lv_iconst (v := 1) S.1 S.2.1 d_R_previous_9 (by decide) ?_
    refine kSi (rest := []) S (c_R_isInterval l x y 1) kc_R_isInterval ⟨q_785, q_786⟩ rfl rfl ⟨Nat.le_of_ble_eq_true rfl, Nat.le_of_ble_eq_true rfl⟩ hC hS hA trivial ⟨Nat.zero_le _, Nat.zero_le _⟩ hl.1 rfl rfl (Nat.le_of_ble_eq_true rfl) d_R_previous_10 (fun r er => ?_)
    subst er
    refine lv_if_eq (tgt := 37) S.1 S.2.1 d_R_previous_13 (by decide) (fun hbr2 => ?_) (fun hbr2 => ?_)
    · refine lv_iconst (v := (-1)) S.1 S.2.1 d_R_previous_37 (by decide) ?_
      exact rw_i S hr hk hS d_R_previous_38 ⟨fun h => absurd hbr2 h.2.1, fun _ => ⟨rfl, hw⟩⟩
    · refine lv_aload_n S.1 S.2.1 d_R_previous_16 rfl (lv_at hl 0 rfl) ?_
      refine lv_iload_n S.1 S.2.1 d_R_previous_17 rfl (lv_at hl 3 rfl) ?_
      refine kVi (rest := []) S (c_R_isFormula l f) kc_R_isFormula ⟨q_769, q_771, qp_8⟩ rfl rfl ⟨Nat.le_of_ble_eq_true rfl, Nat.le_of_ble_eq_true rfl⟩ hC hS hA hw ⟨11, _, _, _, rfl, hw.1⟩ ⟨Nat.zero_le _, Nat.zero_le _⟩ hl.1 rfl rfl (Nat.le_of_ble_eq_true rfl) d_R_previous_18 (fun r er => ?_)
      subst er
      refine lv_if_eq (tgt := 37) S.1 S.2.1 d_R_previous_21 (by decide) (fun hbr3 => ?_) (fun hbr3 => ?_)
      · refine lv_iconst (v := (-1)) S.1 S.2.1 d_R_previous_37 (by decide) ?_
        exact rw_i S hr hk hS d_R_previous_38 ⟨fun h => absurd hbr3 h.2.2, fun _ => ⟨rfl, hw⟩⟩
      · refine lv_aload_n S.1 S.2.1 d_R_previous_24 rfl (lv_at hl 0 rfl) ?_
        refine lv_bipush (v := 7) S.1 S.2.1 d_R_previous_25 (by decide) ?_
        refine lv_iload_n S.1 S.2.1 d_R_previous_27 rfl (lv_at hl 1 rfl) ?_
        refine lv_iload_n S.1 S.2.1 d_R_previous_28 rfl (lv_at hl 2 rfl) ?_
        refine lv_iload_n S.1 S.2.1 d_R_previous_29 rfl (lv_at hl 3 rfl) ?_
        refine lv_iload_n S.1 S.2.1 d_R_previous_30 rfl (lv_at hl 3 rfl) ?_
        refine kw_i (A := mA ma) (k_V (rest := []) S (c_R_makeTimed l hD 7 x y f f (hmay hn31 hbr1)) kc_R_makeTimed ⟨q_789, q_791, qp_9⟩ rfl rfl ⟨Nat.le_of_ble_eq_true rfl, Nat.le_of_ble_eq_true rfl⟩ hC hS hA hw ⟨11, _, _, _, rfl, hw.1⟩ rfl hl.1 rfl (Nat.le_of_ble_eq_true rfl) ⟨Nat.zero_le _, Nat.zero_le _⟩ d_R_previous_31) hS (fun q h => h) (fun r H locs er hz hkp hS => ?_)
        refine lv_goto (tgt := 38) S.1 S.2.1 d_R_previous_34 (by decide) ?_
        exact rw_i S hr hk hS d_R_previous_38 ⟨fun _ => er, fun z => absurd ⟨hbr1, hbr2, hbr3⟩ z⟩
set_option maxHeartbeats 4000000 in
set_option maxRecDepth 100000 in
theorem c_R_since (l : Launch) {K : KT} {ma : Nat → Nat} {n pl : Nat} {wt : Int32} {J : Nat → Nat → Int32} {X : Nat → Int64} (hD : mD K ma) (x y f g : Int32) (hn31 : n < 2147483648) : Met l y_R_since (Cond.code y_R_since b_R_since 5 (some Jvm.ClassFile.FieldType.int) :: WALL) { frames := 2, cells := 0, slots := 0, locals := 50 } (pc0 K [.ref (ma 0), .int x, .int y, .int f, .int g] (fun H => mW K ma n wt pl J X H)) (va_Qi (fun r H => ((¬ f_R_mayMake wt n = 0 ∧ ¬ f_R_isInterval x y 1 = 0 ∧ ¬ f_R_isFormula n f = 0 ∧ ¬ f_R_isFormula n g = 0) → r = nI n ∧ ∃ J', mMk J J' n 8 0 f g x y ∧ mW K ma (n + 1) wt pl J' X H) ∧ (¬ (¬ f_R_mayMake wt n = 0 ∧ ¬ f_R_isInterval x y 1 = 0 ∧ ¬ f_R_isFormula n f = 0 ∧ ¬ f_R_isFormula n g = 0) → r = -1 ∧ mW K ma n wt pl J X H)) (fun u t => t.heap = u) (mA ma)) 0 0 (mA ma) := by
  refine met0 (own := "MetricLogMonitorModel") (by decide) rfl (Nat.le_of_ble_eq_true rfl) (fun p e s m below meth c ls S hr hk hnm hC hH hl => ?_)
  have hl : lv_has ls 5 [(0, .ref (ma 0)), (1, .int x), (2, .int y), (3, .int f), (4, .int g)] := hl
  have hS : va_S (mA ma) s.heap s.heap [] := va_S.rf
  have hA : ∀ q, (mA ma) q → kz K ≤ q := fun q h => by obtain ⟨i, hi, rfl⟩ := h; exact hD.2 i hi
  have hw := hH
  refine lv_aload_n S.1 S.2.1 d_R_since_0 rfl (lv_at hl 0 rfl) ?_
  refine kVi (rest := []) S (c_R_mayMake l) kc_R_mayMake ⟨q_750, q_752, qp_6⟩ rfl rfl ⟨Nat.le_of_ble_eq_true rfl, Nat.le_of_ble_eq_true rfl⟩ hC hS hA hw ⟨11, _, _, _, rfl, hw.1⟩ ⟨Nat.zero_le _, Nat.zero_le _⟩ hl.1 rfl rfl (Nat.le_of_ble_eq_true rfl) d_R_since_1 (fun r er => ?_)
  subst er
  refine lv_if_eq (tgt := 47) S.1 S.2.1 d_R_since_4 (by decide) (fun hbr1 => ?_) (fun hbr1 => ?_)
  · refine lv_iconst (v := (-1)) S.1 S.2.1 d_R_since_47 (by decide) ?_
    exact rw_i S hr hk hS d_R_since_48 ⟨fun h => absurd hbr1 h.1, fun _ => ⟨rfl, hw⟩⟩
  · refine lv_iload_n S.1 S.2.1 d_R_since_7 rfl (lv_at hl 1 rfl) ?_
    refine lv_iload_n S.1 S.2.1 d_R_since_8 rfl (lv_at hl 2 rfl) ?_
    refine lv_iconst (v := 1) S.1 S.2.1 d_R_since_9 (by decide) ?_
    refine kSi (rest := []) S (c_R_isInterval l x y 1) kc_R_isInterval ⟨q_785, q_786⟩ rfl rfl ⟨Nat.le_of_ble_eq_true rfl, Nat.le_of_ble_eq_true rfl⟩ hC hS hA trivial ⟨Nat.zero_le _, Nat.zero_le _⟩ hl.1 rfl rfl (Nat.le_of_ble_eq_true rfl) d_R_since_10 (fun r er => ?_)
    subst er
    refine lv_if_eq (tgt := 47) S.1 S.2.1 d_R_since_13 (by decide) (fun hbr2 => ?_) (fun hbr2 => ?_)
    · refine lv_iconst (v := (-1)) S.1 S.2.1 d_R_since_47 (by decide) ?_
      exact rw_i S hr hk hS d_R_since_48 ⟨fun h => absurd hbr2 h.2.1, fun _ => ⟨rfl, hw⟩⟩
    · refine lv_aload_n S.1 S.2.1 d_R_since_16 rfl (lv_at hl 0 rfl) ?_
      refine lv_iload_n S.1 S.2.1 d_R_since_17 rfl (lv_at hl 3 rfl) ?_
      refine kVi (rest := []) S (c_R_isFormula l f) kc_R_isFormula ⟨q_769, q_771, qp_8⟩ rfl rfl ⟨Nat.le_of_ble_eq_true rfl, Nat.le_of_ble_eq_true rfl⟩ hC hS hA hw ⟨11, _, _, _, rfl, hw.1⟩ ⟨Nat.zero_le _, Nat.zero_le _⟩ hl.1 rfl rfl (Nat.le_of_ble_eq_true rfl) d_R_since_18 (fun r er => ?_)
      subst er
      refine lv_if_eq (tgt := 47) S.1 S.2.1 d_R_since_21 (by decide) (fun hbr3 => ?_) (fun hbr3 => ?_)
      · refine lv_iconst (v := (-1)) S.1 S.2.1 d_R_since_47 (by decide) ?_
        exact rw_i S hr hk hS d_R_since_48 ⟨fun h => absurd hbr3 h.2.2.1, fun _ => ⟨rfl, hw⟩⟩
      · refine lv_aload_n S.1 S.2.1 d_R_since_24 rfl (lv_at hl 0 rfl) ?_
        refine lv_iload S.1 S.2.1 d_R_since_25 (lv_at hl 4 rfl) ?_
        refine kVi (rest := []) S (c_R_isFormula l g) kc_R_isFormula ⟨q_769, q_771, qp_8⟩ rfl rfl ⟨Nat.le_of_ble_eq_true rfl, Nat.le_of_ble_eq_true rfl⟩ hC hS hA hw ⟨11, _, _, _, rfl, hw.1⟩ ⟨Nat.zero_le _, Nat.zero_le _⟩ hl.1 rfl rfl (Nat.le_of_ble_eq_true rfl) d_R_since_27 (fun r er => ?_)
        subst er
        refine lv_if_eq (tgt := 47) S.1 S.2.1 d_R_since_30 (by decide) (fun hbr4 => ?_) (fun hbr4 => ?_)
        · refine lv_iconst (v := (-1)) S.1 S.2.1 d_R_since_47 (by decide) ?_
          exact rw_i S hr hk hS d_R_since_48 ⟨fun h => absurd hbr4 h.2.2.2, fun _ => ⟨rfl, hw⟩⟩
        · refine lv_aload_n S.1 S.2.1 d_R_since_33 rfl (lv_at hl 0 rfl) ?_
          refine lv_bipush (v := 8) S.1 S.2.1 d_R_since_34 (by decide) ?_
          refine lv_iload_n S.1 S.2.1 d_R_since_36 rfl (lv_at hl 1 rfl) ?_
          refine lv_iload_n S.1 S.2.1 d_R_since_37 rfl (lv_at hl 2 rfl) ?_
          refine lv_iload_n S.1 S.2.1 d_R_since_38 rfl (lv_at hl 3 rfl) ?_
          refine lv_iload S.1 S.2.1 d_R_since_39 (lv_at hl 4 rfl) ?_
          refine kw_i (A := mA ma) (k_V (rest := []) S (c_R_makeTimed l hD 8 x y f g (hmay hn31 hbr1)) kc_R_makeTimed ⟨q_789, q_791, qp_9⟩ rfl rfl ⟨Nat.le_of_ble_eq_true rfl, Nat.le_of_ble_eq_true rfl⟩ hC hS hA hw ⟨11, _, _, _, rfl, hw.1⟩ rfl hl.1 rfl (Nat.le_of_ble_eq_true rfl) ⟨Nat.zero_le _, Nat.zero_le _⟩ d_R_since_41) hS (fun q h => h) (fun r H locs er hz hkp hS => ?_)
          refine lv_goto (tgt := 48) S.1 S.2.1 d_R_since_44 (by decide) ?_
          exact rw_i S hr hk hS d_R_since_48 ⟨fun _ => er, fun z => absurd ⟨hbr1, hbr2, hbr3, hbr4⟩ z⟩
set_option maxHeartbeats 4000000 in
set_option maxRecDepth 100000 in
theorem c_R_until (l : Launch) {K : KT} {ma : Nat → Nat} {n pl : Nat} {wt : Int32} {J : Nat → Nat → Int32} {X : Nat → Int64} (hD : mD K ma) (x y f g : Int32) (hn31 : n < 2147483648) : Met l y_R_until (Cond.code y_R_until b_R_until 5 (some Jvm.ClassFile.FieldType.int) :: WALL) { frames := 2, cells := 0, slots := 0, locals := 50 } (pc0 K [.ref (ma 0), .int x, .int y, .int f, .int g] (fun H => mW K ma n wt pl J X H)) (va_Qi (fun r H => ((¬ f_R_mayMake wt n = 0 ∧ ¬ f_R_isInterval x y 0 = 0 ∧ ¬ f_R_isFormula n f = 0 ∧ ¬ f_R_isFormula n g = 0) → r = nI n ∧ ∃ J', mMk J J' n 9 0 f g x y ∧ mW K ma (n + 1) wt pl J' X H) ∧ (¬ (¬ f_R_mayMake wt n = 0 ∧ ¬ f_R_isInterval x y 0 = 0 ∧ ¬ f_R_isFormula n f = 0 ∧ ¬ f_R_isFormula n g = 0) → r = -1 ∧ mW K ma n wt pl J X H)) (fun u t => t.heap = u) (mA ma)) 0 0 (mA ma) := by
  refine met0 (own := "MetricLogMonitorModel") (by decide) rfl (Nat.le_of_ble_eq_true rfl) (fun p e s m below meth c ls S hr hk hnm hC hH hl => ?_)
  have hl : lv_has ls 5 [(0, .ref (ma 0)), (1, .int x), (2, .int y), (3, .int f), (4, .int g)] := hl
  have hS : va_S (mA ma) s.heap s.heap [] := va_S.rf
  have hA : ∀ q, (mA ma) q → kz K ≤ q := fun q h => by obtain ⟨i, hi, rfl⟩ := h; exact hD.2 i hi
  have hw := hH
  refine lv_aload_n S.1 S.2.1 d_R_until_0 rfl (lv_at hl 0 rfl) ?_
  refine kVi (rest := []) S (c_R_mayMake l) kc_R_mayMake ⟨q_750, q_752, qp_6⟩ rfl rfl ⟨Nat.le_of_ble_eq_true rfl, Nat.le_of_ble_eq_true rfl⟩ hC hS hA hw ⟨11, _, _, _, rfl, hw.1⟩ ⟨Nat.zero_le _, Nat.zero_le _⟩ hl.1 rfl rfl (Nat.le_of_ble_eq_true rfl) d_R_until_1 (fun r er => ?_)
  subst er
  refine lv_if_eq (tgt := 47) S.1 S.2.1 d_R_until_4 (by decide) (fun hbr1 => ?_) (fun hbr1 => ?_)
  · refine lv_iconst (v := (-1)) S.1 S.2.1 d_R_until_47 (by decide) ?_
    exact rw_i S hr hk hS d_R_until_48 ⟨fun h => absurd hbr1 h.1, fun _ => ⟨rfl, hw⟩⟩
  · refine lv_iload_n S.1 S.2.1 d_R_until_7 rfl (lv_at hl 1 rfl) ?_
    refine lv_iload_n S.1 S.2.1 d_R_until_8 rfl (lv_at hl 2 rfl) ?_
    refine lv_iconst (v := 0) S.1 S.2.1 d_R_until_9 (by decide) ?_
    refine kSi (rest := []) S (c_R_isInterval l x y 0) kc_R_isInterval ⟨q_785, q_786⟩ rfl rfl ⟨Nat.le_of_ble_eq_true rfl, Nat.le_of_ble_eq_true rfl⟩ hC hS hA trivial ⟨Nat.zero_le _, Nat.zero_le _⟩ hl.1 rfl rfl (Nat.le_of_ble_eq_true rfl) d_R_until_10 (fun r er => ?_)
    subst er
    refine lv_if_eq (tgt := 47) S.1 S.2.1 d_R_until_13 (by decide) (fun hbr2 => ?_) (fun hbr2 => ?_)
    · refine lv_iconst (v := (-1)) S.1 S.2.1 d_R_until_47 (by decide) ?_
      exact rw_i S hr hk hS d_R_until_48 ⟨fun h => absurd hbr2 h.2.1, fun _ => ⟨rfl, hw⟩⟩
    · refine lv_aload_n S.1 S.2.1 d_R_until_16 rfl (lv_at hl 0 rfl) ?_
      refine lv_iload_n S.1 S.2.1 d_R_until_17 rfl (lv_at hl 3 rfl) ?_
      refine kVi (rest := []) S (c_R_isFormula l f) kc_R_isFormula ⟨q_769, q_771, qp_8⟩ rfl rfl ⟨Nat.le_of_ble_eq_true rfl, Nat.le_of_ble_eq_true rfl⟩ hC hS hA hw ⟨11, _, _, _, rfl, hw.1⟩ ⟨Nat.zero_le _, Nat.zero_le _⟩ hl.1 rfl rfl (Nat.le_of_ble_eq_true rfl) d_R_until_18 (fun r er => ?_)
      subst er
      refine lv_if_eq (tgt := 47) S.1 S.2.1 d_R_until_21 (by decide) (fun hbr3 => ?_) (fun hbr3 => ?_)
      · refine lv_iconst (v := (-1)) S.1 S.2.1 d_R_until_47 (by decide) ?_
        exact rw_i S hr hk hS d_R_until_48 ⟨fun h => absurd hbr3 h.2.2.1, fun _ => ⟨rfl, hw⟩⟩
      · refine lv_aload_n S.1 S.2.1 d_R_until_24 rfl (lv_at hl 0 rfl) ?_
        refine lv_iload S.1 S.2.1 d_R_until_25 (lv_at hl 4 rfl) ?_
        refine kVi (rest := []) S (c_R_isFormula l g) kc_R_isFormula ⟨q_769, q_771, qp_8⟩ rfl rfl ⟨Nat.le_of_ble_eq_true rfl, Nat.le_of_ble_eq_true rfl⟩ hC hS hA hw ⟨11, _, _, _, rfl, hw.1⟩ ⟨Nat.zero_le _, Nat.zero_le _⟩ hl.1 rfl rfl (Nat.le_of_ble_eq_true rfl) d_R_until_27 (fun r er => ?_)
        subst er
        refine lv_if_eq (tgt := 47) S.1 S.2.1 d_R_until_30 (by decide) (fun hbr4 => ?_) (fun hbr4 => ?_)
        · refine lv_iconst (v := (-1)) S.1 S.2.1 d_R_until_47 (by decide) ?_
          exact rw_i S hr hk hS d_R_until_48 ⟨fun h => absurd hbr4 h.2.2.2, fun _ => ⟨rfl, hw⟩⟩
        · refine lv_aload_n S.1 S.2.1 d_R_until_33 rfl (lv_at hl 0 rfl) ?_
          refine lv_bipush (v := 9) S.1 S.2.1 d_R_until_34 (by decide) ?_
          refine lv_iload_n S.1 S.2.1 d_R_until_36 rfl (lv_at hl 1 rfl) ?_
          refine lv_iload_n S.1 S.2.1 d_R_until_37 rfl (lv_at hl 2 rfl) ?_
          refine lv_iload_n S.1 S.2.1 d_R_until_38 rfl (lv_at hl 3 rfl) ?_
          refine lv_iload S.1 S.2.1 d_R_until_39 (lv_at hl 4 rfl) ?_
          refine kw_i (A := mA ma) (k_V (rest := []) S (c_R_makeTimed l hD 9 x y f g (hmay hn31 hbr1)) kc_R_makeTimed ⟨q_789, q_791, qp_9⟩ rfl rfl ⟨Nat.le_of_ble_eq_true rfl, Nat.le_of_ble_eq_true rfl⟩ hC hS hA hw ⟨11, _, _, _, rfl, hw.1⟩ rfl hl.1 rfl (Nat.le_of_ble_eq_true rfl) ⟨Nat.zero_le _, Nat.zero_le _⟩ d_R_until_41) hS (fun q h => h) (fun r H locs er hz hkp hS => ?_)
          refine lv_goto (tgt := 48) S.1 S.2.1 d_R_until_44 (by decide) ?_
          exact rw_i S hr hk hS d_R_until_48 ⟨fun _ => er, fun z => absurd ⟨hbr1, hbr2, hbr3, hbr4⟩ z⟩
