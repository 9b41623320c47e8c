/-! the reference: free, ranged, bounded, progress -/
section
variable {kd wh fi se : Nat → Nat} {lo hi fr rg T : Nat → Int32} {er : Nat → Bool} {k : Nat}
theorem var_all : ∀ t, t < 8 → t = 3 ∨ f_R_variable (nI t) = vr t := by decide +kernel
theorem var_eq {t : Nat} (h : tmr t) : f_R_variable (nI t) = vr t := by
  rcases var_all t (by unfold tmr at h; omega) with e | e
  · unfold tmr at h; omega
  · exact e
theorem frE_a (h : kd k ≤ 2) : frE kd wh fi se fr k = (vr (fi k) ||| vr (se k)) := by simp [frE, h]
theorem frE_6 (h : kd k = 6) : frE kd wh fi se fr k = ((fr (fi k) ||| fr (se k)) &&& mskN (wh k)) := by simp [frE, h]
theorem frE_m (h1 : ¬ kd k ≤ 2) (h2 : ¬ kd k = 6) : frE kd wh fi se fr k = (fr (fi k) ||| fr (se k)) := by simp [frE, h1, h2]
theorem rgE_0 (h : kd k = 0) : rgE kd wh fi se rg k = (vr (fi k) ||| vr (se k)) := by simp [rgE, h]
theorem rgE_1 (h : kd k = 1) : rgE kd wh fi se rg k = (if vr (fi k) = 0 ∨ vr (se k) = 0 then vr (fi k) ||| vr (se k) else 0) := by simp [rgE, h]
theorem rgE_2 (h : kd k = 2) : rgE kd wh fi se rg k = 0 := by simp [rgE, h]
theorem rgE_3 (h : kd k = 3) : rgE kd wh fi se rg k = 0 := by simp [rgE, h]
theorem rgE_4 (h : kd k = 4) : rgE kd wh fi se rg k = (rg (fi k) ||| rg (se k)) := by simp [rgE, h]
theorem rgE_5 (h : kd k = 5) : rgE kd wh fi se rg k = (rg (fi k) &&& rg (se k)) := by simp [rgE, h]
theorem rgE_6 (h : kd k = 6) : rgE kd wh fi se rg k = (rg (fi k) &&& mskN (wh k)) := by simp [rgE, h]
theorem rgE_7 (h : 7 ≤ kd k) : rgE kd wh fi se rg k = rg (se k) := by
  unfold rgE
  rw [if_neg (by omega), if_neg (by omega), if_neg (by omega), if_neg (by omega), if_neg (by omega), if_neg (by omega)]
theorem erE_a (h : kd k ≤ 2) : erE kd wh fi se rg er k = true := by simp [erE, h]
theorem erE_6n (h : kd k = 6) (h2 : bt (rg (fi k)) (wh k) = false) : erE kd wh fi se rg er k = false := by simp [erE, h, h2]
theorem erE_6y (h : kd k = 6) (h2 : bt (rg (fi k)) (wh k) = true) : erE kd wh fi se rg er k = (er (fi k) && er (se k)) := by simp [erE, h, h2]
theorem erE_m (h1 : ¬ kd k ≤ 2) (h2 : ¬ kd k = 6) : erE kd wh fi se rg er k = (er (fi k) && er (se k)) := by simp [erE, h1, h2]
theorem isF_y {n f : Nat} (hn : n < 2147483648) (hf : f < n) : ¬ f_R_isFormula n (nI f) = 0 := by
  unfold f_R_isFormula
  rw [if_neg (nI_pos (by omega)), if_neg (nI_ge hf (by omega))]
  decide
theorem isF_n {n : Nat} {f : Int32} (hn : n < 2147483648) (hno : ∀ k, k < n → ¬ f = nI k) : f_R_isFormula n f = 0 := by
  unfold f_R_isFormula
  rcases pk_ix f hn with h | h | ⟨j, hj, e⟩
  · rw [if_pos h]
  · rw [if_pos h]; split <;> rfl
  · exact absurd e (hno j hj)
end
set_option maxHeartbeats 4000000 in
set_option maxRecDepth 100000 in
theorem c_R_freeOf (l : Launch) {K : KT} {ma : Nat → Nat} {n pl : Nat} {wt : Int32} {J : Nat → Nat → Int32} {X : Nat → Int64} {kd wh fi se : Nat → Nat} {lo hi : Nat → Int32} {fr : Nat → Int32} {f : Nat} (hD : mD K ma) (hT : mT kd wh fi se lo hi J n) (hV : tabOk kd wh fi se lo hi n) (hn : n ≤ 12) (hf : f < n) (hfr : ∀ j, j < n → fr j = frE kd wh fi se fr j) : Met l y_R_freeOf (Cond.code y_R_freeOf b_R_freeOf 3 (some Jvm.ClassFile.FieldType.int) :: WALL) { frames := 1, cells := 0, slots := 0, locals := 20 } (pc0 K [.ref (ma 0), .int (nI f)] (fun H => mW K ma n wt pl J X H)) (va_Qi (fun r H => r = fr f ∧ ∃ J', (∀ p, p ≠ 12 → J' p = J p) ∧ (∀ j, j ≤ f → J' 12 j = fr j) ∧ mW K ma n wt pl J' X H) (fun u t => t.heap = u) (mA ma)) 0 0 (mA ma) := by
  refine met0 (own := "MetricLogMonitorModel") (by decide) rfl (Nat.le_of_ble_eq_true rfl) (fun p e s m below meth c ls S hr hk hnm hC hH hl => ?_)
  have hl : lv_has ls 3 [(0, .ref (ma 0)), (1, .int (nI f))] := hl
  have hS : va_S (mA ma) s.heap s.heap [] := va_S.rf
  have hA : ∀ q, (mA ma) q → kz K ≤ q := fun q h => by obtain ⟨i, hi, rfl⟩ := h; exact hD.2 i hi
  have hw := hH
  refine lv_iconst (v := 0) S.1 S.2.1 d_R_freeOf_0 (by decide) ?_
  refine lv_istore_n S.1 S.2.1 d_R_freeOf_1 rfl hl (by decide) rfl (fun ls hl => ?_)
  have hl : lv_has ls 3 [(2, .int 0), (0, .ref (ma 0)), (1, .int (nI f))] := hl
  have key2 : ∀ (d2 : Nat) (k : Nat) (g : Nat → Nat → Int32) (H : Heap) (locs : List Loc) (ls : Array Slot), k + d2 = f + 1 → (∀ p, p ≠ 12 → g p = J p) → (∀ j, j < k → g 12 j = fr j) → (mT kd wh fi se lo hi g n) → (mW K ma n wt pl g X H) → (va_S (mA ma) s.heap H locs) → lv_has ls 3 [(2, .int (nI k)), (0, .ref (ma 0)), (1, .int (nI f))] → W p l e ({ frames := 1, cells := 0, slots := 0, locals := 20 } : Room) s m ([.ref (ma 0), .int (nI f)] : List Value).toArray below meth c H locs 0 0 (MQ below (va_Qi (fun r H => r = fr f ∧ ∃ J', (∀ p, p ≠ 12 → J' p = J p) ∧ (∀ j, j ≤ f → J' 12 j = fr j) ∧ mW K ma n wt pl J' X H) (fun u t => t.heap = u) (mA ma)) ([.ref (ma 0), .int (nI f)] : List Value).toArray s 0 0 (mA ma)) (F0 m 2 ls []) := by
    intro d2
    induction d2 with
    | zero =>
      intro k g H locs ls hd2 og hs hT hw hS hl
      refine lv_iload_n S.1 S.2.1 d_R_freeOf_2 rfl (lv_at hl 0 rfl) ?_
      refine lv_iload_n S.1 S.2.1 d_R_freeOf_3 rfl (lv_at hl 2 rfl) ?_
      refine lv_icmp_gt (tgt := 114) S.1 S.2.1 d_R_freeOf_4 (by decide) (fun _ => ?_) (fun hx9 => absurd (nI_lt (by omega) (by omega)) hx9)
      refine lv_aload_n S.1 S.2.1 d_R_freeOf_114 rfl (lv_at hl 1 rfl) ?_
      refine o_get (v := .ref (ma 12)) S hC kf_R hw.1 rfl 14 (by decide) q_707 rfl d_R_freeOf_115 ?_
      refine lv_iload_n S.1 S.2.1 d_R_freeOf_118 rfl (lv_at hl 2 rfl) ?_
      refine o_iald (j := f) S hC (mi_12 hw) (by decide) (by omega) d_R_freeOf_119 ?_
      exact rw_i S hr hk hS d_R_freeOf_120 ⟨hs f (by omega), g, og, (fun j hj => hs j (by omega)), hw⟩
    | succ d2 ih2 =>
      intro k g H locs ls hd2 og hs hT hw hS hl
      refine lv_iload_n S.1 S.2.1 d_R_freeOf_2 rfl (lv_at hl 0 rfl) ?_
      refine lv_iload_n S.1 S.2.1 d_R_freeOf_3 rfl (lv_at hl 2 rfl) ?_
      refine lv_icmp_gt (tgt := 114) S.1 S.2.1 d_R_freeOf_4 (by decide) (fun hx9 => absurd hx9 (nI_nlt (by omega) (by omega))) (fun _ => ?_)
      obtain ⟨v9, vw, vt, vp, vs9, vh9⟩ := hV k (by omega)
      rcases (show kd k = 0 ∨ kd k = 1 ∨ kd k = 2 ∨ kd k = 3 ∨ kd k = 4 ∨ kd k = 5 ∨ kd k = 6 ∨ kd k = 7 ∨ kd k = 8 ∨ kd k = 9 by omega) with hkd | hkd | hkd | hkd | hkd | hkd | hkd | hkd | hkd | hkd
      · have ht1 : tmr (fi k) := (vt (by omega)).1
        have ht2 : tmr (se k) := (vt (by omega)).2
        refine lv_aload_n S.1 S.2.1 d_R_freeOf_7 rfl (lv_at hl 1 rfl) ?_
        refine o_get (v := .ref (ma 1)) S hC kf_R hw.1 rfl 3 (by decide) q_694 rfl d_R_freeOf_8 ?_
        refine lv_iload_n S.1 S.2.1 d_R_freeOf_11 rfl (lv_at hl 0 rfl) ?_
        refine o_iald (j := k) S hC (mi_1 hw) (by decide) (by omega) d_R_freeOf_12 ?_
        refine tpi (y := nI (kd k)) (hT k (by omega)).1 ?_
        refine lv_iconst (v := 2) S.1 S.2.1 d_R_freeOf_13 (by decide) ?_
        refine lv_icmp_gt (tgt := 45) S.1 S.2.1 d_R_freeOf_14 (by decide) (fun hx9 => absurd hx9 (by rw [hkd]; decide)) (fun _ => ?_)
        refine lv_aload_n S.1 S.2.1 d_R_freeOf_17 rfl (lv_at hl 1 rfl) ?_
        refine o_get (v := .ref (ma 12)) S hC kf_R hw.1 rfl 14 (by decide) q_707 rfl d_R_freeOf_18 ?_
        refine lv_iload_n S.1 S.2.1 d_R_freeOf_21 rfl (lv_at hl 0 rfl) ?_
        refine lv_aload_n S.1 S.2.1 d_R_freeOf_22 rfl (lv_at hl 1 rfl) ?_
        refine o_get (v := .ref (ma 3)) S hC kf_R hw.1 rfl 5 (by decide) q_696 rfl d_R_freeOf_23 ?_
        refine lv_iload_n S.1 S.2.1 d_R_freeOf_26 rfl (lv_at hl 0 rfl) ?_
        refine o_iald (j := k) S hC (mi_3 hw) (by decide) (by omega) d_R_freeOf_27 ?_
        refine tpi (y := nI (fi k)) (hT k (by omega)).2.2.1 ?_
        refine kSi (rest := [.int (nI k), .ref (ma 12)]) S (c_R_variable l (nI (fi k))) kc_R_variable ⟨q_809, q_810⟩ rfl rfl ⟨Nat.le_of_ble_eq_true rfl, Nat.le_of_ble_eq_true rfl⟩ hC hS hA trivial ⟨Nat.zero_le _, Nat.zero_le _⟩ hl.1 rfl rfl (Nat.le_of_ble_eq_true rfl) d_R_freeOf_28 (fun r er => ?_)
        refine tpi (y := vr (fi k)) (er.trans (var_eq ht1)) ?_
        refine lv_aload_n S.1 S.2.1 d_R_freeOf_31 rfl (lv_at hl 1 rfl) ?_
        refine o_get (v := .ref (ma 4)) S hC kf_R hw.1 rfl 6 (by decide) q_697 rfl d_R_freeOf_32 ?_
        refine lv_iload_n S.1 S.2.1 d_R_freeOf_35 rfl (lv_at hl 0 rfl) ?_
        refine o_iald (j := k) S hC (mi_4 hw) (by decide) (by omega) d_R_freeOf_36 ?_
        refine tpi (y := nI (se k)) (hT k (by omega)).2.2.2.1 ?_
        refine kSi (rest := [.int (vr (fi k)), .int (nI k), .ref (ma 12)]) S (c_R_variable l (nI (se k))) kc_R_variable ⟨q_809, q_810⟩ rfl rfl ⟨Nat.le_of_ble_eq_true rfl, Nat.le_of_ble_eq_true rfl⟩ hC hS hA trivial ⟨Nat.zero_le _, Nat.zero_le _⟩ hl.1 rfl rfl (Nat.le_of_ble_eq_true rfl) d_R_freeOf_37 (fun r er => ?_)
        refine tpi (y := vr (se k)) (er.trans (var_eq ht2)) ?_
        refine lv_ior S.1 S.2.1 d_R_freeOf_40 ?_
        refine m_iast (i := k) (x := (vr (fi k) ||| vr (se k))) 12 S hC hD hw hS (by decide) (by decide) (by decide) (by decide) (show k < 12 by omega) d_R_freeOf_41 (fun H locs J1 eJ1 oJ1 hw hS => ?_)
        have hT : mT kd wh fi se lo hi J1 n := hT.to (fun p hp => oJ1 p (by omega))
        refine lv_goto (tgt := 74) S.1 S.2.1 d_R_freeOf_42 (by decide) ?_
        refine lv_aload_n S.1 S.2.1 d_R_freeOf_74 rfl (lv_at hl 1 rfl) ?_
        refine o_get (v := .ref (ma 1)) S hC kf_R hw.1 rfl 3 (by decide) q_694 rfl d_R_freeOf_75 ?_
        refine lv_iload_n S.1 S.2.1 d_R_freeOf_78 rfl (lv_at hl 0 rfl) ?_
        refine o_iald (j := k) S hC (mi_1 hw) (by decide) (by omega) d_R_freeOf_79 ?_
        refine tpi (y := nI (kd k)) (hT k (by omega)).1 ?_
        refine lv_bipush (v := 6) S.1 S.2.1 d_R_freeOf_80 (by decide) ?_
        refine lv_icmp_ne (tgt := 108) S.1 S.2.1 d_R_freeOf_82 (by decide) (fun _ => ?_) (fun hx9 => absurd hx9 (by rw [hkd]; decide))
        refine lv_iinc (v := nI (k + 1)) S.1 S.2.1 d_R_freeOf_108 hl (k := 0) rfl (nI_1 k) (by decide) rfl (fun ls hl => ?_)
        have hl : lv_has ls 3 [(2, .int (nI (k + 1))), (0, .ref (ma 0)), (1, .int (nI f))] := hl
        refine lv_goto (tgt := 2) S.1 S.2.1 d_R_freeOf_111 (by decide) ?_
        exact ih2 (k + 1) _ _ _ ls (by omega) (fun p hp => by rw [oJ1 p hp]; exact og p hp) (fun j hj => if e0 : j = k then by rw [e0, eJ1, pk_us, hfr k (by omega)]; rw [frE_a (by omega)] else by rw [eJ1, pk_un e0]; exact hs j (by omega)) hT hw hS (lv_sub hl [0, 1, 2] rfl)
      · have ht1 : tmr (fi k) := (vt (by omega)).1
        have ht2 : tmr (se k) := (vt (by omega)).2
        refine lv_aload_n S.1 S.2.1 d_R_freeOf_7 rfl (lv_at hl 1 rfl) ?_
        refine o_get (v := .ref (ma 1)) S hC kf_R hw.1 rfl 3 (by decide) q_694 rfl d_R_freeOf_8 ?_
        refine lv_iload_n S.1 S.2.1 d_R_freeOf_11 rfl (lv_at hl 0 rfl) ?_
        refine o_iald (j := k) S hC (mi_1 hw) (by decide) (by omega) d_R_freeOf_12 ?_
        refine tpi (y := nI (kd k)) (hT k (by omega)).1 ?_
        refine lv_iconst (v := 2) S.1 S.2.1 d_R_freeOf_13 (by decide) ?_
        refine lv_icmp_gt (tgt := 45) S.1 S.2.1 d_R_freeOf_14 (by decide) (fun hx9 => absurd hx9 (by rw [hkd]; decide)) (fun _ => ?_)
        refine lv_aload_n S.1 S.2.1 d_R_freeOf_17 rfl (lv_at hl 1 rfl) ?_
        refine o_get (v := .ref (ma 12)) S hC kf_R hw.1 rfl 14 (by decide) q_707 rfl d_R_freeOf_18 ?_
        refine lv_iload_n S.1 S.2.1 d_R_freeOf_21 rfl (lv_at hl 0 rfl) ?_
        refine lv_aload_n S.1 S.2.1 d_R_freeOf_22 rfl (lv_at hl 1 rfl) ?_
        refine o_get (v := .ref (ma 3)) S hC kf_R hw.1 rfl 5 (by decide) q_696 rfl d_R_freeOf_23 ?_
        refine lv_iload_n S.1 S.2.1 d_R_freeOf_26 rfl (lv_at hl 0 rfl) ?_
        refine o_iald (j := k) S hC (mi_3 hw) (by decide) (by omega) d_R_freeOf_27 ?_
        refine tpi (y := nI (fi k)) (hT k (by omega)).2.2.1 ?_
        refine kSi (rest := [.int (nI k), .ref (ma 12)]) S (c_R_variable l (nI (fi k))) kc_R_variable ⟨q_809, q_810⟩ rfl rfl ⟨Nat.le_of_ble_eq_true rfl, Nat.le_of_ble_eq_true rfl⟩ hC hS hA trivial ⟨Nat.zero_le _, Nat.zero_le _⟩ hl.1 rfl rfl (Nat.le_of_ble_eq_true rfl) d_R_freeOf_28 (fun r er => ?_)
        refine tpi (y := vr (fi k)) (er.trans (var_eq ht1)) ?_
        refine lv_aload_n S.1 S.2.1 d_R_freeOf_31 rfl (lv_at hl 1 rfl) ?_
        refine o_get (v := .ref (ma 4)) S hC kf_R hw.1 rfl 6 (by decide) q_697 rfl d_R_freeOf_32 ?_
        refine lv_iload_n S.1 S.2.1 d_R_freeOf_35 rfl (lv_at hl 0 rfl) ?_
        refine o_iald (j := k) S hC (mi_4 hw) (by decide) (by omega) d_R_freeOf_36 ?_
        refine tpi (y := nI (se k)) (hT k (by omega)).2.2.2.1 ?_
        refine kSi (rest := [.int (vr (fi k)), .int (nI k), .ref (ma 12)]) S (c_R_variable l (nI (se k))) kc_R_variable ⟨q_809, q_810⟩ rfl rfl ⟨Nat.le_of_ble_eq_true rfl, Nat.le_of_ble_eq_true rfl⟩ hC hS hA trivial ⟨Nat.zero_le _, Nat.zero_le _⟩ hl.1 rfl rfl (Nat.le_of_ble_eq_true rfl) d_R_freeOf_37 (fun r er => ?_)
        refine tpi (y := vr (se k)) (er.trans (var_eq ht2)) ?_
        refine lv_ior S.1 S.2.1 d_R_freeOf_40 ?_
        refine m_iast (i := k) (x := (vr (fi k) ||| vr (se k))) 12 S hC hD hw hS (by decide) (by decide) (by decide) (by decide) (show k < 12 by omega) d_R_freeOf_41 (fun H locs J2 eJ2 oJ2 hw hS => ?_)
        have hT : mT kd wh fi se lo hi J2 n := hT.to (fun p hp => oJ2 p (by omega))
        refine lv_goto (tgt := 74) S.1 S.2.1 d_R_freeOf_42 (by decide) ?_
        refine lv_aload_n S.1 S.2.1 d_R_freeOf_74 rfl (lv_at hl 1 rfl) ?_
        refine o_get (v := .ref (ma 1)) S hC kf_R hw.1 rfl 3 (by decide) q_694 rfl d_R_freeOf_75 ?_
        refine lv_iload_n S.1 S.2.1 d_R_freeOf_78 rfl (lv_at hl 0 rfl) ?_
        refine o_iald (j := k) S hC (mi_1 hw) (by decide) (by omega) d_R_freeOf_79 ?_
        refine tpi (y := nI (kd k)) (hT k (by omega)).1 ?_
        refine lv_bipush (v := 6) S.1 S.2.1 d_R_freeOf_80 (by decide) ?_
        refine lv_icmp_ne (tgt := 108) S.1 S.2.1 d_R_freeOf_82 (by decide) (fun _ => ?_) (fun hx9 => absurd hx9 (by rw [hkd]; decide))
        refine lv_iinc (v := nI (k + 1)) S.1 S.2.1 d_R_freeOf_108 hl (k := 0) rfl (nI_1 k) (by decide) rfl (fun ls hl => ?_)
        have hl : lv_has ls 3 [(2, .int (nI (k + 1))), (0, .ref (ma 0)), (1, .int (nI f))] := hl
        refine lv_goto (tgt := 2) S.1 S.2.1 d_R_freeOf_111 (by decide) ?_
        exact ih2 (k + 1) _ _ _ ls (by omega) (fun p hp => by rw [oJ2 p hp]; exact og p hp) (fun j hj => if e0 : j = k then by rw [e0, eJ2, pk_us, hfr k (by omega)]; rw [frE_a (by omega)] else by rw [eJ2, pk_un e0]; exact hs j (by omega)) hT hw hS (lv_sub hl [0, 1, 2] rfl)
      · have ht1 : tmr (fi k) := (vt (by omega)).1
        have ht2 : tmr (se k) := (vt (by omega)).2
        refine lv_aload_n S.1 S.2.1 d_R_freeOf_7 rfl (lv_at hl 1 rfl) ?_
        refine o_get (v := .ref (ma 1)) S hC kf_R hw.1 rfl 3 (by decide) q_694 rfl d_R_freeOf_8 ?_
        refine lv_iload_n S.1 S.2.1 d_R_freeOf_11 rfl (lv_at hl 0 rfl) ?_
        refine o_iald (j := k) S hC (mi_1 hw) (by decide) (by omega) d_R_freeOf_12 ?_
        refine tpi (y := nI (kd k)) (hT k (by omega)).1 ?_
        refine lv_iconst (v := 2) S.1 S.2.1 d_R_freeOf_13 (by decide) ?_
        refine lv_icmp_gt (tgt := 45) S.1 S.2.1 d_R_freeOf_14 (by decide) (fun hx9 => absurd hx9 (by rw [hkd]; decide)) (fun _ => ?_)
        refine lv_aload_n S.1 S.2.1 d_R_freeOf_17 rfl (lv_at hl 1 rfl) ?_
        refine o_get (v := .ref (ma 12)) S hC kf_R hw.1 rfl 14 (by decide) q_707 rfl d_R_freeOf_18 ?_
        refine lv_iload_n S.1 S.2.1 d_R_freeOf_21 rfl (lv_at hl 0 rfl) ?_
        refine lv_aload_n S.1 S.2.1 d_R_freeOf_22 rfl (lv_at hl 1 rfl) ?_
        refine o_get (v := .ref (ma 3)) S hC kf_R hw.1 rfl 5 (by decide) q_696 rfl d_R_freeOf_23 ?_
        refine lv_iload_n S.1 S.2.1 d_R_freeOf_26 rfl (lv_at hl 0 rfl) ?_
        refine o_iald (j := k) S hC (mi_3 hw) (by decide) (by omega) d_R_freeOf_27 ?_
        refine tpi (y := nI (fi k)) (hT k (by omega)).2.2.1 ?_
        refine kSi (rest := [.int (nI k), .ref (ma 12)]) S (c_R_variable l (nI (fi k))) kc_R_variable ⟨q_809, q_810⟩ rfl rfl ⟨Nat.le_of_ble_eq_true rfl, Nat.le_of_ble_eq_true rfl⟩ hC hS hA trivial ⟨Nat.zero_le _, Nat.zero_le _⟩ hl.1 rfl rfl (Nat.le_of_ble_eq_true rfl) d_R_freeOf_28 (fun r er => ?_)
        refine tpi (y := vr (fi k)) (er.trans (var_eq ht1)) ?_
        refine lv_aload_n S.1 S.2.1 d_R_freeOf_31 rfl (lv_at hl 1 rfl) ?_
        refine o_get (v := .ref (ma 4)) S hC kf_R hw.1 rfl 6 (by decide) q_697 rfl d_R_freeOf_32 ?_
        refine lv_iload_n S.1 S.2.1 d_R_freeOf_35 rfl (lv_at hl 0 rfl) ?_
        refine o_iald (j := k) S hC (mi_4 hw) (by decide) (by omega) d_R_freeOf_36 ?_
        refine tpi (y := nI (se k)) (hT k (by omega)).2.2.2.1 ?_
        refine kSi (rest := [.int (vr (fi k)), .int (nI k), .ref (ma 12)]) S (c_R_variable l (nI (se k))) kc_R_variable ⟨q_809, q_810⟩ rfl rfl ⟨Nat.le_of_ble_eq_true rfl, Nat.le_of_ble_eq_true rfl⟩ hC hS hA trivial ⟨Nat.zero_le _, Nat.zero_le _⟩ hl.1 rfl rfl (Nat.le_of_ble_eq_true rfl) d_R_freeOf_37 (fun r er => ?_)
        refine tpi (y := vr (se k)) (er.trans (var_eq ht2)) ?_
        refine lv_ior S.1 S.2.1 d_R_freeOf_40 ?_
        refine m_iast (i := k) (x := (vr (fi k) ||| vr (se k))) 12 S hC hD hw hS (by decide) (by decide) (by decide) (by decide) (show k < 12 by omega) d_R_freeOf_41 (fun H locs J3 eJ3 oJ3 hw hS => ?_)
        have hT : mT kd wh fi se lo hi J3 n := hT.to (fun p hp => oJ3 p (by omega))
        refine lv_goto (tgt := 74) S.1 S.2.1 d_R_freeOf_42 (by decide) ?_
        refine lv_aload_n S.1 S.2.1 d_R_freeOf_74 rfl (lv_at hl 1 rfl) ?_
        refine o_get (v := .ref (ma 1)) S hC kf_R hw.1 rfl 3 (by decide) q_694 rfl d_R_freeOf_75 ?_
        refine lv_iload_n S.1 S.2.1 d_R_freeOf_78 rfl (lv_at hl 0 rfl) ?_
        refine o_iald (j := k) S hC (mi_1 hw) (by decide) (by omega) d_R_freeOf_79 ?_
        refine tpi (y := nI (kd k)) (hT k (by omega)).1 ?_
        refine lv_bipush (v := 6) S.1 S.2.1 d_R_freeOf_80 (by decide) ?_
        refine lv_icmp_ne (tgt := 108) S.1 S.2.1 d_R_freeOf_82 (by decide) (fun _ => ?_) (fun hx9 => absurd hx9 (by rw [hkd]; decide))
        refine lv_iinc (v := nI (k + 1)) S.1 S.2.1 d_R_freeOf_108 hl (k := 0) rfl (nI_1 k) (by decide) rfl (fun ls hl => ?_)
        have hl : lv_has ls 3 [(2, .int (nI (k + 1))), (0, .ref (ma 0)), (1, .int (nI f))] := hl
        refine lv_goto (tgt := 2) S.1 S.2.1 d_R_freeOf_111 (by decide) ?_
        exact ih2 (k + 1) _ _ _ ls (by omega) (fun p hp => by rw [oJ3 p hp]; exact og p hp) (fun j hj => if e0 : j = k then by rw [e0, eJ3, pk_us, hfr k (by omega)]; rw [frE_a (by omega)] else by rw [eJ3, pk_un e0]; exact hs j (by omega)) hT hw hS (lv_sub hl [0, 1, 2] rfl)
      · have hfv := vp (by omega)
        refine lv_aload_n S.1 S.2.1 d_R_freeOf_7 rfl (lv_at hl 1 rfl) ?_
        refine o_get (v := .ref (ma 1)) S hC kf_R hw.1 rfl 3 (by decide) q_694 rfl d_R_freeOf_8 ?_
        refine lv_iload_n S.1 S.2.1 d_R_freeOf_11 rfl (lv_at hl 0 rfl) ?_
        refine o_iald (j := k) S hC (mi_1 hw) (by decide) (by omega) d_R_freeOf_12 ?_
        refine tpi (y := nI (kd k)) (hT k (by omega)).1 ?_
        refine lv_iconst (v := 2) S.1 S.2.1 d_R_freeOf_13 (by decide) ?_
        refine lv_icmp_gt (tgt := 45) S.1 S.2.1 d_R_freeOf_14 (by decide) (fun _ => ?_) (fun hx9 => absurd (by rw [hkd]; decide) hx9)
        refine lv_aload_n S.1 S.2.1 d_R_freeOf_45 rfl (lv_at hl 1 rfl) ?_
        refine o_get (v := .ref (ma 12)) S hC kf_R hw.1 rfl 14 (by decide) q_707 rfl d_R_freeOf_46 ?_
        refine lv_iload_n S.1 S.2.1 d_R_freeOf_49 rfl (lv_at hl 0 rfl) ?_
        refine lv_aload_n S.1 S.2.1 d_R_freeOf_50 rfl (lv_at hl 1 rfl) ?_
        refine o_get (v := .ref (ma 12)) S hC kf_R hw.1 rfl 14 (by decide) q_707 rfl d_R_freeOf_51 ?_
        refine lv_aload_n S.1 S.2.1 d_R_freeOf_54 rfl (lv_at hl 1 rfl) ?_
        refine o_get (v := .ref (ma 3)) S hC kf_R hw.1 rfl 5 (by decide) q_696 rfl d_R_freeOf_55 ?_
        refine lv_iload_n S.1 S.2.1 d_R_freeOf_58 rfl (lv_at hl 0 rfl) ?_
        refine o_iald (j := k) S hC (mi_3 hw) (by decide) (by omega) d_R_freeOf_59 ?_
        refine tpi (y := nI (fi k)) (hT k (by omega)).2.2.1 ?_
        refine o_iald (j := fi k) S hC (mi_12 hw) (by decide) (by omega) d_R_freeOf_60 ?_
        refine tpi (y := fr (fi k)) (hs _ (by omega)) ?_
        refine lv_aload_n S.1 S.2.1 d_R_freeOf_61 rfl (lv_at hl 1 rfl) ?_
        refine o_get (v := .ref (ma 12)) S hC kf_R hw.1 rfl 14 (by decide) q_707 rfl d_R_freeOf_62 ?_
        refine lv_aload_n S.1 S.2.1 d_R_freeOf_65 rfl (lv_at hl 1 rfl) ?_
        refine o_get (v := .ref (ma 4)) S hC kf_R hw.1 rfl 6 (by decide) q_697 rfl d_R_freeOf_66 ?_
        refine lv_iload_n S.1 S.2.1 d_R_freeOf_69 rfl (lv_at hl 0 rfl) ?_
        refine o_iald (j := k) S hC (mi_4 hw) (by decide) (by omega) d_R_freeOf_70 ?_
        refine tpi (y := nI (se k)) (hT k (by omega)).2.2.2.1 ?_
        refine o_iald (j := se k) S hC (mi_12 hw) (by decide) (by omega) d_R_freeOf_71 ?_
        refine tpi (y := fr (se k)) (hs _ (by omega)) ?_
        refine lv_ior S.1 S.2.1 d_R_freeOf_72 ?_
        refine m_iast (i := k) (x := (fr (fi k) ||| fr (se k))) 12 S hC hD hw hS (by decide) (by decide) (by decide) (by decide) (show k < 12 by omega) d_R_freeOf_73 (fun H locs J4 eJ4 oJ4 hw hS => ?_)
        have hT : mT kd wh fi se lo hi J4 n := hT.to (fun p hp => oJ4 p (by omega))
        refine lv_aload_n S.1 S.2.1 d_R_freeOf_74 rfl (lv_at hl 1 rfl) ?_
        refine o_get (v := .ref (ma 1)) S hC kf_R hw.1 rfl 3 (by decide) q_694 rfl d_R_freeOf_75 ?_
        refine lv_iload_n S.1 S.2.1 d_R_freeOf_78 rfl (lv_at hl 0 rfl) ?_
        refine o_iald (j := k) S hC (mi_1 hw) (by decide) (by omega) d_R_freeOf_79 ?_
        refine tpi (y := nI (kd k)) (hT k (by omega)).1 ?_
        refine lv_bipush (v := 6) S.1 S.2.1 d_R_freeOf_80 (by decide) ?_
        refine lv_icmp_ne (tgt := 108) S.1 S.2.1 d_R_freeOf_82 (by decide) (fun _ => ?_) (fun hx9 => absurd hx9 (by rw [hkd]; decide))
        refine lv_iinc (v := nI (k + 1)) S.1 S.2.1 d_R_freeOf_108 hl (k := 0) rfl (nI_1 k) (by decide) rfl (fun ls hl => ?_)
        have hl : lv_has ls 3 [(2, .int (nI (k + 1))), (0, .ref (ma 0)), (1, .int (nI f))] := hl
        refine lv_goto (tgt := 2) S.1 S.2.1 d_R_freeOf_111 (by decide) ?_
        exact ih2 (k + 1) _ _ _ ls (by omega) (fun p hp => by rw [oJ4 p hp]; exact og p hp) (fun j hj => if e0 : j = k then by rw [e0, eJ4, pk_us, hfr k (by omega)]; rw [frE_m (by omega) (by omega)] else by rw [eJ4, pk_un e0]; exact hs j (by omega)) hT hw hS (lv_sub hl [0, 1, 2] rfl)
      · have hfv := vp (by omega)
        refine lv_aload_n S.1 S.2.1 d_R_freeOf_7 rfl (lv_at hl 1 rfl) ?_
        refine o_get (v := .ref (ma 1)) S hC kf_R hw.1 rfl 3 (by decide) q_694 rfl d_R_freeOf_8 ?_
        refine lv_iload_n S.1 S.2.1 d_R_freeOf_11 rfl (lv_at hl 0 rfl) ?_
        refine o_iald (j := k) S hC (mi_1 hw) (by decide) (by omega) d_R_freeOf_12 ?_
        refine tpi (y := nI (kd k)) (hT k (by omega)).1 ?_
        refine lv_iconst (v := 2) S.1 S.2.1 d_R_freeOf_13 (by decide) ?_
        refine lv_icmp_gt (tgt := 45) S.1 S.2.1 d_R_freeOf_14 (by decide) (fun _ => ?_) (fun hx9 => absurd (by rw [hkd]; decide) hx9)
        refine lv_aload_n S.1 S.2.1 d_R_freeOf_45 rfl (lv_at hl 1 rfl) ?_
        refine o_get (v := .ref (ma 12)) S hC kf_R hw.1 rfl 14 (by decide) q_707 rfl d_R_freeOf_46 ?_
        refine lv_iload_n S.1 S.2.1 d_R_freeOf_49 rfl (lv_at hl 0 rfl) ?_
        refine lv_aload_n S.1 S.2.1 d_R_freeOf_50 rfl (lv_at hl 1 rfl) ?_
        refine o_get (v := .ref (ma 12)) S hC kf_R hw.1 rfl 14 (by decide) q_707 rfl d_R_freeOf_51 ?_
        refine lv_aload_n S.1 S.2.1 d_R_freeOf_54 rfl (lv_at hl 1 rfl) ?_
        refine o_get (v := .ref (ma 3)) S hC kf_R hw.1 rfl 5 (by decide) q_696 rfl d_R_freeOf_55 ?_
        refine lv_iload_n S.1 S.2.1 d_R_freeOf_58 rfl (lv_at hl 0 rfl) ?_
        refine o_iald (j := k) S hC (mi_3 hw) (by decide) (by omega) d_R_freeOf_59 ?_
        refine tpi (y := nI (fi k)) (hT k (by omega)).2.2.1 ?_
        refine o_iald (j := fi k) S hC (mi_12 hw) (by decide) (by omega) d_R_freeOf_60 ?_
        refine tpi (y := fr (fi k)) (hs _ (by omega)) ?_
        refine lv_aload_n S.1 S.2.1 d_R_freeOf_61 rfl (lv_at hl 1 rfl) ?_
        refine o_get (v := .ref (ma 12)) S hC kf_R hw.1 rfl 14 (by decide) q_707 rfl d_R_freeOf_62 ?_
        refine lv_aload_n S.1 S.2.1 d_R_freeOf_65 rfl (lv_at hl 1 rfl) ?_
        refine o_get (v := .ref (ma 4)) S hC kf_R hw.1 rfl 6 (by decide) q_697 rfl d_R_freeOf_66 ?_
        refine lv_iload_n S.1 S.2.1 d_R_freeOf_69 rfl (lv_at hl 0 rfl) ?_
        refine o_iald (j := k) S hC (mi_4 hw) (by decide) (by omega) d_R_freeOf_70 ?_
        refine tpi (y := nI (se k)) (hT k (by omega)).2.2.2.1 ?_
        refine o_iald (j := se k) S hC (mi_12 hw) (by decide) (by omega) d_R_freeOf_71 ?_
        refine tpi (y := fr (se k)) (hs _ (by omega)) ?_
        refine lv_ior S.1 S.2.1 d_R_freeOf_72 ?_
        refine m_iast (i := k) (x := (fr (fi k) ||| fr (se k))) 12 S hC hD hw hS (by decide) (by decide) (by decide) (by decide) (show k < 12 by omega) d_R_freeOf_73 (fun H locs J5 eJ5 oJ5 hw hS => ?_)
        have hT : mT kd wh fi se lo hi J5 n := hT.to (fun p hp => oJ5 p (by omega))
        refine lv_aload_n S.1 S.2.1 d_R_freeOf_74 rfl (lv_at hl 1 rfl) ?_
        refine o_get (v := .ref (ma 1)) S hC kf_R hw.1 rfl 3 (by decide) q_694 rfl d_R_freeOf_75 ?_
        refine lv_iload_n S.1 S.2.1 d_R_freeOf_78 rfl (lv_at hl 0 rfl) ?_
        refine o_iald (j := k) S hC (mi_1 hw) (by decide) (by omega) d_R_freeOf_79 ?_
        refine tpi (y := nI (kd k)) (hT k (by omega)).1 ?_
        refine lv_bipush (v := 6) S.1 S.2.1 d_R_freeOf_80 (by decide) ?_
        refine lv_icmp_ne (tgt := 108) S.1 S.2.1 d_R_freeOf_82 (by decide) (fun _ => ?_) (fun hx9 => absurd hx9 (by rw [hkd]; decide))
        refine lv_iinc (v := nI (k + 1)) S.1 S.2.1 d_R_freeOf_108 hl (k := 0) rfl (nI_1 k) (by decide) rfl (fun ls hl => ?_)
        have hl : lv_has ls 3 [(2, .int (nI (k + 1))), (0, .ref (ma 0)), (1, .int (nI f))] := hl
        refine lv_goto (tgt := 2) S.1 S.2.1 d_R_freeOf_111 (by decide) ?_
        exact ih2 (k + 1) _ _ _ ls (by omega) (fun p hp => by rw [oJ5 p hp]; exact og p hp) (fun j hj => if e0 : j = k then by rw [e0, eJ5, pk_us, hfr k (by omega)]; rw [frE_m (by omega) (by omega)] else by rw [eJ5, pk_un e0]; exact hs j (by omega)) hT hw hS (lv_sub hl [0, 1, 2] rfl)
      · have hfv := vp (by omega)
        refine lv_aload_n S.1 S.2.1 d_R_freeOf_7 rfl (lv_at hl 1 rfl) ?_
        refine o_get (v := .ref (ma 1)) S hC kf_R hw.1 rfl 3 (by decide) q_694 rfl d_R_freeOf_8 ?_
        refine lv_iload_n S.1 S.2.1 d_R_freeOf_11 rfl (lv_at hl 0 rfl) ?_
        refine o_iald (j := k) S hC (mi_1 hw) (by decide) (by omega) d_R_freeOf_12 ?_
        refine tpi (y := nI (kd k)) (hT k (by omega)).1 ?_
        refine lv_iconst (v := 2) S.1 S.2.1 d_R_freeOf_13 (by decide) ?_
        refine lv_icmp_gt (tgt := 45) S.1 S.2.1 d_R_freeOf_14 (by decide) (fun _ => ?_) (fun hx9 => absurd (by rw [hkd]; decide) hx9)
        refine lv_aload_n S.1 S.2.1 d_R_freeOf_45 rfl (lv_at hl 1 rfl) ?_
        refine o_get (v := .ref (ma 12)) S hC kf_R hw.1 rfl 14 (by decide) q_707 rfl d_R_freeOf_46 ?_
        refine lv_iload_n S.1 S.2.1 d_R_freeOf_49 rfl (lv_at hl 0 rfl) ?_
        refine lv_aload_n S.1 S.2.1 d_R_freeOf_50 rfl (lv_at hl 1 rfl) ?_
        refine o_get (v := .ref (ma 12)) S hC kf_R hw.1 rfl 14 (by decide) q_707 rfl d_R_freeOf_51 ?_
        refine lv_aload_n S.1 S.2.1 d_R_freeOf_54 rfl (lv_at hl 1 rfl) ?_
        refine o_get (v := .ref (ma 3)) S hC kf_R hw.1 rfl 5 (by decide) q_696 rfl d_R_freeOf_55 ?_
        refine lv_iload_n S.1 S.2.1 d_R_freeOf_58 rfl (lv_at hl 0 rfl) ?_
        refine o_iald (j := k) S hC (mi_3 hw) (by decide) (by omega) d_R_freeOf_59 ?_
        refine tpi (y := nI (fi k)) (hT k (by omega)).2.2.1 ?_
        refine o_iald (j := fi k) S hC (mi_12 hw) (by decide) (by omega) d_R_freeOf_60 ?_
        refine tpi (y := fr (fi k)) (hs _ (by omega)) ?_
        refine lv_aload_n S.1 S.2.1 d_R_freeOf_61 rfl (lv_at hl 1 rfl) ?_
        refine o_get (v := .ref (ma 12)) S hC kf_R hw.1 rfl 14 (by decide) q_707 rfl d_R_freeOf_62 ?_
        refine lv_aload_n S.1 S.2.1 d_R_freeOf_65 rfl (lv_at hl 1 rfl) ?_
        refine o_get (v := .ref (ma 4)) S hC kf_R hw.1 rfl 6 (by decide) q_697 rfl d_R_freeOf_66 ?_
        refine lv_iload_n S.1 S.2.1 d_R_freeOf_69 rfl (lv_at hl 0 rfl) ?_
        refine o_iald (j := k) S hC (mi_4 hw) (by decide) (by omega) d_R_freeOf_70 ?_
        refine tpi (y := nI (se k)) (hT k (by omega)).2.2.2.1 ?_
        refine o_iald (j := se k) S hC (mi_12 hw) (by decide) (by omega) d_R_freeOf_71 ?_
        refine tpi (y := fr (se k)) (hs _ (by omega)) ?_
        refine lv_ior S.1 S.2.1 d_R_freeOf_72 ?_
        refine m_iast (i := k) (x := (fr (fi k) ||| fr (se k))) 12 S hC hD hw hS (by decide) (by decide) (by decide) (by decide) (show k < 12 by omega) d_R_freeOf_73 (fun H locs J6 eJ6 oJ6 hw hS => ?_)
        have hT : mT kd wh fi se lo hi J6 n := hT.to (fun p hp => oJ6 p (by omega))
        refine lv_aload_n S.1 S.2.1 d_R_freeOf_74 rfl (lv_at hl 1 rfl) ?_
        refine o_get (v := .ref (ma 1)) S hC kf_R hw.1 rfl 3 (by decide) q_694 rfl d_R_freeOf_75 ?_
        refine lv_iload_n S.1 S.2.1 d_R_freeOf_78 rfl (lv_at hl 0 rfl) ?_
        refine o_iald (j := k) S hC (mi_1 hw) (by decide) (by omega) d_R_freeOf_79 ?_
        refine tpi (y := nI (kd k)) (hT k (by omega)).1 ?_
        refine lv_bipush (v := 6) S.1 S.2.1 d_R_freeOf_80 (by decide) ?_
        refine lv_icmp_ne (tgt := 108) S.1 S.2.1 d_R_freeOf_82 (by decide) (fun _ => ?_) (fun hx9 => absurd hx9 (by rw [hkd]; decide))
        refine lv_iinc (v := nI (k + 1)) S.1 S.2.1 d_R_freeOf_108 hl (k := 0) rfl (nI_1 k) (by decide) rfl (fun ls hl => ?_)
        have hl : lv_has ls 3 [(2, .int (nI (k + 1))), (0, .ref (ma 0)), (1, .int (nI f))] := hl
        refine lv_goto (tgt := 2) S.1 S.2.1 d_R_freeOf_111 (by decide) ?_
        exact ih2 (k + 1) _ _ _ ls (by omega) (fun p hp => by rw [oJ6 p hp]; exact og p hp) (fun j hj => if e0 : j = k then by rw [e0, eJ6, pk_us, hfr k (by omega)]; rw [frE_m (by omega) (by omega)] else by rw [eJ6, pk_un e0]; exact hs j (by omega)) hT hw hS (lv_sub hl [0, 1, 2] rfl)
      · have hfv := vp (by omega)
        refine lv_aload_n S.1 S.2.1 d_R_freeOf_7 rfl (lv_at hl 1 rfl) ?_
        refine o_get (v := .ref (ma 1)) S hC kf_R hw.1 rfl 3 (by decide) q_694 rfl d_R_freeOf_8 ?_
        refine lv_iload_n S.1 S.2.1 d_R_freeOf_11 rfl (lv_at hl 0 rfl) ?_
        refine o_iald (j := k) S hC (mi_1 hw) (by decide) (by omega) d_R_freeOf_12 ?_
        refine tpi (y := nI (kd k)) (hT k (by omega)).1 ?_
        refine lv_iconst (v := 2) S.1 S.2.1 d_R_freeOf_13 (by decide) ?_
        refine lv_icmp_gt (tgt := 45) S.1 S.2.1 d_R_freeOf_14 (by decide) (fun _ => ?_) (fun hx9 => absurd (by rw [hkd]; decide) hx9)
        refine lv_aload_n S.1 S.2.1 d_R_freeOf_45 rfl (lv_at hl 1 rfl) ?_
        refine o_get (v := .ref (ma 12)) S hC kf_R hw.1 rfl 14 (by decide) q_707 rfl d_R_freeOf_46 ?_
        refine lv_iload_n S.1 S.2.1 d_R_freeOf_49 rfl (lv_at hl 0 rfl) ?_
        refine lv_aload_n S.1 S.2.1 d_R_freeOf_50 rfl (lv_at hl 1 rfl) ?_
        refine o_get (v := .ref (ma 12)) S hC kf_R hw.1 rfl 14 (by decide) q_707 rfl d_R_freeOf_51 ?_
        refine lv_aload_n S.1 S.2.1 d_R_freeOf_54 rfl (lv_at hl 1 rfl) ?_
        refine o_get (v := .ref (ma 3)) S hC kf_R hw.1 rfl 5 (by decide) q_696 rfl d_R_freeOf_55 ?_
        refine lv_iload_n S.1 S.2.1 d_R_freeOf_58 rfl (lv_at hl 0 rfl) ?_
        refine o_iald (j := k) S hC (mi_3 hw) (by decide) (by omega) d_R_freeOf_59 ?_
        refine tpi (y := nI (fi k)) (hT k (by omega)).2.2.1 ?_
        refine o_iald (j := fi k) S hC (mi_12 hw) (by decide) (by omega) d_R_freeOf_60 ?_
        refine tpi (y := fr (fi k)) (hs _ (by omega)) ?_
        refine lv_aload_n S.1 S.2.1 d_R_freeOf_61 rfl (lv_at hl 1 rfl) ?_
        refine o_get (v := .ref (ma 12)) S hC kf_R hw.1 rfl 14 (by decide) q_707 rfl d_R_freeOf_62 ?_
        refine lv_aload_n S.1 S.2.1 d_R_freeOf_65 rfl (lv_at hl 1 rfl) ?_
        refine o_get (v := .ref (ma 4)) S hC kf_R hw.1 rfl 6 (by decide) q_697 rfl d_R_freeOf_66 ?_
        refine lv_iload_n S.1 S.2.1 d_R_freeOf_69 rfl (lv_at hl 0 rfl) ?_
        refine o_iald (j := k) S hC (mi_4 hw) (by decide) (by omega) d_R_freeOf_70 ?_
        refine tpi (y := nI (se k)) (hT k (by omega)).2.2.2.1 ?_
        refine o_iald (j := se k) S hC (mi_12 hw) (by decide) (by omega) d_R_freeOf_71 ?_
        refine tpi (y := fr (se k)) (hs _ (by omega)) ?_
        refine lv_ior S.1 S.2.1 d_R_freeOf_72 ?_
        refine m_iast (i := k) (x := (fr (fi k) ||| fr (se k))) 12 S hC hD hw hS (by decide) (by decide) (by decide) (by decide) (show k < 12 by omega) d_R_freeOf_73 (fun H locs J7 eJ7 oJ7 hw hS => ?_)
        have hT : mT kd wh fi se lo hi J7 n := hT.to (fun p hp => oJ7 p (by omega))
        refine lv_aload_n S.1 S.2.1 d_R_freeOf_74 rfl (lv_at hl 1 rfl) ?_
        refine o_get (v := .ref (ma 1)) S hC kf_R hw.1 rfl 3 (by decide) q_694 rfl d_R_freeOf_75 ?_
        refine lv_iload_n S.1 S.2.1 d_R_freeOf_78 rfl (lv_at hl 0 rfl) ?_
        refine o_iald (j := k) S hC (mi_1 hw) (by decide) (by omega) d_R_freeOf_79 ?_
        refine tpi (y := nI (kd k)) (hT k (by omega)).1 ?_
        refine lv_bipush (v := 6) S.1 S.2.1 d_R_freeOf_80 (by decide) ?_
        refine lv_icmp_ne (tgt := 108) S.1 S.2.1 d_R_freeOf_82 (by decide) (fun hx9 => absurd (by rw [hkd]; decide) hx9) (fun _ => ?_)
        refine lv_aload_n S.1 S.2.1 d_R_freeOf_85 rfl (lv_at hl 1 rfl) ?_
        refine o_get (v := .ref (ma 12)) S hC kf_R hw.1 rfl 14 (by decide) q_707 rfl d_R_freeOf_86 ?_
        refine lv_iload_n S.1 S.2.1 d_R_freeOf_89 rfl (lv_at hl 0 rfl) ?_
        refine lv_aload_n S.1 S.2.1 d_R_freeOf_90 rfl (lv_at hl 1 rfl) ?_
        refine o_get (v := .ref (ma 12)) S hC kf_R hw.1 rfl 14 (by decide) q_707 rfl d_R_freeOf_91 ?_
        refine lv_iload_n S.1 S.2.1 d_R_freeOf_94 rfl (lv_at hl 0 rfl) ?_
        refine o_iald (j := k) S hC (mi_12 hw) (by decide) (by omega) d_R_freeOf_95 ?_
        refine tpi (y := (fr (fi k) ||| fr (se k))) (by rw [eJ7, pk_us]) ?_
        refine lv_iconst (v := 1) S.1 S.2.1 d_R_freeOf_96 (by decide) ?_
        refine lv_aload_n S.1 S.2.1 d_R_freeOf_97 rfl (lv_at hl 1 rfl) ?_
        refine o_get (v := .ref (ma 2)) S hC kf_R hw.1 rfl 4 (by decide) q_695 rfl d_R_freeOf_98 ?_
        refine lv_iload_n S.1 S.2.1 d_R_freeOf_101 rfl (lv_at hl 0 rfl) ?_
        refine o_iald (j := k) S hC (mi_2 hw) (by decide) (by omega) d_R_freeOf_102 ?_
        refine tpi (y := nI (wh k)) (hT k (by omega)).2.1 ?_
        refine lv_ishl S.1 S.2.1 d_R_freeOf_103 ?_
        refine lv_iconst (v := (-1)) S.1 S.2.1 d_R_freeOf_104 (by decide) ?_
        refine lv_ixor S.1 S.2.1 d_R_freeOf_105 ?_
        refine lv_iand S.1 S.2.1 d_R_freeOf_106 ?_
        refine m_iast (i := k) (x := ((fr (fi k) ||| fr (se k)) &&& (((1 : Int32) <<< ((nI (wh k) : Int32) &&& 31)) ^^^ (-1)))) 12 S hC hD hw hS (by decide) (by decide) (by decide) (by decide) (show k < 12 by omega) d_R_freeOf_107 (fun H locs J8 eJ8 oJ8 hw hS => ?_)
        have hT : mT kd wh fi se lo hi J8 n := hT.to (fun p hp => oJ8 p (by omega))
        refine lv_iinc (v := nI (k + 1)) S.1 S.2.1 d_R_freeOf_108 hl (k := 0) rfl (nI_1 k) (by decide) rfl (fun ls hl => ?_)
        have hl : lv_has ls 3 [(2, .int (nI (k + 1))), (0, .ref (ma 0)), (1, .int (nI f))] := hl
        refine lv_goto (tgt := 2) S.1 S.2.1 d_R_freeOf_111 (by decide) ?_
        exact ih2 (k + 1) _ _ _ ls (by omega) (fun p hp => by rw [oJ8 p hp, oJ7 p hp]; exact og p hp) (fun j hj => if e0 : j = k then by rw [e0, eJ8, pk_us, hfr k (by omega)]; rw [frE_6 hkd]; rfl else by rw [eJ8, pk_un e0, eJ7, pk_un e0]; exact hs j (by omega)) hT hw hS (lv_sub hl [0, 1, 2] rfl)
      · have hfv := vp (by omega)
        refine lv_aload_n S.1 S.2.1 d_R_freeOf_7 rfl (lv_at hl 1 rfl) ?_
        refine o_get (v := .ref (ma 1)) S hC kf_R hw.1 rfl 3 (by decide) q_694 rfl d_R_freeOf_8 ?_
        refine lv_iload_n S.1 S.2.1 d_R_freeOf_11 rfl (lv_at hl 0 rfl) ?_
        refine o_iald (j := k) S hC (mi_1 hw) (by decide) (by omega) d_R_freeOf_12 ?_
        refine tpi (y := nI (kd k)) (hT k (by omega)).1 ?_
        refine lv_iconst (v := 2) S.1 S.2.1 d_R_freeOf_13 (by decide) ?_
        refine lv_icmp_gt (tgt := 45) S.1 S.2.1 d_R_freeOf_14 (by decide) (fun _ => ?_) (fun hx9 => absurd (by rw [hkd]; decide) hx9)
        refine lv_aload_n S.1 S.2.1 d_R_freeOf_45 rfl (lv_at hl 1 rfl) ?_
        refine o_get (v := .ref (ma 12)) S hC kf_R hw.1 rfl 14 (by decide) q_707 rfl d_R_freeOf_46 ?_
        refine lv_iload_n S.1 S.2.1 d_R_freeOf_49 rfl (lv_at hl 0 rfl) ?_
        refine lv_aload_n S.1 S.2.1 d_R_freeOf_50 rfl (lv_at hl 1 rfl) ?_
        refine o_get (v := .ref (ma 12)) S hC kf_R hw.1 rfl 14 (by decide) q_707 rfl d_R_freeOf_51 ?_
        refine lv_aload_n S.1 S.2.1 d_R_freeOf_54 rfl (lv_at hl 1 rfl) ?_
        refine o_get (v := .ref (ma 3)) S hC kf_R hw.1 rfl 5 (by decide) q_696 rfl d_R_freeOf_55 ?_
        refine lv_iload_n S.1 S.2.1 d_R_freeOf_58 rfl (lv_at hl 0 rfl) ?_
        refine o_iald (j := k) S hC (mi_3 hw) (by decide) (by omega) d_R_freeOf_59 ?_
        refine tpi (y := nI (fi k)) (hT k (by omega)).2.2.1 ?_
        refine o_iald (j := fi k) S hC (mi_12 hw) (by decide) (by omega) d_R_freeOf_60 ?_
        refine tpi (y := fr (fi k)) (hs _ (by omega)) ?_
        refine lv_aload_n S.1 S.2.1 d_R_freeOf_61 rfl (lv_at hl 1 rfl) ?_
        refine o_get (v := .ref (ma 12)) S hC kf_R hw.1 rfl 14 (by decide) q_707 rfl d_R_freeOf_62 ?_
        refine lv_aload_n S.1 S.2.1 d_R_freeOf_65 rfl (lv_at hl 1 rfl) ?_
        refine o_get (v := .ref (ma 4)) S hC kf_R hw.1 rfl 6 (by decide) q_697 rfl d_R_freeOf_66 ?_
        refine lv_iload_n S.1 S.2.1 d_R_freeOf_69 rfl (lv_at hl 0 rfl) ?_
        refine o_iald (j := k) S hC (mi_4 hw) (by decide) (by omega) d_R_freeOf_70 ?_
        refine tpi (y := nI (se k)) (hT k (by omega)).2.2.2.1 ?_
        refine o_iald (j := se k) S hC (mi_12 hw) (by decide) (by omega) d_R_freeOf_71 ?_
        refine tpi (y := fr (se k)) (hs _ (by omega)) ?_
        refine lv_ior S.1 S.2.1 d_R_freeOf_72 ?_
        refine m_iast (i := k) (x := (fr (fi k) ||| fr (se k))) 12 S hC hD hw hS (by decide) (by decide) (by decide) (by decide) (show k < 12 by omega) d_R_freeOf_73 (fun H locs J9 eJ9 oJ9 hw hS => ?_)
        have hT : mT kd wh fi se lo hi J9 n := hT.to (fun p hp => oJ9 p (by omega))
        refine lv_aload_n S.1 S.2.1 d_R_freeOf_74 rfl (lv_at hl 1 rfl) ?_
        refine o_get (v := .ref (ma 1)) S hC kf_R hw.1 rfl 3 (by decide) q_694 rfl d_R_freeOf_75 ?_
        refine lv_iload_n S.1 S.2.1 d_R_freeOf_78 rfl (lv_at hl 0 rfl) ?_
        refine o_iald (j := k) S hC (mi_1 hw) (by decide) (by omega) d_R_freeOf_79 ?_
        refine tpi (y := nI (kd k)) (hT k (by omega)).1 ?_
        refine lv_bipush (v := 6) S.1 S.2.1 d_R_freeOf_80 (by decide) ?_
        refine lv_icmp_ne (tgt := 108) S.1 S.2.1 d_R_freeOf_82 (by decide) (fun _ => ?_) (fun hx9 => absurd hx9 (by rw [hkd]; decide))
        refine lv_iinc (v := nI (k + 1)) S.1 S.2.1 d_R_freeOf_108 hl (k := 0) rfl (nI_1 k) (by decide) rfl (fun ls hl => ?_)
        have hl : lv_has ls 3 [(2, .int (nI (k + 1))), (0, .ref (ma 0)), (1, .int (nI f))] := hl
        refine lv_goto (tgt := 2) S.1 S.2.1 d_R_freeOf_111 (by decide) ?_
        exact ih2 (k + 1) _ _ _ ls (by omega) (fun p hp => by rw [oJ9 p hp]; exact og p hp) (fun j hj => if e0 : j = k then by rw [e0, eJ9, pk_us, hfr k (by omega)]; rw [frE_m (by omega) (by omega)] else by rw [eJ9, pk_un e0]; exact hs j (by omega)) hT hw hS (lv_sub hl [0, 1, 2] rfl)
      · have hfv := vp (by omega)
        refine lv_aload_n S.1 S.2.1 d_R_freeOf_7 rfl (lv_at hl 1 rfl) ?_
        refine o_get (v := .ref (ma 1)) S hC kf_R hw.1 rfl 3 (by decide) q_694 rfl d_R_freeOf_8 ?_
        refine lv_iload_n S.1 S.2.1 d_R_freeOf_11 rfl (lv_at hl 0 rfl) ?_
        refine o_iald (j := k) S hC (mi_1 hw) (by decide) (by omega) d_R_freeOf_12 ?_
        refine tpi (y := nI (kd k)) (hT k (by omega)).1 ?_
        refine lv_iconst (v := 2) S.1 S.2.1 d_R_freeOf_13 (by decide) ?_
        refine lv_icmp_gt (tgt := 45) S.1 S.2.1 d_R_freeOf_14 (by decide) (fun _ => ?_) (fun hx9 => absurd (by rw [hkd]; decide) hx9)
        refine lv_aload_n S.1 S.2.1 d_R_freeOf_45 rfl (lv_at hl 1 rfl) ?_
        refine o_get (v := .ref (ma 12)) S hC kf_R hw.1 rfl 14 (by decide) q_707 rfl d_R_freeOf_46 ?_
        refine lv_iload_n S.1 S.2.1 d_R_freeOf_49 rfl (lv_at hl 0 rfl) ?_
        refine lv_aload_n S.1 S.2.1 d_R_freeOf_50 rfl (lv_at hl 1 rfl) ?_
        refine o_get (v := .ref (ma 12)) S hC kf_R hw.1 rfl 14 (by decide) q_707 rfl d_R_freeOf_51 ?_
        refine lv_aload_n S.1 S.2.1 d_R_freeOf_54 rfl (lv_at hl 1 rfl) ?_
        refine o_get (v := .ref (ma 3)) S hC kf_R hw.1 rfl 5 (by decide) q_696 rfl d_R_freeOf_55 ?_
        refine lv_iload_n S.1 S.2.1 d_R_freeOf_58 rfl (lv_at hl 0 rfl) ?_
        refine o_iald (j := k) S hC (mi_3 hw) (by decide) (by omega) d_R_freeOf_59 ?_
        refine tpi (y := nI (fi k)) (hT k (by omega)).2.2.1 ?_
        refine o_iald (j := fi k) S hC (mi_12 hw) (by decide) (by omega) d_R_freeOf_60 ?_
        refine tpi (y := fr (fi k)) (hs _ (by omega)) ?_
        refine lv_aload_n S.1 S.2.1 d_R_freeOf_61 rfl (lv_at hl 1 rfl) ?_
        refine o_get (v := .ref (ma 12)) S hC kf_R hw.1 rfl 14 (by decide) q_707 rfl d_R_freeOf_62 ?_
        refine lv_aload_n S.1 S.2.1 d_R_freeOf_65 rfl (lv_at hl 1 rfl) ?_
        refine o_get (v := .ref (ma 4)) S hC kf_R hw.1 rfl 6 (by decide) q_697 rfl d_R_freeOf_66 ?_
        refine lv_iload_n S.1 S.2.1 d_R_freeOf_69 rfl (lv_at hl 0 rfl) ?_
        refine o_iald (j := k) S hC (mi_4 hw) (by decide) (by omega) d_R_freeOf_70 ?_
        refine tpi (y := nI (se k)) (hT k (by omega)).2.2.2.1 ?_
        refine o_iald (j := se k) S hC (mi_12 hw) (by decide) (by omega) d_R_freeOf_71 ?_
        refine tpi (y := fr (se k)) (hs _ (by omega)) ?_
        refine lv_ior S.1 S.2.1 d_R_freeOf_72 ?_
        refine m_iast (i := k) (x := (fr (fi k) ||| fr (se k))) 12 S hC hD hw hS (by decide) (by decide) (by decide) (by decide) (show k < 12 by omega) d_R_freeOf_73 (fun H locs J10 eJ10 oJ10 hw hS => ?_)
        have hT : mT kd wh fi se lo hi J10 n := hT.to (fun p hp => oJ10 p (by omega))
        refine lv_aload_n S.1 S.2.1 d_R_freeOf_74 rfl (lv_at hl 1 rfl) ?_
        refine o_get (v := .ref (ma 1)) S hC kf_R hw.1 rfl 3 (by decide) q_694 rfl d_R_freeOf_75 ?_
        refine lv_iload_n S.1 S.2.1 d_R_freeOf_78 rfl (lv_at hl 0 rfl) ?_
        refine o_iald (j := k) S hC (mi_1 hw) (by decide) (by omega) d_R_freeOf_79 ?_
        refine tpi (y := nI (kd k)) (hT k (by omega)).1 ?_
        refine lv_bipush (v := 6) S.1 S.2.1 d_R_freeOf_80 (by decide) ?_
        refine lv_icmp_ne (tgt := 108) S.1 S.2.1 d_R_freeOf_82 (by decide) (fun _ => ?_) (fun hx9 => absurd hx9 (by rw [hkd]; decide))
        refine lv_iinc (v := nI (k + 1)) S.1 S.2.1 d_R_freeOf_108 hl (k := 0) rfl (nI_1 k) (by decide) rfl (fun ls hl => ?_)
        have hl : lv_has ls 3 [(2, .int (nI (k + 1))), (0, .ref (ma 0)), (1, .int (nI f))] := hl
        refine lv_goto (tgt := 2) S.1 S.2.1 d_R_freeOf_111 (by decide) ?_
        exact ih2 (k + 1) _ _ _ ls (by omega) (fun p hp => by rw [oJ10 p hp]; exact og p hp) (fun j hj => if e0 : j = k then by rw [e0, eJ10, pk_us, hfr k (by omega)]; rw [frE_m (by omega) (by omega)] else by rw [eJ10, pk_un e0]; exact hs j (by omega)) hT hw hS (lv_sub hl [0, 1, 2] rfl)
      · have hfv := vp (by omega)
        refine lv_aload_n S.1 S.2.1 d_R_freeOf_7 rfl (lv_at hl 1 rfl) ?_
        refine o_get (v := .ref (ma 1)) S hC kf_R hw.1 rfl 3 (by decide) q_694 rfl d_R_freeOf_8 ?_
        refine lv_iload_n S.1 S.2.1 d_R_freeOf_11 rfl (lv_at hl 0 rfl) ?_
        refine o_iald (j := k) S hC (mi_1 hw) (by decide) (by omega) d_R_freeOf_12 ?_
        refine tpi (y := nI (kd k)) (hT k (by omega)).1 ?_
        refine lv_iconst (v := 2) S.1 S.2.1 d_R_freeOf_13 (by decide) ?_
        refine lv_icmp_gt (tgt := 45) S.1 S.2.1 d_R_freeOf_14 (by decide) (fun _ => ?_) (fun hx9 => absurd (by rw [hkd]; decide) hx9)
        refine lv_aload_n S.1 S.2.1 d_R_freeOf_45 rfl (lv_at hl 1 rfl) ?_
        refine o_get (v := .ref (ma 12)) S hC kf_R hw.1 rfl 14 (by decide) q_707 rfl d_R_freeOf_46 ?_
        refine lv_iload_n S.1 S.2.1 d_R_freeOf_49 rfl (lv_at hl 0 rfl) ?_
        refine lv_aload_n S.1 S.2.1 d_R_freeOf_50 rfl (lv_at hl 1 rfl) ?_
        refine o_get (v := .ref (ma 12)) S hC kf_R hw.1 rfl 14 (by decide) q_707 rfl d_R_freeOf_51 ?_
        refine lv_aload_n S.1 S.2.1 d_R_freeOf_54 rfl (lv_at hl 1 rfl) ?_
        refine o_get (v := .ref (ma 3)) S hC kf_R hw.1 rfl 5 (by decide) q_696 rfl d_R_freeOf_55 ?_
        refine lv_iload_n S.1 S.2.1 d_R_freeOf_58 rfl (lv_at hl 0 rfl) ?_
        refine o_iald (j := k) S hC (mi_3 hw) (by decide) (by omega) d_R_freeOf_59 ?_
        refine tpi (y := nI (fi k)) (hT k (by omega)).2.2.1 ?_
        refine o_iald (j := fi k) S hC (mi_12 hw) (by decide) (by omega) d_R_freeOf_60 ?_
        refine tpi (y := fr (fi k)) (hs _ (by omega)) ?_
        refine lv_aload_n S.1 S.2.1 d_R_freeOf_61 rfl (lv_at hl 1 rfl) ?_
        refine o_get (v := .ref (ma 12)) S hC kf_R hw.1 rfl 14 (by decide) q_707 rfl d_R_freeOf_62 ?_
        refine lv_aload_n S.1 S.2.1 d_R_freeOf_65 rfl (lv_at hl 1 rfl) ?_
        refine o_get (v := .ref (ma 4)) S hC kf_R hw.1 rfl 6 (by decide) q_697 rfl d_R_freeOf_66 ?_
        refine lv_iload_n S.1 S.2.1 d_R_freeOf_69 rfl (lv_at hl 0 rfl) ?_
        refine o_iald (j := k) S hC (mi_4 hw) (by decide) (by omega) d_R_freeOf_70 ?_
        refine tpi (y := nI (se k)) (hT k (by omega)).2.2.2.1 ?_
        refine o_iald (j := se k) S hC (mi_12 hw) (by decide) (by omega) d_R_freeOf_71 ?_
        refine tpi (y := fr (se k)) (hs _ (by omega)) ?_
        refine lv_ior S.1 S.2.1 d_R_freeOf_72 ?_
        refine m_iast (i := k) (x := (fr (fi k) ||| fr (se k))) 12 S hC hD hw hS (by decide) (by decide) (by decide) (by decide) (show k < 12 by omega) d_R_freeOf_73 (fun H locs J11 eJ11 oJ11 hw hS => ?_)
        have hT : mT kd wh fi se lo hi J11 n := hT.to (fun p hp => oJ11 p (by omega))
        refine lv_aload_n S.1 S.2.1 d_R_freeOf_74 rfl (lv_at hl 1 rfl) ?_
        refine o_get (v := .ref (ma 1)) S hC kf_R hw.1 rfl 3 (by decide) q_694 rfl d_R_freeOf_75 ?_
        refine lv_iload_n S.1 S.2.1 d_R_freeOf_78 rfl (lv_at hl 0 rfl) ?_
        refine o_iald (j := k) S hC (mi_1 hw) (by decide) (by omega) d_R_freeOf_79 ?_
        refine tpi (y := nI (kd k)) (hT k (by omega)).1 ?_
        refine lv_bipush (v := 6) S.1 S.2.1 d_R_freeOf_80 (by decide) ?_
        refine lv_icmp_ne (tgt := 108) S.1 S.2.1 d_R_freeOf_82 (by decide) (fun _ => ?_) (fun hx9 => absurd hx9 (by rw [hkd]; decide))
        refine lv_iinc (v := nI (k + 1)) S.1 S.2.1 d_R_freeOf_108 hl (k := 0) rfl (nI_1 k) (by decide) rfl (fun ls hl => ?_)
        have hl : lv_has ls 3 [(2, .int (nI (k + 1))), (0, .ref (ma 0)), (1, .int (nI f))] := hl
        refine lv_goto (tgt := 2) S.1 S.2.1 d_R_freeOf_111 (by decide) ?_
        exact ih2 (k + 1) _ _ _ ls (by omega) (fun p hp => by rw [oJ11 p hp]; exact og p hp) (fun j hj => if e0 : j = k then by rw [e0, eJ11, pk_us, hfr k (by omega)]; rw [frE_m (by omega) (by omega)] else by rw [eJ11, pk_un e0]; exact hs j (by omega)) hT hw hS (lv_sub hl [0, 1, 2] rfl)
  exact key2 (f + 1) 0 J _ _ ls (by omega) (fun _ _ => rfl) (fun j hj => absurd hj (by omega)) hT hw hS (lv_sub hl [0, 1, 2] rfl)
set_option maxHeartbeats 4000000 in
set_option maxRecDepth 100000 in
theorem c_R_rangedOf (l : Launch) {K : KT} {ma : Nat → Nat} {n pl : Nat} {wt : Int32} {J : Nat → Nat → Int32} {X : Nat → Int64} {kd wh fi se : Nat → Nat} {lo hi : Nat → Int32} {rg : Nat → Int32} {f : Nat} (hD : mD K ma) (hT : mT kd wh fi se lo hi J n) (hV : tabOk kd wh fi se lo hi n) (hn : n ≤ 12) (hf : f < n) (hrg : ∀ j, j < n → rg j = rgE kd wh fi se rg j) : Met l y_R_rangedOf (Cond.code y_R_rangedOf b_R_rangedOf 5 (some Jvm.ClassFile.FieldType.int) :: WALL) { frames := 1, cells := 0, slots := 0, locals := 20 } (pc0 K [.ref (ma 0), .int (nI f)] (fun H => mW K ma n wt pl J X H)) (va_Qi (fun r H => r = rg f ∧ ∃ J', (∀ p, p ≠ 13 → J' p = J p) ∧ (∀ j, j ≤ f → J' 13 j = rg j) ∧ mW K ma n wt pl J' X H) (fun u t => t.heap = u) (mA ma)) 0 0 (mA ma) := by
  refine met0 (own := "MetricLogMonitorModel") (by decide) rfl (Nat.le_of_ble_eq_true rfl) (fun p e s m below meth c ls S hr hk hnm hC hH hl => ?_)
  have hl : lv_has ls 5 [(0, .ref (ma 0)), (1, .int (nI f))] := hl
  have hS : va_S (mA ma) s.heap s.heap [] := va_S.rf
  have hA : ∀ q, (mA ma) q → kz K ≤ q := fun q h => by obtain ⟨i, hi, rfl⟩ := h; exact hD.2 i hi
  have hw := hH
  refine lv_iconst (v := 0) S.1 S.2.1 d_R_rangedOf_0 (by decide) ?_
  refine lv_istore_n S.1 S.2.1 d_R_rangedOf_1 rfl hl (by decide) rfl (fun ls hl => ?_)
  have hl : lv_has ls 5 [(2, .int 0), (0, .ref (ma 0)), (1, .int (nI f))] := hl
  have key2 : ∀ (d2 : Nat) (k : Nat) (g : Nat → Nat → Int32) (H : Heap) (locs : List Loc) (ls : Array Slot), k + d2 = f + 1 → (∀ p, p ≠ 13 → g p = J p) → (∀ j, j < k → g 13 j = rg j) → (mT kd wh fi se lo hi g n) → (mW K ma n wt pl g X H) → (va_S (mA ma) s.heap H locs) → lv_has ls 5 [(2, .int (nI k)), (0, .ref (ma 0)), (1, .int (nI f))] → W p l e ({ frames := 1, cells := 0, slots := 0, locals := 20 } : Room) s m ([.ref (ma 0), .int (nI f)] : List Value).toArray below meth c H locs 0 0 (MQ below (va_Qi (fun r H => r = rg f ∧ ∃ J', (∀ p, p ≠ 13 → J' p = J p) ∧ (∀ j, j ≤ f → J' 13 j = rg j) ∧ mW K ma n wt pl J' X H) (fun u t => t.heap = u) (mA ma)) ([.ref (ma 0), .int (nI f)] : List Value).toArray s 0 0 (mA ma)) (F0 m 2 ls []) := by
    intro d2
    induction d2 with
    | zero =>
      intro k g H locs ls hd2 og hs hT hw hS hl
      refine lv_iload_n S.1 S.2.1 d_R_rangedOf_2 rfl (lv_at hl 0 rfl) ?_
      refine lv_iload_n S.1 S.2.1 d_R_rangedOf_3 rfl (lv_at hl 2 rfl) ?_
      refine lv_icmp_gt (tgt := 243) S.1 S.2.1 d_R_rangedOf_4 (by decide) (fun _ => ?_) (fun hx9 => absurd (nI_lt (by omega) (by omega)) hx9)
      refine lv_aload_n S.1 S.2.1 d_R_rangedOf_243 rfl (lv_at hl 1 rfl) ?_
      refine o_get (v := .ref (ma 13)) S hC kf_R hw.1 rfl 15 (by decide) q_708 rfl d_R_rangedOf_244 ?_
      refine lv_iload_n S.1 S.2.1 d_R_rangedOf_247 rfl (lv_at hl 2 rfl) ?_
      refine o_iald (j := f) S hC (mi_13 hw) (by decide) (by omega) d_R_rangedOf_248 ?_
      exact rw_i S hr hk hS d_R_rangedOf_249 ⟨hs f (by omega), g, og, (fun j hj => hs j (by omega)), hw⟩
    | succ d2 ih2 =>
      intro k g H locs ls hd2 og hs hT hw hS hl
      refine lv_iload_n S.1 S.2.1 d_R_rangedOf_2 rfl (lv_at hl 0 rfl) ?_
      refine lv_iload_n S.1 S.2.1 d_R_rangedOf_3 rfl (lv_at hl 2 rfl) ?_
      refine lv_icmp_gt (tgt := 243) S.1 S.2.1 d_R_rangedOf_4 (by decide) (fun hx9 => absurd hx9 (nI_nlt (by omega) (by omega))) (fun _ => ?_)
      obtain ⟨v9, vw, vt, vp, vs9, vh9⟩ := hV k (by omega)
      rcases (show kd k = 0 ∨ kd k = 1 ∨ kd k = 2 ∨ kd k = 3 ∨ kd k = 4 ∨ kd k = 5 ∨ kd k = 6 ∨ kd k = 7 ∨ kd k = 8 ∨ kd k = 9 by omega) with hkd | hkd | hkd | hkd | hkd | hkd | hkd | hkd | hkd | hkd
      · have ht1 : tmr (fi k) := (vt (by omega)).1
        have ht2 : tmr (se k) := (vt (by omega)).2
        refine lv_aload_n S.1 S.2.1 d_R_rangedOf_7 rfl (lv_at hl 1 rfl) ?_
        refine o_get (v := .ref (ma 1)) S hC kf_R hw.1 rfl 3 (by decide) q_694 rfl d_R_rangedOf_8 ?_
        refine lv_iload_n S.1 S.2.1 d_R_rangedOf_11 rfl (lv_at hl 0 rfl) ?_
        refine o_iald (j := k) S hC (mi_1 hw) (by decide) (by omega) d_R_rangedOf_12 ?_
        refine tpi (y := nI (kd k)) (hT k (by omega)).1 ?_
        refine lv_iconst (v := 2) S.1 S.2.1 d_R_rangedOf_13 (by decide) ?_
        refine lv_icmp_gt (tgt := 29) S.1 S.2.1 d_R_rangedOf_14 (by decide) (fun hx9 => absurd hx9 (by rw [hkd]; decide)) (fun _ => ?_)
        refine lv_aload_n S.1 S.2.1 d_R_rangedOf_17 rfl (lv_at hl 1 rfl) ?_
        refine o_get (v := .ref (ma 3)) S hC kf_R hw.1 rfl 5 (by decide) q_696 rfl d_R_rangedOf_18 ?_
        refine lv_iload_n S.1 S.2.1 d_R_rangedOf_21 rfl (lv_at hl 0 rfl) ?_
        refine o_iald (j := k) S hC (mi_3 hw) (by decide) (by omega) d_R_rangedOf_22 ?_
        refine tpi (y := nI (fi k)) (hT k (by omega)).2.2.1 ?_
        refine kSi (rest := []) S (c_R_variable l (nI (fi k))) kc_R_variable ⟨q_809, q_810⟩ rfl rfl ⟨Nat.le_of_ble_eq_true rfl, Nat.le_of_ble_eq_true rfl⟩ hC hS hA trivial ⟨Nat.zero_le _, Nat.zero_le _⟩ hl.1 rfl rfl (Nat.le_of_ble_eq_true rfl) d_R_rangedOf_23 (fun r er => ?_)
        refine tpi (y := vr (fi k)) (er.trans (var_eq ht1)) ?_
        refine lv_goto (tgt := 40) S.1 S.2.1 d_R_rangedOf_26 (by decide) ?_
        refine lv_istore_n S.1 S.2.1 d_R_rangedOf_40 rfl hl (by decide) rfl (fun ls hl => ?_)
        have hl : lv_has ls 5 [(3, .int (vr (fi k))), (2, .int (nI k)), (0, .ref (ma 0)), (1, .int (nI f))] := hl
        refine lv_aload_n S.1 S.2.1 d_R_rangedOf_41 rfl (lv_at hl 2 rfl) ?_
        refine o_get (v := .ref (ma 1)) S hC kf_R hw.1 rfl 3 (by decide) q_694 rfl d_R_rangedOf_42 ?_
        refine lv_iload_n S.1 S.2.1 d_R_rangedOf_45 rfl (lv_at hl 1 rfl) ?_
        refine o_iald (j := k) S hC (mi_1 hw) (by decide) (by omega) d_R_rangedOf_46 ?_
        refine tpi (y := nI (kd k)) (hT k (by omega)).1 ?_
        refine lv_iconst (v := 2) S.1 S.2.1 d_R_rangedOf_47 (by decide) ?_
        refine lv_icmp_gt (tgt := 63) S.1 S.2.1 d_R_rangedOf_48 (by decide) (fun hx9 => absurd hx9 (by rw [hkd]; decide)) (fun _ => ?_)
        refine lv_aload_n S.1 S.2.1 d_R_rangedOf_51 rfl (lv_at hl 2 rfl) ?_
        refine o_get (v := .ref (ma 4)) S hC kf_R hw.1 rfl 6 (by decide) q_697 rfl d_R_rangedOf_52 ?_
        refine lv_iload_n S.1 S.2.1 d_R_rangedOf_55 rfl (lv_at hl 1 rfl) ?_
        refine o_iald (j := k) S hC (mi_4 hw) (by decide) (by omega) d_R_rangedOf_56 ?_
        refine tpi (y := nI (se k)) (hT k (by omega)).2.2.2.1 ?_
        refine kSi (rest := []) S (c_R_variable l (nI (se k))) kc_R_variable ⟨q_809, q_810⟩ rfl rfl ⟨Nat.le_of_ble_eq_true rfl, Nat.le_of_ble_eq_true rfl⟩ hC hS hA trivial ⟨Nat.zero_le _, Nat.zero_le _⟩ hl.1 rfl rfl (Nat.le_of_ble_eq_true rfl) d_R_rangedOf_57 (fun r er => ?_)
        refine tpi (y := vr (se k)) (er.trans (var_eq ht2)) ?_
        refine lv_goto (tgt := 74) S.1 S.2.1 d_R_rangedOf_60 (by decide) ?_
        refine lv_istore S.1 S.2.1 d_R_rangedOf_74 hl (by decide) rfl (fun ls hl => ?_)
        have hl : lv_has ls 5 [(4, .int (vr (se k))), (3, .int (vr (fi k))), (2, .int (nI k)), (0, .ref (ma 0)), (1, .int (nI f))] := hl
        refine lv_aload_n S.1 S.2.1 d_R_rangedOf_76 rfl (lv_at hl 3 rfl) ?_
        refine o_get (v := .ref (ma 1)) S hC kf_R hw.1 rfl 3 (by decide) q_694 rfl d_R_rangedOf_77 ?_
        refine lv_iload_n S.1 S.2.1 d_R_rangedOf_80 rfl (lv_at hl 2 rfl) ?_
        refine o_iald (j := k) S hC (mi_1 hw) (by decide) (by omega) d_R_rangedOf_81 ?_
        refine tpi (y := nI (kd k)) (hT k (by omega)).1 ?_
        refine lv_if_eq (tgt := 95) S.1 S.2.1 d_R_rangedOf_82 (by decide) (fun _ => ?_) (fun hx9 => absurd (by rw [hkd]; decide) hx9)
        refine lv_aload_n S.1 S.2.1 d_R_rangedOf_95 rfl (lv_at hl 3 rfl) ?_
        refine o_get (v := .ref (ma 13)) S hC kf_R hw.1 rfl 15 (by decide) q_708 rfl d_R_rangedOf_96 ?_
        refine lv_iload_n S.1 S.2.1 d_R_rangedOf_99 rfl (lv_at hl 2 rfl) ?_
        refine lv_iload_n S.1 S.2.1 d_R_rangedOf_100 rfl (lv_at hl 1 rfl) ?_
        refine lv_iload S.1 S.2.1 d_R_rangedOf_101 (lv_at hl 0 rfl) ?_
        refine lv_ior S.1 S.2.1 d_R_rangedOf_103 ?_
        refine m_iast (i := k) (x := (vr (fi k) ||| vr (se k))) 13 S hC hD hw hS (by decide) (by decide) (by decide) (by decide) (show k < 12 by omega) d_R_rangedOf_104 (fun H locs J1 eJ1 oJ1 hw hS => ?_)
        have hT : mT kd wh fi se lo hi J1 n := hT.to (fun p hp => oJ1 p (by omega))
        refine lv_goto (tgt := 237) S.1 S.2.1 d_R_rangedOf_105 (by decide) ?_
        refine lv_iinc (v := nI (k + 1)) S.1 S.2.1 d_R_rangedOf_237 hl (k := 2) rfl (nI_1 k) (by decide) rfl (fun ls hl => ?_)
        have hl : lv_has ls 5 [(2, .int (nI (k + 1))), (4, .int (vr (se k))), (3, .int (vr (fi k))), (0, .ref (ma 0)), (1, .int (nI f))] := hl
        refine lv_goto (tgt := 2) S.1 S.2.1 d_R_rangedOf_240 (by decide) ?_
        exact ih2 (k + 1) _ _ _ ls (by omega) (fun p hp => by rw [oJ1 p hp]; exact og p hp) (fun j hj => if e0 : j = k then by rw [e0, eJ1, pk_us, hrg k (by omega)]; rw [rgE_0 hkd] else by rw [eJ1, pk_un e0]; exact hs j (by omega)) hT hw hS (lv_sub hl [0, 3, 4] rfl)
      · have ht1 : tmr (fi k) := (vt (by omega)).1
        have ht2 : tmr (se k) := (vt (by omega)).2
        refine lv_aload_n S.1 S.2.1 d_R_rangedOf_7 rfl (lv_at hl 1 rfl) ?_
        refine o_get (v := .ref (ma 1)) S hC kf_R hw.1 rfl 3 (by decide) q_694 rfl d_R_rangedOf_8 ?_
        refine lv_iload_n S.1 S.2.1 d_R_rangedOf_11 rfl (lv_at hl 0 rfl) ?_
        refine o_iald (j := k) S hC (mi_1 hw) (by decide) (by omega) d_R_rangedOf_12 ?_
        refine tpi (y := nI (kd k)) (hT k (by omega)).1 ?_
        refine lv_iconst (v := 2) S.1 S.2.1 d_R_rangedOf_13 (by decide) ?_
        refine lv_icmp_gt (tgt := 29) S.1 S.2.1 d_R_rangedOf_14 (by decide) (fun hx9 => absurd hx9 (by rw [hkd]; decide)) (fun _ => ?_)
        refine lv_aload_n S.1 S.2.1 d_R_rangedOf_17 rfl (lv_at hl 1 rfl) ?_
        refine o_get (v := .ref (ma 3)) S hC kf_R hw.1 rfl 5 (by decide) q_696 rfl d_R_rangedOf_18 ?_
        refine lv_iload_n S.1 S.2.1 d_R_rangedOf_21 rfl (lv_at hl 0 rfl) ?_
        refine o_iald (j := k) S hC (mi_3 hw) (by decide) (by omega) d_R_rangedOf_22 ?_
        refine tpi (y := nI (fi k)) (hT k (by omega)).2.2.1 ?_
        refine kSi (rest := []) S (c_R_variable l (nI (fi k))) kc_R_variable ⟨q_809, q_810⟩ rfl rfl ⟨Nat.le_of_ble_eq_true rfl, Nat.le_of_ble_eq_true rfl⟩ hC hS hA trivial ⟨Nat.zero_le _, Nat.zero_le _⟩ hl.1 rfl rfl (Nat.le_of_ble_eq_true rfl) d_R_rangedOf_23 (fun r er => ?_)
        refine tpi (y := vr (fi k)) (er.trans (var_eq ht1)) ?_
        refine lv_goto (tgt := 40) S.1 S.2.1 d_R_rangedOf_26 (by decide) ?_
        refine lv_istore_n S.1 S.2.1 d_R_rangedOf_40 rfl hl (by decide) rfl (fun ls hl => ?_)
        have hl : lv_has ls 5 [(3, .int (vr (fi k))), (2, .int (nI k)), (0, .ref (ma 0)), (1, .int (nI f))] := hl
        refine lv_aload_n S.1 S.2.1 d_R_rangedOf_41 rfl (lv_at hl 2 rfl) ?_
        refine o_get (v := .ref (ma 1)) S hC kf_R hw.1 rfl 3 (by decide) q_694 rfl d_R_rangedOf_42 ?_
        refine lv_iload_n S.1 S.2.1 d_R_rangedOf_45 rfl (lv_at hl 1 rfl) ?_
        refine o_iald (j := k) S hC (mi_1 hw) (by decide) (by omega) d_R_rangedOf_46 ?_
        refine tpi (y := nI (kd k)) (hT k (by omega)).1 ?_
        refine lv_iconst (v := 2) S.1 S.2.1 d_R_rangedOf_47 (by decide) ?_
        refine lv_icmp_gt (tgt := 63) S.1 S.2.1 d_R_rangedOf_48 (by decide) (fun hx9 => absurd hx9 (by rw [hkd]; decide)) (fun _ => ?_)
        refine lv_aload_n S.1 S.2.1 d_R_rangedOf_51 rfl (lv_at hl 2 rfl) ?_
        refine o_get (v := .ref (ma 4)) S hC kf_R hw.1 rfl 6 (by decide) q_697 rfl d_R_rangedOf_52 ?_
        refine lv_iload_n S.1 S.2.1 d_R_rangedOf_55 rfl (lv_at hl 1 rfl) ?_
        refine o_iald (j := k) S hC (mi_4 hw) (by decide) (by omega) d_R_rangedOf_56 ?_
        refine tpi (y := nI (se k)) (hT k (by omega)).2.2.2.1 ?_
        refine kSi (rest := []) S (c_R_variable l (nI (se k))) kc_R_variable ⟨q_809, q_810⟩ rfl rfl ⟨Nat.le_of_ble_eq_true rfl, Nat.le_of_ble_eq_true rfl⟩ hC hS hA trivial ⟨Nat.zero_le _, Nat.zero_le _⟩ hl.1 rfl rfl (Nat.le_of_ble_eq_true rfl) d_R_rangedOf_57 (fun r er => ?_)
        refine tpi (y := vr (se k)) (er.trans (var_eq ht2)) ?_
        refine lv_goto (tgt := 74) S.1 S.2.1 d_R_rangedOf_60 (by decide) ?_
        refine lv_istore S.1 S.2.1 d_R_rangedOf_74 hl (by decide) rfl (fun ls hl => ?_)
        have hl : lv_has ls 5 [(4, .int (vr (se k))), (3, .int (vr (fi k))), (2, .int (nI k)), (0, .ref (ma 0)), (1, .int (nI f))] := hl
        refine lv_aload_n S.1 S.2.1 d_R_rangedOf_76 rfl (lv_at hl 3 rfl) ?_
        refine o_get (v := .ref (ma 1)) S hC kf_R hw.1 rfl 3 (by decide) q_694 rfl d_R_rangedOf_77 ?_
        refine lv_iload_n S.1 S.2.1 d_R_rangedOf_80 rfl (lv_at hl 2 rfl) ?_
        refine o_iald (j := k) S hC (mi_1 hw) (by decide) (by omega) d_R_rangedOf_81 ?_
        refine tpi (y := nI (kd k)) (hT k (by omega)).1 ?_
        refine lv_if_eq (tgt := 95) S.1 S.2.1 d_R_rangedOf_82 (by decide) (fun hx9 => absurd hx9 (by rw [hkd]; decide)) (fun _ => ?_)
        refine lv_aload_n S.1 S.2.1 d_R_rangedOf_85 rfl (lv_at hl 3 rfl) ?_
        refine o_get (v := .ref (ma 1)) S hC kf_R hw.1 rfl 3 (by decide) q_694 rfl d_R_rangedOf_86 ?_
        refine lv_iload_n S.1 S.2.1 d_R_rangedOf_89 rfl (lv_at hl 2 rfl) ?_
        refine o_iald (j := k) S hC (mi_1 hw) (by decide) (by omega) d_R_rangedOf_90 ?_
        refine tpi (y := nI (kd k)) (hT k (by omega)).1 ?_
        refine lv_iconst (v := 4) S.1 S.2.1 d_R_rangedOf_91 (by decide) ?_
        refine lv_icmp_ne (tgt := 108) S.1 S.2.1 d_R_rangedOf_92 (by decide) (fun _ => ?_) (fun hx9 => absurd hx9 (by rw [hkd]; decide))
        refine lv_aload_n S.1 S.2.1 d_R_rangedOf_108 rfl (lv_at hl 3 rfl) ?_
        refine o_get (v := .ref (ma 1)) S hC kf_R hw.1 rfl 3 (by decide) q_694 rfl d_R_rangedOf_109 ?_
        refine lv_iload_n S.1 S.2.1 d_R_rangedOf_112 rfl (lv_at hl 2 rfl) ?_
        refine o_iald (j := k) S hC (mi_1 hw) (by decide) (by omega) d_R_rangedOf_113 ?_
        refine tpi (y := nI (kd k)) (hT k (by omega)).1 ?_
        refine lv_iconst (v := 1) S.1 S.2.1 d_R_rangedOf_114 (by decide) ?_
        refine lv_icmp_ne (tgt := 144) S.1 S.2.1 d_R_rangedOf_115 (by decide) (fun hx9 => absurd (by rw [hkd]; decide) hx9) (fun _ => ?_)
        refine lv_aload_n S.1 S.2.1 d_R_rangedOf_118 rfl (lv_at hl 3 rfl) ?_
        refine o_get (v := .ref (ma 13)) S hC kf_R hw.1 rfl 15 (by decide) q_708 rfl d_R_rangedOf_119 ?_
        refine lv_iload_n S.1 S.2.1 d_R_rangedOf_122 rfl (lv_at hl 2 rfl) ?_
        refine lv_iload_n S.1 S.2.1 d_R_rangedOf_123 rfl (lv_at hl 1 rfl) ?_
        refine lv_if_eq (tgt := 132) S.1 S.2.1 d_R_rangedOf_124 (by decide) (fun hbr1 => ?_) (fun hbr1 => ?_)
        · refine lv_iload_n S.1 S.2.1 d_R_rangedOf_132 rfl (lv_at hl 1 rfl) ?_
          refine lv_iload S.1 S.2.1 d_R_rangedOf_133 (lv_at hl 0 rfl) ?_
          refine lv_ior S.1 S.2.1 d_R_rangedOf_135 ?_
          refine lv_goto (tgt := 140) S.1 S.2.1 d_R_rangedOf_136 (by decide) ?_
          refine m_iast (i := k) (x := (vr (fi k) ||| vr (se k))) 13 S hC hD hw hS (by decide) (by decide) (by decide) (by decide) (show k < 12 by omega) d_R_rangedOf_140 (fun H locs J2 eJ2 oJ2 hw hS => ?_)
          have hT : mT kd wh fi se lo hi J2 n := hT.to (fun p hp => oJ2 p (by omega))
          refine lv_goto (tgt := 237) S.1 S.2.1 d_R_rangedOf_141 (by decide) ?_
          refine lv_iinc (v := nI (k + 1)) S.1 S.2.1 d_R_rangedOf_237 hl (k := 2) rfl (nI_1 k) (by decide) rfl (fun ls hl => ?_)
          have hl : lv_has ls 5 [(2, .int (nI (k + 1))), (4, .int (vr (se k))), (3, .int (vr (fi k))), (0, .ref (ma 0)), (1, .int (nI f))] := hl
          refine lv_goto (tgt := 2) S.1 S.2.1 d_R_rangedOf_240 (by decide) ?_
          exact ih2 (k + 1) _ _ _ ls (by omega) (fun p hp => by rw [oJ2 p hp]; exact og p hp) (fun j hj => if e0 : j = k then by rw [e0, eJ2, pk_us, hrg k (by omega)]; rw [rgE_1 hkd, if_pos (Or.inl hbr1)] else by rw [eJ2, pk_un e0]; exact hs j (by omega)) hT hw hS (lv_sub hl [0, 3, 4] rfl)
        · refine lv_iload S.1 S.2.1 d_R_rangedOf_127 (lv_at hl 0 rfl) ?_
          refine lv_if_ne (tgt := 139) S.1 S.2.1 d_R_rangedOf_129 (by decide) (fun hbr2 => ?_) (fun hbr2 => ?_)
          · refine lv_iconst (v := 0) S.1 S.2.1 d_R_rangedOf_139 (by decide) ?_
            refine m_iast (i := k) (x := 0) 13 S hC hD hw hS (by decide) (by decide) (by decide) (by decide) (show k < 12 by omega) d_R_rangedOf_140 (fun H locs J3 eJ3 oJ3 hw hS => ?_)
            have hT : mT kd wh fi se lo hi J3 n := hT.to (fun p hp => oJ3 p (by omega))
            refine lv_goto (tgt := 237) S.1 S.2.1 d_R_rangedOf_141 (by decide) ?_
            refine lv_iinc (v := nI (k + 1)) S.1 S.2.1 d_R_rangedOf_237 hl (k := 2) rfl (nI_1 k) (by decide) rfl (fun ls hl => ?_)
            have hl : lv_has ls 5 [(2, .int (nI (k + 1))), (4, .int (vr (se k))), (3, .int (vr (fi k))), (0, .ref (ma 0)), (1, .int (nI f))] := hl
            refine lv_goto (tgt := 2) S.1 S.2.1 d_R_rangedOf_240 (by decide) ?_
            exact ih2 (k + 1) _ _ _ ls (by omega) (fun p hp => by rw [oJ3 p hp]; exact og p hp) (fun j hj => if e0 : j = k then by rw [e0, eJ3, pk_us, hrg k (by omega)]; rw [rgE_1 hkd, if_neg (fun z => z.elim hbr1 hbr2)] else by rw [eJ3, pk_un e0]; exact hs j (by omega)) hT hw hS (lv_sub hl [0, 3, 4] rfl)
          · refine lv_iload_n S.1 S.2.1 d_R_rangedOf_132 rfl (lv_at hl 1 rfl) ?_
            refine lv_iload S.1 S.2.1 d_R_rangedOf_133 (lv_at hl 0 rfl) ?_
            refine lv_ior S.1 S.2.1 d_R_rangedOf_135 ?_
            refine lv_goto (tgt := 140) S.1 S.2.1 d_R_rangedOf_136 (by decide) ?_
            refine m_iast (i := k) (x := (vr (fi k) ||| vr (se k))) 13 S hC hD hw hS (by decide) (by decide) (by decide) (by decide) (show k < 12 by omega) d_R_rangedOf_140 (fun H locs J4 eJ4 oJ4 hw hS => ?_)
            have hT : mT kd wh fi se lo hi J4 n := hT.to (fun p hp => oJ4 p (by omega))
            refine lv_goto (tgt := 237) S.1 S.2.1 d_R_rangedOf_141 (by decide) ?_
            refine lv_iinc (v := nI (k + 1)) S.1 S.2.1 d_R_rangedOf_237 hl (k := 2) rfl (nI_1 k) (by decide) rfl (fun ls hl => ?_)
            have hl : lv_has ls 5 [(2, .int (nI (k + 1))), (4, .int (vr (se k))), (3, .int (vr (fi k))), (0, .ref (ma 0)), (1, .int (nI f))] := hl
            refine lv_goto (tgt := 2) S.1 S.2.1 d_R_rangedOf_240 (by decide) ?_
            exact ih2 (k + 1) _ _ _ ls (by omega) (fun p hp => by rw [oJ4 p hp]; exact og p hp) (fun j hj => if e0 : j = k then by rw [e0, eJ4, pk_us, hrg k (by omega)]; rw [rgE_1 hkd, if_pos (Or.inr hbr2)] else by rw [eJ4, pk_un e0]; exact hs j (by omega)) hT hw hS (lv_sub hl [0, 3, 4] rfl)
      · have ht1 : tmr (fi k) := (vt (by omega)).1
        have ht2 : tmr (se k) := (vt (by omega)).2
        refine lv_aload_n S.1 S.2.1 d_R_rangedOf_7 rfl (lv_at hl 1 rfl) ?_
        refine o_get (v := .ref (ma 1)) S hC kf_R hw.1 rfl 3 (by decide) q_694 rfl d_R_rangedOf_8 ?_
        refine lv_iload_n S.1 S.2.1 d_R_rangedOf_11 rfl (lv_at hl 0 rfl) ?_
        refine o_iald (j := k) S hC (mi_1 hw) (by decide) (by omega) d_R_rangedOf_12 ?_
        refine tpi (y := nI (kd k)) (hT k (by omega)).1 ?_
        refine lv_iconst (v := 2) S.1 S.2.1 d_R_rangedOf_13 (by decide) ?_
        refine lv_icmp_gt (tgt := 29) S.1 S.2.1 d_R_rangedOf_14 (by decide) (fun hx9 => absurd hx9 (by rw [hkd]; decide)) (fun _ => ?_)
        refine lv_aload_n S.1 S.2.1 d_R_rangedOf_17 rfl (lv_at hl 1 rfl) ?_
        refine o_get (v := .ref (ma 3)) S hC kf_R hw.1 rfl 5 (by decide) q_696 rfl d_R_rangedOf_18 ?_
        refine lv_iload_n S.1 S.2.1 d_R_rangedOf_21 rfl (lv_at hl 0 rfl) ?_
        refine o_iald (j := k) S hC (mi_3 hw) (by decide) (by omega) d_R_rangedOf_22 ?_
        refine tpi (y := nI (fi k)) (hT k (by omega)).2.2.1 ?_
        refine kSi (rest := []) S (c_R_variable l (nI (fi k))) kc_R_variable ⟨q_809, q_810⟩ rfl rfl ⟨Nat.le_of_ble_eq_true rfl, Nat.le_of_ble_eq_true rfl⟩ hC hS hA trivial ⟨Nat.zero_le _, Nat.zero_le _⟩ hl.1 rfl rfl (Nat.le_of_ble_eq_true rfl) d_R_rangedOf_23 (fun r er => ?_)
        refine tpi (y := vr (fi k)) (er.trans (var_eq ht1)) ?_
        refine lv_goto (tgt := 40) S.1 S.2.1 d_R_rangedOf_26 (by decide) ?_
        refine lv_istore_n S.1 S.2.1 d_R_rangedOf_40 rfl hl (by decide) rfl (fun ls hl => ?_)
        have hl : lv_has ls 5 [(3, .int (vr (fi k))), (2, .int (nI k)), (0, .ref (ma 0)), (1, .int (nI f))] := hl
        refine lv_aload_n S.1 S.2.1 d_R_rangedOf_41 rfl (lv_at hl 2 rfl) ?_
        refine o_get (v := .ref (ma 1)) S hC kf_R hw.1 rfl 3 (by decide) q_694 rfl d_R_rangedOf_42 ?_
        refine lv_iload_n S.1 S.2.1 d_R_rangedOf_45 rfl (lv_at hl 1 rfl) ?_
        refine o_iald (j := k) S hC (mi_1 hw) (by decide) (by omega) d_R_rangedOf_46 ?_
        refine tpi (y := nI (kd k)) (hT k (by omega)).1 ?_
        refine lv_iconst (v := 2) S.1 S.2.1 d_R_rangedOf_47 (by decide) ?_
        refine lv_icmp_gt (tgt := 63) S.1 S.2.1 d_R_rangedOf_48 (by decide) (fun hx9 => absurd hx9 (by rw [hkd]; decide)) (fun _ => ?_)
        refine lv_aload_n S.1 S.2.1 d_R_rangedOf_51 rfl (lv_at hl 2 rfl) ?_
        refine o_get (v := .ref (ma 4)) S hC kf_R hw.1 rfl 6 (by decide) q_697 rfl d_R_rangedOf_52 ?_
        refine lv_iload_n S.1 S.2.1 d_R_rangedOf_55 rfl (lv_at hl 1 rfl) ?_
        refine o_iald (j := k) S hC (mi_4 hw) (by decide) (by omega) d_R_rangedOf_56 ?_
        refine tpi (y := nI (se k)) (hT k (by omega)).2.2.2.1 ?_
        refine kSi (rest := []) S (c_R_variable l (nI (se k))) kc_R_variable ⟨q_809, q_810⟩ rfl rfl ⟨Nat.le_of_ble_eq_true rfl, Nat.le_of_ble_eq_true rfl⟩ hC hS hA trivial ⟨Nat.zero_le _, Nat.zero_le _⟩ hl.1 rfl rfl (Nat.le_of_ble_eq_true rfl) d_R_rangedOf_57 (fun r er => ?_)
        refine tpi (y := vr (se k)) (er.trans (var_eq ht2)) ?_
        refine lv_goto (tgt := 74) S.1 S.2.1 d_R_rangedOf_60 (by decide) ?_
        refine lv_istore S.1 S.2.1 d_R_rangedOf_74 hl (by decide) rfl (fun ls hl => ?_)
        have hl : lv_has ls 5 [(4, .int (vr (se k))), (3, .int (vr (fi k))), (2, .int (nI k)), (0, .ref (ma 0)), (1, .int (nI f))] := hl
        refine lv_aload_n S.1 S.2.1 d_R_rangedOf_76 rfl (lv_at hl 3 rfl) ?_
        refine o_get (v := .ref (ma 1)) S hC kf_R hw.1 rfl 3 (by decide) q_694 rfl d_R_rangedOf_77 ?_
        refine lv_iload_n S.1 S.2.1 d_R_rangedOf_80 rfl (lv_at hl 2 rfl) ?_
        refine o_iald (j := k) S hC (mi_1 hw) (by decide) (by omega) d_R_rangedOf_81 ?_
        refine tpi (y := nI (kd k)) (hT k (by omega)).1 ?_
        refine lv_if_eq (tgt := 95) S.1 S.2.1 d_R_rangedOf_82 (by decide) (fun hx9 => absurd hx9 (by rw [hkd]; decide)) (fun _ => ?_)
        refine lv_aload_n S.1 S.2.1 d_R_rangedOf_85 rfl (lv_at hl 3 rfl) ?_
        refine o_get (v := .ref (ma 1)) S hC kf_R hw.1 rfl 3 (by decide) q_694 rfl d_R_rangedOf_86 ?_
        refine lv_iload_n S.1 S.2.1 d_R_rangedOf_89 rfl (lv_at hl 2 rfl) ?_
        refine o_iald (j := k) S hC (mi_1 hw) (by decide) (by omega) d_R_rangedOf_90 ?_
        refine tpi (y := nI (kd k)) (hT k (by omega)).1 ?_
        refine lv_iconst (v := 4) S.1 S.2.1 d_R_rangedOf_91 (by decide) ?_
        refine lv_icmp_ne (tgt := 108) S.1 S.2.1 d_R_rangedOf_92 (by decide) (fun _ => ?_) (fun hx9 => absurd hx9 (by rw [hkd]; decide))
        refine lv_aload_n S.1 S.2.1 d_R_rangedOf_108 rfl (lv_at hl 3 rfl) ?_
        refine o_get (v := .ref (ma 1)) S hC kf_R hw.1 rfl 3 (by decide) q_694 rfl d_R_rangedOf_109 ?_
        refine lv_iload_n S.1 S.2.1 d_R_rangedOf_112 rfl (lv_at hl 2 rfl) ?_
        refine o_iald (j := k) S hC (mi_1 hw) (by decide) (by omega) d_R_rangedOf_113 ?_
        refine tpi (y := nI (kd k)) (hT k (by omega)).1 ?_
        refine lv_iconst (v := 1) S.1 S.2.1 d_R_rangedOf_114 (by decide) ?_
        refine lv_icmp_ne (tgt := 144) S.1 S.2.1 d_R_rangedOf_115 (by decide) (fun _ => ?_) (fun hx9 => absurd hx9 (by rw [hkd]; decide))
        refine lv_aload_n S.1 S.2.1 d_R_rangedOf_144 rfl (lv_at hl 3 rfl) ?_
        refine o_get (v := .ref (ma 1)) S hC kf_R hw.1 rfl 3 (by decide) q_694 rfl d_R_rangedOf_145 ?_
        refine lv_iload_n S.1 S.2.1 d_R_rangedOf_148 rfl (lv_at hl 2 rfl) ?_
        refine o_iald (j := k) S hC (mi_1 hw) (by decide) (by omega) d_R_rangedOf_149 ?_
        refine tpi (y := nI (kd k)) (hT k (by omega)).1 ?_
        refine lv_iconst (v := 2) S.1 S.2.1 d_R_rangedOf_150 (by decide) ?_
        refine lv_icmp_eq (tgt := 164) S.1 S.2.1 d_R_rangedOf_151 (by decide) (fun _ => ?_) (fun hx9 => absurd (by rw [hkd]; decide) hx9)
        refine lv_aload_n S.1 S.2.1 d_R_rangedOf_164 rfl (lv_at hl 3 rfl) ?_
        refine o_get (v := .ref (ma 13)) S hC kf_R hw.1 rfl 15 (by decide) q_708 rfl d_R_rangedOf_165 ?_
        refine lv_iload_n S.1 S.2.1 d_R_rangedOf_168 rfl (lv_at hl 2 rfl) ?_
        refine lv_iconst (v := 0) S.1 S.2.1 d_R_rangedOf_169 (by decide) ?_
        refine m_iast (i := k) (x := 0) 13 S hC hD hw hS (by decide) (by decide) (by decide) (by decide) (show k < 12 by omega) d_R_rangedOf_170 (fun H locs J5 eJ5 oJ5 hw hS => ?_)
        have hT : mT kd wh fi se lo hi J5 n := hT.to (fun p hp => oJ5 p (by omega))
        refine lv_goto (tgt := 237) S.1 S.2.1 d_R_rangedOf_171 (by decide) ?_
        refine lv_iinc (v := nI (k + 1)) S.1 S.2.1 d_R_rangedOf_237 hl (k := 2) rfl (nI_1 k) (by decide) rfl (fun ls hl => ?_)
        have hl : lv_has ls 5 [(2, .int (nI (k + 1))), (4, .int (vr (se k))), (3, .int (vr (fi k))), (0, .ref (ma 0)), (1, .int (nI f))] := hl
        refine lv_goto (tgt := 2) S.1 S.2.1 d_R_rangedOf_240 (by decide) ?_
        exact ih2 (k + 1) _ _ _ ls (by omega) (fun p hp => by rw [oJ5 p hp]; exact og p hp) (fun j hj => if e0 : j = k then by rw [e0, eJ5, pk_us, hrg k (by omega)]; rw [rgE_2 hkd] else by rw [eJ5, pk_un e0]; exact hs j (by omega)) hT hw hS (lv_sub hl [0, 3, 4] rfl)
      · have hfv := vp (by omega)
        refine lv_aload_n S.1 S.2.1 d_R_rangedOf_7 rfl (lv_at hl 1 rfl) ?_
        refine o_get (v := .ref (ma 1)) S hC kf_R hw.1 rfl 3 (by decide) q_694 rfl d_R_rangedOf_8 ?_
        refine lv_iload_n S.1 S.2.1 d_R_rangedOf_11 rfl (lv_at hl 0 rfl) ?_
        refine o_iald (j := k) S hC (mi_1 hw) (by decide) (by omega) d_R_rangedOf_12 ?_
        refine tpi (y := nI (kd k)) (hT k (by omega)).1 ?_
        refine lv_iconst (v := 2) S.1 S.2.1 d_R_rangedOf_13 (by decide) ?_
        refine lv_icmp_gt (tgt := 29) S.1 S.2.1 d_R_rangedOf_14 (by decide) (fun _ => ?_) (fun hx9 => absurd (by rw [hkd]; decide) hx9)
        refine lv_aload_n S.1 S.2.1 d_R_rangedOf_29 rfl (lv_at hl 1 rfl) ?_
        refine o_get (v := .ref (ma 13)) S hC kf_R hw.1 rfl 15 (by decide) q_708 rfl d_R_rangedOf_30 ?_
        refine lv_aload_n S.1 S.2.1 d_R_rangedOf_33 rfl (lv_at hl 1 rfl) ?_
        refine o_get (v := .ref (ma 3)) S hC kf_R hw.1 rfl 5 (by decide) q_696 rfl d_R_rangedOf_34 ?_
        refine lv_iload_n S.1 S.2.1 d_R_rangedOf_37 rfl (lv_at hl 0 rfl) ?_
        refine o_iald (j := k) S hC (mi_3 hw) (by decide) (by omega) d_R_rangedOf_38 ?_
        refine tpi (y := nI (fi k)) (hT k (by omega)).2.2.1 ?_
        refine o_iald (j := fi k) S hC (mi_13 hw) (by decide) (by omega) d_R_rangedOf_39 ?_
        refine tpi (y := rg (fi k)) (hs _ (by omega)) ?_
        refine lv_istore_n S.1 S.2.1 d_R_rangedOf_40 rfl hl (by decide) rfl (fun ls hl => ?_)
        have hl : lv_has ls 5 [(3, .int (rg (fi k))), (2, .int (nI k)), (0, .ref (ma 0)), (1, .int (nI f))] := hl
        refine lv_aload_n S.1 S.2.1 d_R_rangedOf_41 rfl (lv_at hl 2 rfl) ?_
        refine o_get (v := .ref (ma 1)) S hC kf_R hw.1 rfl 3 (by decide) q_694 rfl d_R_rangedOf_42 ?_
        refine lv_iload_n S.1 S.2.1 d_R_rangedOf_45 rfl (lv_at hl 1 rfl) ?_
        refine o_iald (j := k) S hC (mi_1 hw) (by decide) (by omega) d_R_rangedOf_46 ?_
        refine tpi (y := nI (kd k)) (hT k (by omega)).1 ?_
        refine lv_iconst (v := 2) S.1 S.2.1 d_R_rangedOf_47 (by decide) ?_
        refine lv_icmp_gt (tgt := 63) S.1 S.2.1 d_R_rangedOf_48 (by decide) (fun _ => ?_) (fun hx9 => absurd (by rw [hkd]; decide) hx9)
        refine lv_aload_n S.1 S.2.1 d_R_rangedOf_63 rfl (lv_at hl 2 rfl) ?_
        refine o_get (v := .ref (ma 13)) S hC kf_R hw.1 rfl 15 (by decide) q_708 rfl d_R_rangedOf_64 ?_
        refine lv_aload_n S.1 S.2.1 d_R_rangedOf_67 rfl (lv_at hl 2 rfl) ?_
        refine o_get (v := .ref (ma 4)) S hC kf_R hw.1 rfl 6 (by decide) q_697 rfl d_R_rangedOf_68 ?_
        refine lv_iload_n S.1 S.2.1 d_R_rangedOf_71 rfl (lv_at hl 1 rfl) ?_
        refine o_iald (j := k) S hC (mi_4 hw) (by decide) (by omega) d_R_rangedOf_72 ?_
        refine tpi (y := nI (se k)) (hT k (by omega)).2.2.2.1 ?_
        refine o_iald (j := se k) S hC (mi_13 hw) (by decide) (by omega) d_R_rangedOf_73 ?_
        refine tpi (y := rg (se k)) (hs _ (by omega)) ?_
        refine lv_istore S.1 S.2.1 d_R_rangedOf_74 hl (by decide) rfl (fun ls hl => ?_)
        have hl : lv_has ls 5 [(4, .int (rg (se k))), (3, .int (rg (fi k))), (2, .int (nI k)), (0, .ref (ma 0)), (1, .int (nI f))] := hl
        refine lv_aload_n S.1 S.2.1 d_R_rangedOf_76 rfl (lv_at hl 3 rfl) ?_
        refine o_get (v := .ref (ma 1)) S hC kf_R hw.1 rfl 3 (by decide) q_694 rfl d_R_rangedOf_77 ?_
        refine lv_iload_n S.1 S.2.1 d_R_rangedOf_80 rfl (lv_at hl 2 rfl) ?_
        refine o_iald (j := k) S hC (mi_1 hw) (by decide) (by omega) d_R_rangedOf_81 ?_
        refine tpi (y := nI (kd k)) (hT k (by omega)).1 ?_
        refine lv_if_eq (tgt := 95) S.1 S.2.1 d_R_rangedOf_82 (by decide) (fun hx9 => absurd hx9 (by rw [hkd]; decide)) (fun _ => ?_)
        refine lv_aload_n S.1 S.2.1 d_R_rangedOf_85 rfl (lv_at hl 3 rfl) ?_
        refine o_get (v := .ref (ma 1)) S hC kf_R hw.1 rfl 3 (by decide) q_694 rfl d_R_rangedOf_86 ?_
        refine lv_iload_n S.1 S.2.1 d_R_rangedOf_89 rfl (lv_at hl 2 rfl) ?_
        refine o_iald (j := k) S hC (mi_1 hw) (by decide) (by omega) d_R_rangedOf_90 ?_
        refine tpi (y := nI (kd k)) (hT k (by omega)).1 ?_
        refine lv_iconst (v := 4) S.1 S.2.1 d_R_rangedOf_91 (by decide) ?_
        refine lv_icmp_ne (tgt := 108) S.1 S.2.1 d_R_rangedOf_92 (by decide) (fun _ => ?_) (fun hx9 => absurd hx9 (by rw [hkd]; decide))
        refine lv_aload_n S.1 S.2.1 d_R_rangedOf_108 rfl (lv_at hl 3 rfl) ?_
        refine o_get (v := .ref (ma 1)) S hC kf_R hw.1 rfl 3 (by decide) q_694 rfl d_R_rangedOf_109 ?_
        refine lv_iload_n S.1 S.2.1 d_R_rangedOf_112 rfl (lv_at hl 2 rfl) ?_
        refine o_iald (j := k) S hC (mi_1 hw) (by decide) (by omega) d_R_rangedOf_113 ?_
        refine tpi (y := nI (kd k)) (hT k (by omega)).1 ?_
        refine lv_iconst (v := 1) S.1 S.2.1 d_R_rangedOf_114 (by decide) ?_
        refine lv_icmp_ne (tgt := 144) S.1 S.2.1 d_R_rangedOf_115 (by decide) (fun _ => ?_) (fun hx9 => absurd hx9 (by rw [hkd]; decide))
        refine lv_aload_n S.1 S.2.1 d_R_rangedOf_144 rfl (lv_at hl 3 rfl) ?_
        refine o_get (v := .ref (ma 1)) S hC kf_R hw.1 rfl 3 (by decide) q_694 rfl d_R_rangedOf_145 ?_
        refine lv_iload_n S.1 S.2.1 d_R_rangedOf_148 rfl (lv_at hl 2 rfl) ?_
        refine o_iald (j := k) S hC (mi_1 hw) (by decide) (by omega) d_R_rangedOf_149 ?_
        refine tpi (y := nI (kd k)) (hT k (by omega)).1 ?_
        refine lv_iconst (v := 2) S.1 S.2.1 d_R_rangedOf_150 (by decide) ?_
        refine lv_icmp_eq (tgt := 164) S.1 S.2.1 d_R_rangedOf_151 (by decide) (fun hx9 => absurd hx9 (by rw [hkd]; decide)) (fun _ => ?_)
        refine lv_aload_n S.1 S.2.1 d_R_rangedOf_154 rfl (lv_at hl 3 rfl) ?_
        refine o_get (v := .ref (ma 1)) S hC kf_R hw.1 rfl 3 (by decide) q_694 rfl d_R_rangedOf_155 ?_
        refine lv_iload_n S.1 S.2.1 d_R_rangedOf_158 rfl (lv_at hl 2 rfl) ?_
        refine o_iald (j := k) S hC (mi_1 hw) (by decide) (by omega) d_R_rangedOf_159 ?_
        refine tpi (y := nI (kd k)) (hT k (by omega)).1 ?_
        refine lv_iconst (v := 3) S.1 S.2.1 d_R_rangedOf_160 (by decide) ?_
        refine lv_icmp_ne (tgt := 174) S.1 S.2.1 d_R_rangedOf_161 (by decide) (fun hx9 => absurd (by rw [hkd]; decide) hx9) (fun _ => ?_)
        refine lv_aload_n S.1 S.2.1 d_R_rangedOf_164 rfl (lv_at hl 3 rfl) ?_
        refine o_get (v := .ref (ma 13)) S hC kf_R hw.1 rfl 15 (by decide) q_708 rfl d_R_rangedOf_165 ?_
        refine lv_iload_n S.1 S.2.1 d_R_rangedOf_168 rfl (lv_at hl 2 rfl) ?_
        refine lv_iconst (v := 0) S.1 S.2.1 d_R_rangedOf_169 (by decide) ?_
        refine m_iast (i := k) (x := 0) 13 S hC hD hw hS (by decide) (by decide) (by decide) (by decide) (show k < 12 by omega) d_R_rangedOf_170 (fun H locs J6 eJ6 oJ6 hw hS => ?_)
        have hT : mT kd wh fi se lo hi J6 n := hT.to (fun p hp => oJ6 p (by omega))
        refine lv_goto (tgt := 237) S.1 S.2.1 d_R_rangedOf_171 (by decide) ?_
        refine lv_iinc (v := nI (k + 1)) S.1 S.2.1 d_R_rangedOf_237 hl (k := 2) rfl (nI_1 k) (by decide) rfl (fun ls hl => ?_)
        have hl : lv_has ls 5 [(2, .int (nI (k + 1))), (4, .int (rg (se k))), (3, .int (rg (fi k))), (0, .ref (ma 0)), (1, .int (nI f))] := hl
        refine lv_goto (tgt := 2) S.1 S.2.1 d_R_rangedOf_240 (by decide) ?_
        exact ih2 (k + 1) _ _ _ ls (by omega) (fun p hp => by rw [oJ6 p hp]; exact og p hp) (fun j hj => if e0 : j = k then by rw [e0, eJ6, pk_us, hrg k (by omega)]; rw [rgE_3 hkd] else by rw [eJ6, pk_un e0]; exact hs j (by omega)) hT hw hS (lv_sub hl [0, 3, 4] rfl)
      · have hfv := vp (by omega)
        refine lv_aload_n S.1 S.2.1 d_R_rangedOf_7 rfl (lv_at hl 1 rfl) ?_
        refine o_get (v := .ref (ma 1)) S hC kf_R hw.1 rfl 3 (by decide) q_694 rfl d_R_rangedOf_8 ?_
        refine lv_iload_n S.1 S.2.1 d_R_rangedOf_11 rfl (lv_at hl 0 rfl) ?_
        refine o_iald (j := k) S hC (mi_1 hw) (by decide) (by omega) d_R_rangedOf_12 ?_
        refine tpi (y := nI (kd k)) (hT k (by omega)).1 ?_
        refine lv_iconst (v := 2) S.1 S.2.1 d_R_rangedOf_13 (by decide) ?_
        refine lv_icmp_gt (tgt := 29) S.1 S.2.1 d_R_rangedOf_14 (by decide) (fun _ => ?_) (fun hx9 => absurd (by rw [hkd]; decide) hx9)
        refine lv_aload_n S.1 S.2.1 d_R_rangedOf_29 rfl (lv_at hl 1 rfl) ?_
        refine o_get (v := .ref (ma 13)) S hC kf_R hw.1 rfl 15 (by decide) q_708 rfl d_R_rangedOf_30 ?_
        refine lv_aload_n S.1 S.2.1 d_R_rangedOf_33 rfl (lv_at hl 1 rfl) ?_
        refine o_get (v := .ref (ma 3)) S hC kf_R hw.1 rfl 5 (by decide) q_696 rfl d_R_rangedOf_34 ?_
        refine lv_iload_n S.1 S.2.1 d_R_rangedOf_37 rfl (lv_at hl 0 rfl) ?_
        refine o_iald (j := k) S hC (mi_3 hw) (by decide) (by omega) d_R_rangedOf_38 ?_
        refine tpi (y := nI (fi k)) (hT k (by omega)).2.2.1 ?_
        refine o_iald (j := fi k) S hC (mi_13 hw) (by decide) (by omega) d_R_rangedOf_39 ?_
        refine tpi (y := rg (fi k)) (hs _ (by omega)) ?_
        refine lv_istore_n S.1 S.2.1 d_R_rangedOf_40 rfl hl (by decide) rfl (fun ls hl => ?_)
        have hl : lv_has ls 5 [(3, .int (rg (fi k))), (2, .int (nI k)), (0, .ref (ma 0)), (1, .int (nI f))] := hl
        refine lv_aload_n S.1 S.2.1 d_R_rangedOf_41 rfl (lv_at hl 2 rfl) ?_
        refine o_get (v := .ref (ma 1)) S hC kf_R hw.1 rfl 3 (by decide) q_694 rfl d_R_rangedOf_42 ?_
        refine lv_iload_n S.1 S.2.1 d_R_rangedOf_45 rfl (lv_at hl 1 rfl) ?_
        refine o_iald (j := k) S hC (mi_1 hw) (by decide) (by omega) d_R_rangedOf_46 ?_
        refine tpi (y := nI (kd k)) (hT k (by omega)).1 ?_
        refine lv_iconst (v := 2) S.1 S.2.1 d_R_rangedOf_47 (by decide) ?_
        refine lv_icmp_gt (tgt := 63) S.1 S.2.1 d_R_rangedOf_48 (by decide) (fun _ => ?_) (fun hx9 => absurd (by rw [hkd]; decide) hx9)
        refine lv_aload_n S.1 S.2.1 d_R_rangedOf_63 rfl (lv_at hl 2 rfl) ?_
        refine o_get (v := .ref (ma 13)) S hC kf_R hw.1 rfl 15 (by decide) q_708 rfl d_R_rangedOf_64 ?_
        refine lv_aload_n S.1 S.2.1 d_R_rangedOf_67 rfl (lv_at hl 2 rfl) ?_
        refine o_get (v := .ref (ma 4)) S hC kf_R hw.1 rfl 6 (by decide) q_697 rfl d_R_rangedOf_68 ?_
        refine lv_iload_n S.1 S.2.1 d_R_rangedOf_71 rfl (lv_at hl 1 rfl) ?_
        refine o_iald (j := k) S hC (mi_4 hw) (by decide) (by omega) d_R_rangedOf_72 ?_
        refine tpi (y := nI (se k)) (hT k (by omega)).2.2.2.1 ?_
        refine o_iald (j := se k) S hC (mi_13 hw) (by decide) (by omega) d_R_rangedOf_73 ?_
        refine tpi (y := rg (se k)) (hs _ (by omega)) ?_
        refine lv_istore S.1 S.2.1 d_R_rangedOf_74 hl (by decide) rfl (fun ls hl => ?_)
        have hl : lv_has ls 5 [(4, .int (rg (se k))), (3, .int (rg (fi k))), (2, .int (nI k)), (0, .ref (ma 0)), (1, .int (nI f))] := hl
        refine lv_aload_n S.1 S.2.1 d_R_rangedOf_76 rfl (lv_at hl 3 rfl) ?_
        refine o_get (v := .ref (ma 1)) S hC kf_R hw.1 rfl 3 (by decide) q_694 rfl d_R_rangedOf_77 ?_
        refine lv_iload_n S.1 S.2.1 d_R_rangedOf_80 rfl (lv_at hl 2 rfl) ?_
        refine o_iald (j := k) S hC (mi_1 hw) (by decide) (by omega) d_R_rangedOf_81 ?_
        refine tpi (y := nI (kd k)) (hT k (by omega)).1 ?_
        refine lv_if_eq (tgt := 95) S.1 S.2.1 d_R_rangedOf_82 (by decide) (fun hx9 => absurd hx9 (by rw [hkd]; decide)) (fun _ => ?_)
        refine lv_aload_n S.1 S.2.1 d_R_rangedOf_85 rfl (lv_at hl 3 rfl) ?_
        refine o_get (v := .ref (ma 1)) S hC kf_R hw.1 rfl 3 (by decide) q_694 rfl d_R_rangedOf_86 ?_
        refine lv_iload_n S.1 S.2.1 d_R_rangedOf_89 rfl (lv_at hl 2 rfl) ?_
        refine o_iald (j := k) S hC (mi_1 hw) (by decide) (by omega) d_R_rangedOf_90 ?_
        refine tpi (y := nI (kd k)) (hT k (by omega)).1 ?_
        refine lv_iconst (v := 4) S.1 S.2.1 d_R_rangedOf_91 (by decide) ?_
        refine lv_icmp_ne (tgt := 108) S.1 S.2.1 d_R_rangedOf_92 (by decide) (fun hx9 => absurd (by rw [hkd]; decide) hx9) (fun _ => ?_)
        refine lv_aload_n S.1 S.2.1 d_R_rangedOf_95 rfl (lv_at hl 3 rfl) ?_
        refine o_get (v := .ref (ma 13)) S hC kf_R hw.1 rfl 15 (by decide) q_708 rfl d_R_rangedOf_96 ?_
        refine lv_iload_n S.1 S.2.1 d_R_rangedOf_99 rfl (lv_at hl 2 rfl) ?_
        refine lv_iload_n S.1 S.2.1 d_R_rangedOf_100 rfl (lv_at hl 1 rfl) ?_
        refine lv_iload S.1 S.2.1 d_R_rangedOf_101 (lv_at hl 0 rfl) ?_
        refine lv_ior S.1 S.2.1 d_R_rangedOf_103 ?_
        refine m_iast (i := k) (x := (rg (fi k) ||| rg (se k))) 13 S hC hD hw hS (by decide) (by decide) (by decide) (by decide) (show k < 12 by omega) d_R_rangedOf_104 (fun H locs J7 eJ7 oJ7 hw hS => ?_)
        have hT : mT kd wh fi se lo hi J7 n := hT.to (fun p hp => oJ7 p (by omega))
        refine lv_goto (tgt := 237) S.1 S.2.1 d_R_rangedOf_105 (by decide) ?_
        refine lv_iinc (v := nI (k + 1)) S.1 S.2.1 d_R_rangedOf_237 hl (k := 2) rfl (nI_1 k) (by decide) rfl (fun ls hl => ?_)
        have hl : lv_has ls 5 [(2, .int (nI (k + 1))), (4, .int (rg (se k))), (3, .int (rg (fi k))), (0, .ref (ma 0)), (1, .int (nI f))] := hl
        refine lv_goto (tgt := 2) S.1 S.2.1 d_R_rangedOf_240 (by decide) ?_
        exact ih2 (k + 1) _ _ _ ls (by omega) (fun p hp => by rw [oJ7 p hp]; exact og p hp) (fun j hj => if e0 : j = k then by rw [e0, eJ7, pk_us, hrg k (by omega)]; rw [rgE_4 hkd] else by rw [eJ7, pk_un e0]; exact hs j (by omega)) hT hw hS (lv_sub hl [0, 3, 4] rfl)
      · have hfv := vp (by omega)
        refine lv_aload_n S.1 S.2.1 d_R_rangedOf_7 rfl (lv_at hl 1 rfl) ?_
        refine o_get (v := .ref (ma 1)) S hC kf_R hw.1 rfl 3 (by decide) q_694 rfl d_R_rangedOf_8 ?_
        refine lv_iload_n S.1 S.2.1 d_R_rangedOf_11 rfl (lv_at hl 0 rfl) ?_
        refine o_iald (j := k) S hC (mi_1 hw) (by decide) (by omega) d_R_rangedOf_12 ?_
        refine tpi (y := nI (kd k)) (hT k (by omega)).1 ?_
        refine lv_iconst (v := 2) S.1 S.2.1 d_R_rangedOf_13 (by decide) ?_
        refine lv_icmp_gt (tgt := 29) S.1 S.2.1 d_R_rangedOf_14 (by decide) (fun _ => ?_) (fun hx9 => absurd (by rw [hkd]; decide) hx9)
        refine lv_aload_n S.1 S.2.1 d_R_rangedOf_29 rfl (lv_at hl 1 rfl) ?_
        refine o_get (v := .ref (ma 13)) S hC kf_R hw.1 rfl 15 (by decide) q_708 rfl d_R_rangedOf_30 ?_
        refine lv_aload_n S.1 S.2.1 d_R_rangedOf_33 rfl (lv_at hl 1 rfl) ?_
        refine o_get (v := .ref (ma 3)) S hC kf_R hw.1 rfl 5 (by decide) q_696 rfl d_R_rangedOf_34 ?_
        refine lv_iload_n S.1 S.2.1 d_R_rangedOf_37 rfl (lv_at hl 0 rfl) ?_
        refine o_iald (j := k) S hC (mi_3 hw) (by decide) (by omega) d_R_rangedOf_38 ?_
        refine tpi (y := nI (fi k)) (hT k (by omega)).2.2.1 ?_
        refine o_iald (j := fi k) S hC (mi_13 hw) (by decide) (by omega) d_R_rangedOf_39 ?_
        refine tpi (y := rg (fi k)) (hs _ (by omega)) ?_
        refine lv_istore_n S.1 S.2.1 d_R_rangedOf_40 rfl hl (by decide) rfl (fun ls hl => ?_)
        have hl : lv_has ls 5 [(3, .int (rg (fi k))), (2, .int (nI k)), (0, .ref (ma 0)), (1, .int (nI f))] := hl
        refine lv_aload_n S.1 S.2.1 d_R_rangedOf_41 rfl (lv_at hl 2 rfl) ?_
        refine o_get (v := .ref (ma 1)) S hC kf_R hw.1 rfl 3 (by decide) q_694 rfl d_R_rangedOf_42 ?_
        refine lv_iload_n S.1 S.2.1 d_R_rangedOf_45 rfl (lv_at hl 1 rfl) ?_
        refine o_iald (j := k) S hC (mi_1 hw) (by decide) (by omega) d_R_rangedOf_46 ?_
        refine tpi (y := nI (kd k)) (hT k (by omega)).1 ?_
        refine lv_iconst (v := 2) S.1 S.2.1 d_R_rangedOf_47 (by decide) ?_
        refine lv_icmp_gt (tgt := 63) S.1 S.2.1 d_R_rangedOf_48 (by decide) (fun _ => ?_) (fun hx9 => absurd (by rw [hkd]; decide) hx9)
        refine lv_aload_n S.1 S.2.1 d_R_rangedOf_63 rfl (lv_at hl 2 rfl) ?_
        refine o_get (v := .ref (ma 13)) S hC kf_R hw.1 rfl 15 (by decide) q_708 rfl d_R_rangedOf_64 ?_
        refine lv_aload_n S.1 S.2.1 d_R_rangedOf_67 rfl (lv_at hl 2 rfl) ?_
        refine o_get (v := .ref (ma 4)) S hC kf_R hw.1 rfl 6 (by decide) q_697 rfl d_R_rangedOf_68 ?_
        refine lv_iload_n S.1 S.2.1 d_R_rangedOf_71 rfl (lv_at hl 1 rfl) ?_
        refine o_iald (j := k) S hC (mi_4 hw) (by decide) (by omega) d_R_rangedOf_72 ?_
        refine tpi (y := nI (se k)) (hT k (by omega)).2.2.2.1 ?_
        refine o_iald (j := se k) S hC (mi_13 hw) (by decide) (by omega) d_R_rangedOf_73 ?_
        refine tpi (y := rg (se k)) (hs _ (by omega)) ?_
        refine lv_istore S.1 S.2.1 d_R_rangedOf_74 hl (by decide) rfl (fun ls hl => ?_)
        have hl : lv_has ls 5 [(4, .int (rg (se k))), (3, .int (rg (fi k))), (2, .int (nI k)), (0, .ref (ma 0)), (1, .int (nI f))] := hl
        refine lv_aload_n S.1 S.2.1 d_R_rangedOf_76 rfl (lv_at hl 3 rfl) ?_
        refine o_get (v := .ref (ma 1)) S hC kf_R hw.1 rfl 3 (by decide) q_694 rfl d_R_rangedOf_77 ?_
        refine lv_iload_n S.1 S.2.1 d_R_rangedOf_80 rfl (lv_at hl 2 rfl) ?_
        refine o_iald (j := k) S hC (mi_1 hw) (by decide) (by omega) d_R_rangedOf_81 ?_
        refine tpi (y := nI (kd k)) (hT k (by omega)).1 ?_
        refine lv_if_eq (tgt := 95) S.1 S.2.1 d_R_rangedOf_82 (by decide) (fun hx9 => absurd hx9 (by rw [hkd]; decide)) (fun _ => ?_)
        refine lv_aload_n S.1 S.2.1 d_R_rangedOf_85 rfl (lv_at hl 3 rfl) ?_
        refine o_get (v := .ref (ma 1)) S hC kf_R hw.1 rfl 3 (by decide) q_694 rfl d_R_rangedOf_86 ?_
        refine lv_iload_n S.1 S.2.1 d_R_rangedOf_89 rfl (lv_at hl 2 rfl) ?_
        refine o_iald (j := k) S hC (mi_1 hw) (by decide) (by omega) d_R_rangedOf_90 ?_
        refine tpi (y := nI (kd k)) (hT k (by omega)).1 ?_
        refine lv_iconst (v := 4) S.1 S.2.1 d_R_rangedOf_91 (by decide) ?_
        refine lv_icmp_ne (tgt := 108) S.1 S.2.1 d_R_rangedOf_92 (by decide) (fun _ => ?_) (fun hx9 => absurd hx9 (by rw [hkd]; decide))
        refine lv_aload_n S.1 S.2.1 d_R_rangedOf_108 rfl (lv_at hl 3 rfl) ?_
        refine o_get (v := .ref (ma 1)) S hC kf_R hw.1 rfl 3 (by decide) q_694 rfl d_R_rangedOf_109 ?_
        refine lv_iload_n S.1 S.2.1 d_R_rangedOf_112 rfl (lv_at hl 2 rfl) ?_
        refine o_iald (j := k) S hC (mi_1 hw) (by decide) (by omega) d_R_rangedOf_113 ?_
        refine tpi (y := nI (kd k)) (hT k (by omega)).1 ?_
        refine lv_iconst (v := 1) S.1 S.2.1 d_R_rangedOf_114 (by decide) ?_
        refine lv_icmp_ne (tgt := 144) S.1 S.2.1 d_R_rangedOf_115 (by decide) (fun _ => ?_) (fun hx9 => absurd hx9 (by rw [hkd]; decide))
        refine lv_aload_n S.1 S.2.1 d_R_rangedOf_144 rfl (lv_at hl 3 rfl) ?_
        refine o_get (v := .ref (ma 1)) S hC kf_R hw.1 rfl 3 (by decide) q_694 rfl d_R_rangedOf_145 ?_
        refine lv_iload_n S.1 S.2.1 d_R_rangedOf_148 rfl (lv_at hl 2 rfl) ?_
        refine o_iald (j := k) S hC (mi_1 hw) (by decide) (by omega) d_R_rangedOf_149 ?_
        refine tpi (y := nI (kd k)) (hT k (by omega)).1 ?_
        refine lv_iconst (v := 2) S.1 S.2.1 d_R_rangedOf_150 (by decide) ?_
        refine lv_icmp_eq (tgt := 164) S.1 S.2.1 d_R_rangedOf_151 (by decide) (fun hx9 => absurd hx9 (by rw [hkd]; decide)) (fun _ => ?_)
        refine lv_aload_n S.1 S.2.1 d_R_rangedOf_154 rfl (lv_at hl 3 rfl) ?_
        refine o_get (v := .ref (ma 1)) S hC kf_R hw.1 rfl 3 (by decide) q_694 rfl d_R_rangedOf_155 ?_
        refine lv_iload_n S.1 S.2.1 d_R_rangedOf_158 rfl (lv_at hl 2 rfl) ?_
        refine o_iald (j := k) S hC (mi_1 hw) (by decide) (by omega) d_R_rangedOf_159 ?_
        refine tpi (y := nI (kd k)) (hT k (by omega)).1 ?_
        refine lv_iconst (v := 3) S.1 S.2.1 d_R_rangedOf_160 (by decide) ?_
        refine lv_icmp_ne (tgt := 174) S.1 S.2.1 d_R_rangedOf_161 (by decide) (fun _ => ?_) (fun hx9 => absurd hx9 (by rw [hkd]; decide))
        refine lv_aload_n S.1 S.2.1 d_R_rangedOf_174 rfl (lv_at hl 3 rfl) ?_
        refine o_get (v := .ref (ma 1)) S hC kf_R hw.1 rfl 3 (by decide) q_694 rfl d_R_rangedOf_175 ?_
        refine lv_iload_n S.1 S.2.1 d_R_rangedOf_178 rfl (lv_at hl 2 rfl) ?_
        refine o_iald (j := k) S hC (mi_1 hw) (by decide) (by omega) d_R_rangedOf_179 ?_
        refine tpi (y := nI (kd k)) (hT k (by omega)).1 ?_
        refine lv_iconst (v := 5) S.1 S.2.1 d_R_rangedOf_180 (by decide) ?_
        refine lv_icmp_ne (tgt := 197) S.1 S.2.1 d_R_rangedOf_181 (by decide) (fun hx9 => absurd (by rw [hkd]; decide) hx9) (fun _ => ?_)
        refine lv_aload_n S.1 S.2.1 d_R_rangedOf_184 rfl (lv_at hl 3 rfl) ?_
        refine o_get (v := .ref (ma 13)) S hC kf_R hw.1 rfl 15 (by decide) q_708 rfl d_R_rangedOf_185 ?_
        refine lv_iload_n S.1 S.2.1 d_R_rangedOf_188 rfl (lv_at hl 2 rfl) ?_
        refine lv_iload_n S.1 S.2.1 d_R_rangedOf_189 rfl (lv_at hl 1 rfl) ?_
        refine lv_iload S.1 S.2.1 d_R_rangedOf_190 (lv_at hl 0 rfl) ?_
        refine lv_iand S.1 S.2.1 d_R_rangedOf_192 ?_
        refine m_iast (i := k) (x := (rg (fi k) &&& rg (se k))) 13 S hC hD hw hS (by decide) (by decide) (by decide) (by decide) (show k < 12 by omega) d_R_rangedOf_193 (fun H locs J8 eJ8 oJ8 hw hS => ?_)
        have hT : mT kd wh fi se lo hi J8 n := hT.to (fun p hp => oJ8 p (by omega))
        refine lv_goto (tgt := 237) S.1 S.2.1 d_R_rangedOf_194 (by decide) ?_
        refine lv_iinc (v := nI (k + 1)) S.1 S.2.1 d_R_rangedOf_237 hl (k := 2) rfl (nI_1 k) (by decide) rfl (fun ls hl => ?_)
        have hl : lv_has ls 5 [(2, .int (nI (k + 1))), (4, .int (rg (se k))), (3, .int (rg (fi k))), (0, .ref (ma 0)), (1, .int (nI f))] := hl
        refine lv_goto (tgt := 2) S.1 S.2.1 d_R_rangedOf_240 (by decide) ?_
        exact ih2 (k + 1) _ _ _ ls (by omega) (fun p hp => by rw [oJ8 p hp]; exact og p hp) (fun j hj => if e0 : j = k then by rw [e0, eJ8, pk_us, hrg k (by omega)]; rw [rgE_5 hkd] else by rw [eJ8, pk_un e0]; exact hs j (by omega)) hT hw hS (lv_sub hl [0, 3, 4] rfl)
      · have hfv := vp (by omega)
        refine lv_aload_n S.1 S.2.1 d_R_rangedOf_7 rfl (lv_at hl 1 rfl) ?_
        refine o_get (v := .ref (ma 1)) S hC kf_R hw.1 rfl 3 (by decide) q_694 rfl d_R_rangedOf_8 ?_
        refine lv_iload_n S.1 S.2.1 d_R_rangedOf_11 rfl (lv_at hl 0 rfl) ?_
        refine o_iald (j := k) S hC (mi_1 hw) (by decide) (by omega) d_R_rangedOf_12 ?_
        refine tpi (y := nI (kd k)) (hT k (by omega)).1 ?_
        refine lv_iconst (v := 2) S.1 S.2.1 d_R_rangedOf_13 (by decide) ?_
        refine lv_icmp_gt (tgt := 29) S.1 S.2.1 d_R_rangedOf_14 (by decide) (fun _ => ?_) (fun hx9 => absurd (by rw [hkd]; decide) hx9)
        refine lv_aload_n S.1 S.2.1 d_R_rangedOf_29 rfl (lv_at hl 1 rfl) ?_
        refine o_get (v := .ref (ma 13)) S hC kf_R hw.1 rfl 15 (by decide) q_708 rfl d_R_rangedOf_30 ?_
        refine lv_aload_n S.1 S.2.1 d_R_rangedOf_33 rfl (lv_at hl 1 rfl) ?_
        refine o_get (v := .ref (ma 3)) S hC kf_R hw.1 rfl 5 (by decide) q_696 rfl d_R_rangedOf_34 ?_
        refine lv_iload_n S.1 S.2.1 d_R_rangedOf_37 rfl (lv_at hl 0 rfl) ?_
        refine o_iald (j := k) S hC (mi_3 hw) (by decide) (by omega) d_R_rangedOf_38 ?_
        refine tpi (y := nI (fi k)) (hT k (by omega)).2.2.1 ?_
        refine o_iald (j := fi k) S hC (mi_13 hw) (by decide) (by omega) d_R_rangedOf_39 ?_
        refine tpi (y := rg (fi k)) (hs _ (by omega)) ?_
        refine lv_istore_n S.1 S.2.1 d_R_rangedOf_40 rfl hl (by decide) rfl (fun ls hl => ?_)
        have hl : lv_has ls 5 [(3, .int (rg (fi k))), (2, .int (nI k)), (0, .ref (ma 0)), (1, .int (nI f))] := hl
        refine lv_aload_n S.1 S.2.1 d_R_rangedOf_41 rfl (lv_at hl 2 rfl) ?_
        refine o_get (v := .ref (ma 1)) S hC kf_R hw.1 rfl 3 (by decide) q_694 rfl d_R_rangedOf_42 ?_
        refine lv_iload_n S.1 S.2.1 d_R_rangedOf_45 rfl (lv_at hl 1 rfl) ?_
        refine o_iald (j := k) S hC (mi_1 hw) (by decide) (by omega) d_R_rangedOf_46 ?_
        refine tpi (y := nI (kd k)) (hT k (by omega)).1 ?_
        refine lv_iconst (v := 2) S.1 S.2.1 d_R_rangedOf_47 (by decide) ?_
        refine lv_icmp_gt (tgt := 63) S.1 S.2.1 d_R_rangedOf_48 (by decide) (fun _ => ?_) (fun hx9 => absurd (by rw [hkd]; decide) hx9)
        refine lv_aload_n S.1 S.2.1 d_R_rangedOf_63 rfl (lv_at hl 2 rfl) ?_
        refine o_get (v := .ref (ma 13)) S hC kf_R hw.1 rfl 15 (by decide) q_708 rfl d_R_rangedOf_64 ?_
        refine lv_aload_n S.1 S.2.1 d_R_rangedOf_67 rfl (lv_at hl 2 rfl) ?_
        refine o_get (v := .ref (ma 4)) S hC kf_R hw.1 rfl 6 (by decide) q_697 rfl d_R_rangedOf_68 ?_
        refine lv_iload_n S.1 S.2.1 d_R_rangedOf_71 rfl (lv_at hl 1 rfl) ?_
        refine o_iald (j := k) S hC (mi_4 hw) (by decide) (by omega) d_R_rangedOf_72 ?_
        refine tpi (y := nI (se k)) (hT k (by omega)).2.2.2.1 ?_
        refine o_iald (j := se k) S hC (mi_13 hw) (by decide) (by omega) d_R_rangedOf_73 ?_
        refine tpi (y := rg (se k)) (hs _ (by omega)) ?_
        refine lv_istore S.1 S.2.1 d_R_rangedOf_74 hl (by decide) rfl (fun ls hl => ?_)
        have hl : lv_has ls 5 [(4, .int (rg (se k))), (3, .int (rg (fi k))), (2, .int (nI k)), (0, .ref (ma 0)), (1, .int (nI f))] := hl
        refine lv_aload_n S.1 S.2.1 d_R_rangedOf_76 rfl (lv_at hl 3 rfl) ?_
        refine o_get (v := .ref (ma 1)) S hC kf_R hw.1 rfl 3 (by decide) q_694 rfl d_R_rangedOf_77 ?_
        refine lv_iload_n S.1 S.2.1 d_R_rangedOf_80 rfl (lv_at hl 2 rfl) ?_
        refine o_iald (j := k) S hC (mi_1 hw) (by decide) (by omega) d_R_rangedOf_81 ?_
        refine tpi (y := nI (kd k)) (hT k (by omega)).1 ?_
        refine lv_if_eq (tgt := 95) S.1 S.2.1 d_R_rangedOf_82 (by decide) (fun hx9 => absurd hx9 (by rw [hkd]; decide)) (fun _ => ?_)
        refine lv_aload_n S.1 S.2.1 d_R_rangedOf_85 rfl (lv_at hl 3 rfl) ?_
        refine o_get (v := .ref (ma 1)) S hC kf_R hw.1 rfl 3 (by decide) q_694 rfl d_R_rangedOf_86 ?_
        refine lv_iload_n S.1 S.2.1 d_R_rangedOf_89 rfl (lv_at hl 2 rfl) ?_
        refine o_iald (j := k) S hC (mi_1 hw) (by decide) (by omega) d_R_rangedOf_90 ?_
        refine tpi (y := nI (kd k)) (hT k (by omega)).1 ?_
        refine lv_iconst (v := 4) S.1 S.2.1 d_R_rangedOf_91 (by decide) ?_
        refine lv_icmp_ne (tgt := 108) S.1 S.2.1 d_R_rangedOf_92 (by decide) (fun _ => ?_) (fun hx9 => absurd hx9 (by rw [hkd]; decide))
        refine lv_aload_n S.1 S.2.1 d_R_rangedOf_108 rfl (lv_at hl 3 rfl) ?_
        refine o_get (v := .ref (ma 1)) S hC kf_R hw.1 rfl 3 (by decide) q_694 rfl d_R_rangedOf_109 ?_
        refine lv_iload_n S.1 S.2.1 d_R_rangedOf_112 rfl (lv_at hl 2 rfl) ?_
        refine o_iald (j := k) S hC (mi_1 hw) (by decide) (by omega) d_R_rangedOf_113 ?_
        refine tpi (y := nI (kd k)) (hT k (by omega)).1 ?_
        refine lv_iconst (v := 1) S.1 S.2.1 d_R_rangedOf_114 (by decide) ?_
        refine lv_icmp_ne (tgt := 144) S.1 S.2.1 d_R_rangedOf_115 (by decide) (fun _ => ?_) (fun hx9 => absurd hx9 (by rw [hkd]; decide))
        refine lv_aload_n S.1 S.2.1 d_R_rangedOf_144 rfl (lv_at hl 3 rfl) ?_
        refine o_get (v := .ref (ma 1)) S hC kf_R hw.1 rfl 3 (by decide) q_694 rfl d_R_rangedOf_145 ?_
        refine lv_iload_n S.1 S.2.1 d_R_rangedOf_148 rfl (lv_at hl 2 rfl) ?_
        refine o_iald (j := k) S hC (mi_1 hw) (by decide) (by omega) d_R_rangedOf_149 ?_
        refine tpi (y := nI (kd k)) (hT k (by omega)).1 ?_
        refine lv_iconst (v := 2) S.1 S.2.1 d_R_rangedOf_150 (by decide) ?_
        refine lv_icmp_eq (tgt := 164) S.1 S.2.1 d_R_rangedOf_151 (by decide) (fun hx9 => absurd hx9 (by rw [hkd]; decide)) (fun _ => ?_)
        refine lv_aload_n S.1 S.2.1 d_R_rangedOf_154 rfl (lv_at hl 3 rfl) ?_
        refine o_get (v := .ref (ma 1)) S hC kf_R hw.1 rfl 3 (by decide) q_694 rfl d_R_rangedOf_155 ?_
        refine lv_iload_n S.1 S.2.1 d_R_rangedOf_158 rfl (lv_at hl 2 rfl) ?_
        refine o_iald (j := k) S hC (mi_1 hw) (by decide) (by omega) d_R_rangedOf_159 ?_
        refine tpi (y := nI (kd k)) (hT k (by omega)).1 ?_
        refine lv_iconst (v := 3) S.1 S.2.1 d_R_rangedOf_160 (by decide) ?_
        refine lv_icmp_ne (tgt := 174) S.1 S.2.1 d_R_rangedOf_161 (by decide) (fun _ => ?_) (fun hx9 => absurd hx9 (by rw [hkd]; decide))
        refine lv_aload_n S.1 S.2.1 d_R_rangedOf_174 rfl (lv_at hl 3 rfl) ?_
        refine o_get (v := .ref (ma 1)) S hC kf_R hw.1 rfl 3 (by decide) q_694 rfl d_R_rangedOf_175 ?_
        refine lv_iload_n S.1 S.2.1 d_R_rangedOf_178 rfl (lv_at hl 2 rfl) ?_
        refine o_iald (j := k) S hC (mi_1 hw) (by decide) (by omega) d_R_rangedOf_179 ?_
        refine tpi (y := nI (kd k)) (hT k (by omega)).1 ?_
        refine lv_iconst (v := 5) S.1 S.2.1 d_R_rangedOf_180 (by decide) ?_
        refine lv_icmp_ne (tgt := 197) S.1 S.2.1 d_R_rangedOf_181 (by decide) (fun _ => ?_) (fun hx9 => absurd hx9 (by rw [hkd]; decide))
        refine lv_aload_n S.1 S.2.1 d_R_rangedOf_197 rfl (lv_at hl 3 rfl) ?_
        refine o_get (v := .ref (ma 1)) S hC kf_R hw.1 rfl 3 (by decide) q_694 rfl d_R_rangedOf_198 ?_
        refine lv_iload_n S.1 S.2.1 d_R_rangedOf_201 rfl (lv_at hl 2 rfl) ?_
        refine o_iald (j := k) S hC (mi_1 hw) (by decide) (by omega) d_R_rangedOf_202 ?_
        refine tpi (y := nI (kd k)) (hT k (by omega)).1 ?_
        refine lv_bipush (v := 6) S.1 S.2.1 d_R_rangedOf_203 (by decide) ?_
        refine lv_icmp_ne (tgt := 229) S.1 S.2.1 d_R_rangedOf_205 (by decide) (fun hx9 => absurd (by rw [hkd]; decide) hx9) (fun _ => ?_)
        refine lv_aload_n S.1 S.2.1 d_R_rangedOf_208 rfl (lv_at hl 3 rfl) ?_
        refine o_get (v := .ref (ma 13)) S hC kf_R hw.1 rfl 15 (by decide) q_708 rfl d_R_rangedOf_209 ?_
        refine lv_iload_n S.1 S.2.1 d_R_rangedOf_212 rfl (lv_at hl 2 rfl) ?_
        refine lv_iload_n S.1 S.2.1 d_R_rangedOf_213 rfl (lv_at hl 1 rfl) ?_
        refine lv_iconst (v := 1) S.1 S.2.1 d_R_rangedOf_214 (by decide) ?_
        refine lv_aload_n S.1 S.2.1 d_R_rangedOf_215 rfl (lv_at hl 3 rfl) ?_
        refine o_get (v := .ref (ma 2)) S hC kf_R hw.1 rfl 4 (by decide) q_695 rfl d_R_rangedOf_216 ?_
        refine lv_iload_n S.1 S.2.1 d_R_rangedOf_219 rfl (lv_at hl 2 rfl) ?_
        refine o_iald (j := k) S hC (mi_2 hw) (by decide) (by omega) d_R_rangedOf_220 ?_
        refine tpi (y := nI (wh k)) (hT k (by omega)).2.1 ?_
        refine lv_ishl S.1 S.2.1 d_R_rangedOf_221 ?_
        refine lv_iconst (v := (-1)) S.1 S.2.1 d_R_rangedOf_222 (by decide) ?_
        refine lv_ixor S.1 S.2.1 d_R_rangedOf_223 ?_
        refine lv_iand S.1 S.2.1 d_R_rangedOf_224 ?_
        refine m_iast (i := k) (x := (rg (fi k) &&& (((1 : Int32) <<< ((nI (wh k) : Int32) &&& 31)) ^^^ (-1)))) 13 S hC hD hw hS (by decide) (by decide) (by decide) (by decide) (show k < 12 by omega) d_R_rangedOf_225 (fun H locs J9 eJ9 oJ9 hw hS => ?_)
        have hT : mT kd wh fi se lo hi J9 n := hT.to (fun p hp => oJ9 p (by omega))
        refine lv_goto (tgt := 237) S.1 S.2.1 d_R_rangedOf_226 (by decide) ?_
        refine lv_iinc (v := nI (k + 1)) S.1 S.2.1 d_R_rangedOf_237 hl (k := 2) rfl (nI_1 k) (by decide) rfl (fun ls hl => ?_)
        have hl : lv_has ls 5 [(2, .int (nI (k + 1))), (4, .int (rg (se k))), (3, .int (rg (fi k))), (0, .ref (ma 0)), (1, .int (nI f))] := hl
        refine lv_goto (tgt := 2) S.1 S.2.1 d_R_rangedOf_240 (by decide) ?_
        exact ih2 (k + 1) _ _ _ ls (by omega) (fun p hp => by rw [oJ9 p hp]; exact og p hp) (fun j hj => if e0 : j = k then by rw [e0, eJ9, pk_us, hrg k (by omega)]; rw [rgE_6 hkd]; rfl else by rw [eJ9, pk_un e0]; exact hs j (by omega)) hT hw hS (lv_sub hl [0, 3, 4] rfl)
      · have hfv := vp (by omega)
        refine lv_aload_n S.1 S.2.1 d_R_rangedOf_7 rfl (lv_at hl 1 rfl) ?_
        refine o_get (v := .ref (ma 1)) S hC kf_R hw.1 rfl 3 (by decide) q_694 rfl d_R_rangedOf_8 ?_
        refine lv_iload_n S.1 S.2.1 d_R_rangedOf_11 rfl (lv_at hl 0 rfl) ?_
        refine o_iald (j := k) S hC (mi_1 hw) (by decide) (by omega) d_R_rangedOf_12 ?_
        refine tpi (y := nI (kd k)) (hT k (by omega)).1 ?_
        refine lv_iconst (v := 2) S.1 S.2.1 d_R_rangedOf_13 (by decide) ?_
        refine lv_icmp_gt (tgt := 29) S.1 S.2.1 d_R_rangedOf_14 (by decide) (fun _ => ?_) (fun hx9 => absurd (by rw [hkd]; decide) hx9)
        refine lv_aload_n S.1 S.2.1 d_R_rangedOf_29 rfl (lv_at hl 1 rfl) ?_
        refine o_get (v := .ref (ma 13)) S hC kf_R hw.1 rfl 15 (by decide) q_708 rfl d_R_rangedOf_30 ?_
        refine lv_aload_n S.1 S.2.1 d_R_rangedOf_33 rfl (lv_at hl 1 rfl) ?_
        refine o_get (v := .ref (ma 3)) S hC kf_R hw.1 rfl 5 (by decide) q_696 rfl d_R_rangedOf_34 ?_
        refine lv_iload_n S.1 S.2.1 d_R_rangedOf_37 rfl (lv_at hl 0 rfl) ?_
        refine o_iald (j := k) S hC (mi_3 hw) (by decide) (by omega) d_R_rangedOf_38 ?_
        refine tpi (y := nI (fi k)) (hT k (by omega)).2.2.1 ?_
        refine o_iald (j := fi k) S hC (mi_13 hw) (by decide) (by omega) d_R_rangedOf_39 ?_
        refine tpi (y := rg (fi k)) (hs _ (by omega)) ?_
        refine lv_istore_n S.1 S.2.1 d_R_rangedOf_40 rfl hl (by decide) rfl (fun ls hl => ?_)
        have hl : lv_has ls 5 [(3, .int (rg (fi k))), (2, .int (nI k)), (0, .ref (ma 0)), (1, .int (nI f))] := hl
        refine lv_aload_n S.1 S.2.1 d_R_rangedOf_41 rfl (lv_at hl 2 rfl) ?_
        refine o_get (v := .ref (ma 1)) S hC kf_R hw.1 rfl 3 (by decide) q_694 rfl d_R_rangedOf_42 ?_
        refine lv_iload_n S.1 S.2.1 d_R_rangedOf_45 rfl (lv_at hl 1 rfl) ?_
        refine o_iald (j := k) S hC (mi_1 hw) (by decide) (by omega) d_R_rangedOf_46 ?_
        refine tpi (y := nI (kd k)) (hT k (by omega)).1 ?_
        refine lv_iconst (v := 2) S.1 S.2.1 d_R_rangedOf_47 (by decide) ?_
        refine lv_icmp_gt (tgt := 63) S.1 S.2.1 d_R_rangedOf_48 (by decide) (fun _ => ?_) (fun hx9 => absurd (by rw [hkd]; decide) hx9)
        refine lv_aload_n S.1 S.2.1 d_R_rangedOf_63 rfl (lv_at hl 2 rfl) ?_
        refine o_get (v := .ref (ma 13)) S hC kf_R hw.1 rfl 15 (by decide) q_708 rfl d_R_rangedOf_64 ?_
        refine lv_aload_n S.1 S.2.1 d_R_rangedOf_67 rfl (lv_at hl 2 rfl) ?_
        refine o_get (v := .ref (ma 4)) S hC kf_R hw.1 rfl 6 (by decide) q_697 rfl d_R_rangedOf_68 ?_
        refine lv_iload_n S.1 S.2.1 d_R_rangedOf_71 rfl (lv_at hl 1 rfl) ?_
        refine o_iald (j := k) S hC (mi_4 hw) (by decide) (by omega) d_R_rangedOf_72 ?_
        refine tpi (y := nI (se k)) (hT k (by omega)).2.2.2.1 ?_
        refine o_iald (j := se k) S hC (mi_13 hw) (by decide) (by omega) d_R_rangedOf_73 ?_
        refine tpi (y := rg (se k)) (hs _ (by omega)) ?_
        refine lv_istore S.1 S.2.1 d_R_rangedOf_74 hl (by decide) rfl (fun ls hl => ?_)
        have hl : lv_has ls 5 [(4, .int (rg (se k))), (3, .int (rg (fi k))), (2, .int (nI k)), (0, .ref (ma 0)), (1, .int (nI f))] := hl
        refine lv_aload_n S.1 S.2.1 d_R_rangedOf_76 rfl (lv_at hl 3 rfl) ?_
        refine o_get (v := .ref (ma 1)) S hC kf_R hw.1 rfl 3 (by decide) q_694 rfl d_R_rangedOf_77 ?_
        refine lv_iload_n S.1 S.2.1 d_R_rangedOf_80 rfl (lv_at hl 2 rfl) ?_
        refine o_iald (j := k) S hC (mi_1 hw) (by decide) (by omega) d_R_rangedOf_81 ?_
        refine tpi (y := nI (kd k)) (hT k (by omega)).1 ?_
        refine lv_if_eq (tgt := 95) S.1 S.2.1 d_R_rangedOf_82 (by decide) (fun hx9 => absurd hx9 (by rw [hkd]; decide)) (fun _ => ?_)
        refine lv_aload_n S.1 S.2.1 d_R_rangedOf_85 rfl (lv_at hl 3 rfl) ?_
        refine o_get (v := .ref (ma 1)) S hC kf_R hw.1 rfl 3 (by decide) q_694 rfl d_R_rangedOf_86 ?_
        refine lv_iload_n S.1 S.2.1 d_R_rangedOf_89 rfl (lv_at hl 2 rfl) ?_
        refine o_iald (j := k) S hC (mi_1 hw) (by decide) (by omega) d_R_rangedOf_90 ?_
        refine tpi (y := nI (kd k)) (hT k (by omega)).1 ?_
        refine lv_iconst (v := 4) S.1 S.2.1 d_R_rangedOf_91 (by decide) ?_
        refine lv_icmp_ne (tgt := 108) S.1 S.2.1 d_R_rangedOf_92 (by decide) (fun _ => ?_) (fun hx9 => absurd hx9 (by rw [hkd]; decide))
        refine lv_aload_n S.1 S.2.1 d_R_rangedOf_108 rfl (lv_at hl 3 rfl) ?_
        refine o_get (v := .ref (ma 1)) S hC kf_R hw.1 rfl 3 (by decide) q_694 rfl d_R_rangedOf_109 ?_
        refine lv_iload_n S.1 S.2.1 d_R_rangedOf_112 rfl (lv_at hl 2 rfl) ?_
        refine o_iald (j := k) S hC (mi_1 hw) (by decide) (by omega) d_R_rangedOf_113 ?_
        refine tpi (y := nI (kd k)) (hT k (by omega)).1 ?_
        refine lv_iconst (v := 1) S.1 S.2.1 d_R_rangedOf_114 (by decide) ?_
        refine lv_icmp_ne (tgt := 144) S.1 S.2.1 d_R_rangedOf_115 (by decide) (fun _ => ?_) (fun hx9 => absurd hx9 (by rw [hkd]; decide))
        refine lv_aload_n S.1 S.2.1 d_R_rangedOf_144 rfl (lv_at hl 3 rfl) ?_
        refine o_get (v := .ref (ma 1)) S hC kf_R hw.1 rfl 3 (by decide) q_694 rfl d_R_rangedOf_145 ?_
        refine lv_iload_n S.1 S.2.1 d_R_rangedOf_148 rfl (lv_at hl 2 rfl) ?_
        refine o_iald (j := k) S hC (mi_1 hw) (by decide) (by omega) d_R_rangedOf_149 ?_
        refine tpi (y := nI (kd k)) (hT k (by omega)).1 ?_
        refine lv_iconst (v := 2) S.1 S.2.1 d_R_rangedOf_150 (by decide) ?_
        refine lv_icmp_eq (tgt := 164) S.1 S.2.1 d_R_rangedOf_151 (by decide) (fun hx9 => absurd hx9 (by rw [hkd]; decide)) (fun _ => ?_)
        refine lv_aload_n S.1 S.2.1 d_R_rangedOf_154 rfl (lv_at hl 3 rfl) ?_
        refine o_get (v := .ref (ma 1)) S hC kf_R hw.1 rfl 3 (by decide) q_694 rfl d_R_rangedOf_155 ?_
        refine lv_iload_n S.1 S.2.1 d_R_rangedOf_158 rfl (lv_at hl 2 rfl) ?_
        refine o_iald (j := k) S hC (mi_1 hw) (by decide) (by omega) d_R_rangedOf_159 ?_
        refine tpi (y := nI (kd k)) (hT k (by omega)).1 ?_
        refine lv_iconst (v := 3) S.1 S.2.1 d_R_rangedOf_160 (by decide) ?_
        refine lv_icmp_ne (tgt := 174) S.1 S.2.1 d_R_rangedOf_161 (by decide) (fun _ => ?_) (fun hx9 => absurd hx9 (by rw [hkd]; decide))
        refine lv_aload_n S.1 S.2.1 d_R_rangedOf_174 rfl (lv_at hl 3 rfl) ?_
        refine o_get (v := .ref (ma 1)) S hC kf_R hw.1 rfl 3 (by decide) q_694 rfl d_R_rangedOf_175 ?_
        refine lv_iload_n S.1 S.2.1 d_R_rangedOf_178 rfl (lv_at hl 2 rfl) ?_
        refine o_iald (j := k) S hC (mi_1 hw) (by decide) (by omega) d_R_rangedOf_179 ?_
        refine tpi (y := nI (kd k)) (hT k (by omega)).1 ?_
        refine lv_iconst (v := 5) S.1 S.2.1 d_R_rangedOf_180 (by decide) ?_
        refine lv_icmp_ne (tgt := 197) S.1 S.2.1 d_R_rangedOf_181 (by decide) (fun _ => ?_) (fun hx9 => absurd hx9 (by rw [hkd]; decide))
        refine lv_aload_n S.1 S.2.1 d_R_rangedOf_197 rfl (lv_at hl 3 rfl) ?_
        refine o_get (v := .ref (ma 1)) S hC kf_R hw.1 rfl 3 (by decide) q_694 rfl d_R_rangedOf_198 ?_
        refine lv_iload_n S.1 S.2.1 d_R_rangedOf_201 rfl (lv_at hl 2 rfl) ?_
        refine o_iald (j := k) S hC (mi_1 hw) (by decide) (by omega) d_R_rangedOf_202 ?_
        refine tpi (y := nI (kd k)) (hT k (by omega)).1 ?_
        refine lv_bipush (v := 6) S.1 S.2.1 d_R_rangedOf_203 (by decide) ?_
        refine lv_icmp_ne (tgt := 229) S.1 S.2.1 d_R_rangedOf_205 (by decide) (fun _ => ?_) (fun hx9 => absurd hx9 (by rw [hkd]; decide))
        refine lv_aload_n S.1 S.2.1 d_R_rangedOf_229 rfl (lv_at hl 3 rfl) ?_
        refine o_get (v := .ref (ma 13)) S hC kf_R hw.1 rfl 15 (by decide) q_708 rfl d_R_rangedOf_230 ?_
        refine lv_iload_n S.1 S.2.1 d_R_rangedOf_233 rfl (lv_at hl 2 rfl) ?_
        refine lv_iload S.1 S.2.1 d_R_rangedOf_234 (lv_at hl 0 rfl) ?_
        refine m_iast (i := k) (x := rg (se k)) 13 S hC hD hw hS (by decide) (by decide) (by decide) (by decide) (show k < 12 by omega) d_R_rangedOf_236 (fun H locs J10 eJ10 oJ10 hw hS => ?_)
        have hT : mT kd wh fi se lo hi J10 n := hT.to (fun p hp => oJ10 p (by omega))
        refine lv_iinc (v := nI (k + 1)) S.1 S.2.1 d_R_rangedOf_237 hl (k := 2) rfl (nI_1 k) (by decide) rfl (fun ls hl => ?_)
        have hl : lv_has ls 5 [(2, .int (nI (k + 1))), (4, .int (rg (se k))), (3, .int (rg (fi k))), (0, .ref (ma 0)), (1, .int (nI f))] := hl
        refine lv_goto (tgt := 2) S.1 S.2.1 d_R_rangedOf_240 (by decide) ?_
        exact ih2 (k + 1) _ _ _ ls (by omega) (fun p hp => by rw [oJ10 p hp]; exact og p hp) (fun j hj => if e0 : j = k then by rw [e0, eJ10, pk_us, hrg k (by omega)]; rw [rgE_7 (by omega)] else by rw [eJ10, pk_un e0]; exact hs j (by omega)) hT hw hS (lv_sub hl [0, 3, 4] rfl)
      · have hfv := vp (by omega)
        refine lv_aload_n S.1 S.2.1 d_R_rangedOf_7 rfl (lv_at hl 1 rfl) ?_
        refine o_get (v := .ref (ma 1)) S hC kf_R hw.1 rfl 3 (by decide) q_694 rfl d_R_rangedOf_8 ?_
        refine lv_iload_n S.1 S.2.1 d_R_rangedOf_11 rfl (lv_at hl 0 rfl) ?_
        refine o_iald (j := k) S hC (mi_1 hw) (by decide) (by omega) d_R_rangedOf_12 ?_
        refine tpi (y := nI (kd k)) (hT k (by omega)).1 ?_
        refine lv_iconst (v := 2) S.1 S.2.1 d_R_rangedOf_13 (by decide) ?_
        refine lv_icmp_gt (tgt := 29) S.1 S.2.1 d_R_rangedOf_14 (by decide) (fun _ => ?_) (fun hx9 => absurd (by rw [hkd]; decide) hx9)
        refine lv_aload_n S.1 S.2.1 d_R_rangedOf_29 rfl (lv_at hl 1 rfl) ?_
        refine o_get (v := .ref (ma 13)) S hC kf_R hw.1 rfl 15 (by decide) q_708 rfl d_R_rangedOf_30 ?_
        refine lv_aload_n S.1 S.2.1 d_R_rangedOf_33 rfl (lv_at hl 1 rfl) ?_
        refine o_get (v := .ref (ma 3)) S hC kf_R hw.1 rfl 5 (by decide) q_696 rfl d_R_rangedOf_34 ?_
        refine lv_iload_n S.1 S.2.1 d_R_rangedOf_37 rfl (lv_at hl 0 rfl) ?_
        refine o_iald (j := k) S hC (mi_3 hw) (by decide) (by omega) d_R_rangedOf_38 ?_
        refine tpi (y := nI (fi k)) (hT k (by omega)).2.2.1 ?_
        refine o_iald (j := fi k) S hC (mi_13 hw) (by decide) (by omega) d_R_rangedOf_39 ?_
        refine tpi (y := rg (fi k)) (hs _ (by omega)) ?_
        refine lv_istore_n S.1 S.2.1 d_R_rangedOf_40 rfl hl (by decide) rfl (fun ls hl => ?_)
        have hl : lv_has ls 5 [(3, .int (rg (fi k))), (2, .int (nI k)), (0, .ref (ma 0)), (1, .int (nI f))] := hl
        refine lv_aload_n S.1 S.2.1 d_R_rangedOf_41 rfl (lv_at hl 2 rfl) ?_
        refine o_get (v := .ref (ma 1)) S hC kf_R hw.1 rfl 3 (by decide) q_694 rfl d_R_rangedOf_42 ?_
        refine lv_iload_n S.1 S.2.1 d_R_rangedOf_45 rfl (lv_at hl 1 rfl) ?_
        refine o_iald (j := k) S hC (mi_1 hw) (by decide) (by omega) d_R_rangedOf_46 ?_
        refine tpi (y := nI (kd k)) (hT k (by omega)).1 ?_
        refine lv_iconst (v := 2) S.1 S.2.1 d_R_rangedOf_47 (by decide) ?_
        refine lv_icmp_gt (tgt := 63) S.1 S.2.1 d_R_rangedOf_48 (by decide) (fun _ => ?_) (fun hx9 => absurd (by rw [hkd]; decide) hx9)
        refine lv_aload_n S.1 S.2.1 d_R_rangedOf_63 rfl (lv_at hl 2 rfl) ?_
        refine o_get (v := .ref (ma 13)) S hC kf_R hw.1 rfl 15 (by decide) q_708 rfl d_R_rangedOf_64 ?_
        refine lv_aload_n S.1 S.2.1 d_R_rangedOf_67 rfl (lv_at hl 2 rfl) ?_
        refine o_get (v := .ref (ma 4)) S hC kf_R hw.1 rfl 6 (by decide) q_697 rfl d_R_rangedOf_68 ?_
        refine lv_iload_n S.1 S.2.1 d_R_rangedOf_71 rfl (lv_at hl 1 rfl) ?_
        refine o_iald (j := k) S hC (mi_4 hw) (by decide) (by omega) d_R_rangedOf_72 ?_
        refine tpi (y := nI (se k)) (hT k (by omega)).2.2.2.1 ?_
        refine o_iald (j := se k) S hC (mi_13 hw) (by decide) (by omega) d_R_rangedOf_73 ?_
        refine tpi (y := rg (se k)) (hs _ (by omega)) ?_
        refine lv_istore S.1 S.2.1 d_R_rangedOf_74 hl (by decide) rfl (fun ls hl => ?_)
        have hl : lv_has ls 5 [(4, .int (rg (se k))), (3, .int (rg (fi k))), (2, .int (nI k)), (0, .ref (ma 0)), (1, .int (nI f))] := hl
        refine lv_aload_n S.1 S.2.1 d_R_rangedOf_76 rfl (lv_at hl 3 rfl) ?_
        refine o_get (v := .ref (ma 1)) S hC kf_R hw.1 rfl 3 (by decide) q_694 rfl d_R_rangedOf_77 ?_
        refine lv_iload_n S.1 S.2.1 d_R_rangedOf_80 rfl (lv_at hl 2 rfl) ?_
        refine o_iald (j := k) S hC (mi_1 hw) (by decide) (by omega) d_R_rangedOf_81 ?_
        refine tpi (y := nI (kd k)) (hT k (by omega)).1 ?_
        refine lv_if_eq (tgt := 95) S.1 S.2.1 d_R_rangedOf_82 (by decide) (fun hx9 => absurd hx9 (by rw [hkd]; decide)) (fun _ => ?_)
        refine lv_aload_n S.1 S.2.1 d_R_rangedOf_85 rfl (lv_at hl 3 rfl) ?_
        refine o_get (v := .ref (ma 1)) S hC kf_R hw.1 rfl 3 (by decide) q_694 rfl d_R_rangedOf_86 ?_
        refine lv_iload_n S.1 S.2.1 d_R_rangedOf_89 rfl (lv_at hl 2 rfl) ?_
        refine o_iald (j := k) S hC (mi_1 hw) (by decide) (by omega) d_R_rangedOf_90 ?_
        refine tpi (y := nI (kd k)) (hT k (by omega)).1 ?_
        refine lv_iconst (v := 4) S.1 S.2.1 d_R_rangedOf_91 (by decide) ?_
        refine lv_icmp_ne (tgt := 108) S.1 S.2.1 d_R_rangedOf_92 (by decide) (fun _ => ?_) (fun hx9 => absurd hx9 (by rw [hkd]; decide))
        refine lv_aload_n S.1 S.2.1 d_R_rangedOf_108 rfl (lv_at hl 3 rfl) ?_
        refine o_get (v := .ref (ma 1)) S hC kf_R hw.1 rfl 3 (by decide) q_694 rfl d_R_rangedOf_109 ?_
        refine lv_iload_n S.1 S.2.1 d_R_rangedOf_112 rfl (lv_at hl 2 rfl) ?_
        refine o_iald (j := k) S hC (mi_1 hw) (by decide) (by omega) d_R_rangedOf_113 ?_
        refine tpi (y := nI (kd k)) (hT k (by omega)).1 ?_
        refine lv_iconst (v := 1) S.1 S.2.1 d_R_rangedOf_114 (by decide) ?_
        refine lv_icmp_ne (tgt := 144) S.1 S.2.1 d_R_rangedOf_115 (by decide) (fun _ => ?_) (fun hx9 => absurd hx9 (by rw [hkd]; decide))
        refine lv_aload_n S.1 S.2.1 d_R_rangedOf_144 rfl (lv_at hl 3 rfl) ?_
        refine o_get (v := .ref (ma 1)) S hC kf_R hw.1 rfl 3 (by decide) q_694 rfl d_R_rangedOf_145 ?_
        refine lv_iload_n S.1 S.2.1 d_R_rangedOf_148 rfl (lv_at hl 2 rfl) ?_
        refine o_iald (j := k) S hC (mi_1 hw) (by decide) (by omega) d_R_rangedOf_149 ?_
        refine tpi (y := nI (kd k)) (hT k (by omega)).1 ?_
        refine lv_iconst (v := 2) S.1 S.2.1 d_R_rangedOf_150 (by decide) ?_
        refine lv_icmp_eq (tgt := 164) S.1 S.2.1 d_R_rangedOf_151 (by decide) (fun hx9 => absurd hx9 (by rw [hkd]; decide)) (fun _ => ?_)
        refine lv_aload_n S.1 S.2.1 d_R_rangedOf_154 rfl (lv_at hl 3 rfl) ?_
        refine o_get (v := .ref (ma 1)) S hC kf_R hw.1 rfl 3 (by decide) q_694 rfl d_R_rangedOf_155 ?_
        refine lv_iload_n S.1 S.2.1 d_R_rangedOf_158 rfl (lv_at hl 2 rfl) ?_
        refine o_iald (j := k) S hC (mi_1 hw) (by decide) (by omega) d_R_rangedOf_159 ?_
        refine tpi (y := nI (kd k)) (hT k (by omega)).1 ?_
        refine lv_iconst (v := 3) S.1 S.2.1 d_R_rangedOf_160 (by decide) ?_
        refine lv_icmp_ne (tgt := 174) S.1 S.2.1 d_R_rangedOf_161 (by decide) (fun _ => ?_) (fun hx9 => absurd hx9 (by rw [hkd]; decide))
        refine lv_aload_n S.1 S.2.1 d_R_rangedOf_174 rfl (lv_at hl 3 rfl) ?_
        refine o_get (v := .ref (ma 1)) S hC kf_R hw.1 rfl 3 (by decide) q_694 rfl d_R_rangedOf_175 ?_
        refine lv_iload_n S.1 S.2.1 d_R_rangedOf_178 rfl (lv_at hl 2 rfl) ?_
        refine o_iald (j := k) S hC (mi_1 hw) (by decide) (by omega) d_R_rangedOf_179 ?_
        refine tpi (y := nI (kd k)) (hT k (by omega)).1 ?_
        refine lv_iconst (v := 5) S.1 S.2.1 d_R_rangedOf_180 (by decide) ?_
        refine lv_icmp_ne (tgt := 197) S.1 S.2.1 d_R_rangedOf_181 (by decide) (fun _ => ?_) (fun hx9 => absurd hx9 (by rw [hkd]; decide))
        refine lv_aload_n S.1 S.2.1 d_R_rangedOf_197 rfl (lv_at hl 3 rfl) ?_
        refine o_get (v := .ref (ma 1)) S hC kf_R hw.1 rfl 3 (by decide) q_694 rfl d_R_rangedOf_198 ?_
        refine lv_iload_n S.1 S.2.1 d_R_rangedOf_201 rfl (lv_at hl 2 rfl) ?_
        refine o_iald (j := k) S hC (mi_1 hw) (by decide) (by omega) d_R_rangedOf_202 ?_
        refine tpi (y := nI (kd k)) (hT k (by omega)).1 ?_
        refine lv_bipush (v := 6) S.1 S.2.1 d_R_rangedOf_203 (by decide) ?_
        refine lv_icmp_ne (tgt := 229) S.1 S.2.1 d_R_rangedOf_205 (by decide) (fun _ => ?_) (fun hx9 => absurd hx9 (by rw [hkd]; decide))
        refine lv_aload_n S.1 S.2.1 d_R_rangedOf_229 rfl (lv_at hl 3 rfl) ?_
        refine o_get (v := .ref (ma 13)) S hC kf_R hw.1 rfl 15 (by decide) q_708 rfl d_R_rangedOf_230 ?_
        refine lv_iload_n S.1 S.2.1 d_R_rangedOf_233 rfl (lv_at hl 2 rfl) ?_
        refine lv_iload S.1 S.2.1 d_R_rangedOf_234 (lv_at hl 0 rfl) ?_
        refine m_iast (i := k) (x := rg (se k)) 13 S hC hD hw hS (by decide) (by decide) (by decide) (by decide) (show k < 12 by omega) d_R_rangedOf_236 (fun H locs J11 eJ11 oJ11 hw hS => ?_)
        have hT : mT kd wh fi se lo hi J11 n := hT.to (fun p hp => oJ11 p (by omega))
        refine lv_iinc (v := nI (k + 1)) S.1 S.2.1 d_R_rangedOf_237 hl (k := 2) rfl (nI_1 k) (by decide) rfl (fun ls hl => ?_)
        have hl : lv_has ls 5 [(2, .int (nI (k + 1))), (4, .int (rg (se k))), (3, .int (rg (fi k))), (0, .ref (ma 0)), (1, .int (nI f))] := hl
        refine lv_goto (tgt := 2) S.1 S.2.1 d_R_rangedOf_240 (by decide) ?_
        exact ih2 (k + 1) _ _ _ ls (by omega) (fun p hp => by rw [oJ11 p hp]; exact og p hp) (fun j hj => if e0 : j = k then by rw [e0, eJ11, pk_us, hrg k (by omega)]; rw [rgE_7 (by omega)] else by rw [eJ11, pk_un e0]; exact hs j (by omega)) hT hw hS (lv_sub hl [0, 3, 4] rfl)
      · have hfv := vp (by omega)
        refine lv_aload_n S.1 S.2.1 d_R_rangedOf_7 rfl (lv_at hl 1 rfl) ?_
        refine o_get (v := .ref (ma 1)) S hC kf_R hw.1 rfl 3 (by decide) q_694 rfl d_R_rangedOf_8 ?_
        refine lv_iload_n S.1 S.2.1 d_R_rangedOf_11 rfl (lv_at hl 0 rfl) ?_
        refine o_iald (j := k) S hC (mi_1 hw) (by decide) (by omega) d_R_rangedOf_12 ?_
        refine tpi (y := nI (kd k)) (hT k (by omega)).1 ?_
        refine lv_iconst (v := 2) S.1 S.2.1 d_R_rangedOf_13 (by decide) ?_
        refine lv_icmp_gt (tgt := 29) S.1 S.2.1 d_R_rangedOf_14 (by decide) (fun _ => ?_) (fun hx9 => absurd (by rw [hkd]; decide) hx9)
        refine lv_aload_n S.1 S.2.1 d_R_rangedOf_29 rfl (lv_at hl 1 rfl) ?_
        refine o_get (v := .ref (ma 13)) S hC kf_R hw.1 rfl 15 (by decide) q_708 rfl d_R_rangedOf_30 ?_
        refine lv_aload_n S.1 S.2.1 d_R_rangedOf_33 rfl (lv_at hl 1 rfl) ?_
        refine o_get (v := .ref (ma 3)) S hC kf_R hw.1 rfl 5 (by decide) q_696 rfl d_R_rangedOf_34 ?_
        refine lv_iload_n S.1 S.2.1 d_R_rangedOf_37 rfl (lv_at hl 0 rfl) ?_
        refine o_iald (j := k) S hC (mi_3 hw) (by decide) (by omega) d_R_rangedOf_38 ?_
        refine tpi (y := nI (fi k)) (hT k (by omega)).2.2.1 ?_
        refine o_iald (j := fi k) S hC (mi_13 hw) (by decide) (by omega) d_R_rangedOf_39 ?_
        refine tpi (y := rg (fi k)) (hs _ (by omega)) ?_
        refine lv_istore_n S.1 S.2.1 d_R_rangedOf_40 rfl hl (by decide) rfl (fun ls hl => ?_)
        have hl : lv_has ls 5 [(3, .int (rg (fi k))), (2, .int (nI k)), (0, .ref (ma 0)), (1, .int (nI f))] := hl
        refine lv_aload_n S.1 S.2.1 d_R_rangedOf_41 rfl (lv_at hl 2 rfl) ?_
        refine o_get (v := .ref (ma 1)) S hC kf_R hw.1 rfl 3 (by decide) q_694 rfl d_R_rangedOf_42 ?_
        refine lv_iload_n S.1 S.2.1 d_R_rangedOf_45 rfl (lv_at hl 1 rfl) ?_
        refine o_iald (j := k) S hC (mi_1 hw) (by decide) (by omega) d_R_rangedOf_46 ?_
        refine tpi (y := nI (kd k)) (hT k (by omega)).1 ?_
        refine lv_iconst (v := 2) S.1 S.2.1 d_R_rangedOf_47 (by decide) ?_
        refine lv_icmp_gt (tgt := 63) S.1 S.2.1 d_R_rangedOf_48 (by decide) (fun _ => ?_) (fun hx9 => absurd (by rw [hkd]; decide) hx9)
        refine lv_aload_n S.1 S.2.1 d_R_rangedOf_63 rfl (lv_at hl 2 rfl) ?_
        refine o_get (v := .ref (ma 13)) S hC kf_R hw.1 rfl 15 (by decide) q_708 rfl d_R_rangedOf_64 ?_
        refine lv_aload_n S.1 S.2.1 d_R_rangedOf_67 rfl (lv_at hl 2 rfl) ?_
        refine o_get (v := .ref (ma 4)) S hC kf_R hw.1 rfl 6 (by decide) q_697 rfl d_R_rangedOf_68 ?_
        refine lv_iload_n S.1 S.2.1 d_R_rangedOf_71 rfl (lv_at hl 1 rfl) ?_
        refine o_iald (j := k) S hC (mi_4 hw) (by decide) (by omega) d_R_rangedOf_72 ?_
        refine tpi (y := nI (se k)) (hT k (by omega)).2.2.2.1 ?_
        refine o_iald (j := se k) S hC (mi_13 hw) (by decide) (by omega) d_R_rangedOf_73 ?_
        refine tpi (y := rg (se k)) (hs _ (by omega)) ?_
        refine lv_istore S.1 S.2.1 d_R_rangedOf_74 hl (by decide) rfl (fun ls hl => ?_)
        have hl : lv_has ls 5 [(4, .int (rg (se k))), (3, .int (rg (fi k))), (2, .int (nI k)), (0, .ref (ma 0)), (1, .int (nI f))] := hl
        refine lv_aload_n S.1 S.2.1 d_R_rangedOf_76 rfl (lv_at hl 3 rfl) ?_
        refine o_get (v := .ref (ma 1)) S hC kf_R hw.1 rfl 3 (by decide) q_694 rfl d_R_rangedOf_77 ?_
        refine lv_iload_n S.1 S.2.1 d_R_rangedOf_80 rfl (lv_at hl 2 rfl) ?_
        refine o_iald (j := k) S hC (mi_1 hw) (by decide) (by omega) d_R_rangedOf_81 ?_
        refine tpi (y := nI (kd k)) (hT k (by omega)).1 ?_
        refine lv_if_eq (tgt := 95) S.1 S.2.1 d_R_rangedOf_82 (by decide) (fun hx9 => absurd hx9 (by rw [hkd]; decide)) (fun _ => ?_)
        refine lv_aload_n S.1 S.2.1 d_R_rangedOf_85 rfl (lv_at hl 3 rfl) ?_
        refine o_get (v := .ref (ma 1)) S hC kf_R hw.1 rfl 3 (by decide) q_694 rfl d_R_rangedOf_86 ?_
        refine lv_iload_n S.1 S.2.1 d_R_rangedOf_89 rfl (lv_at hl 2 rfl) ?_
        refine o_iald (j := k) S hC (mi_1 hw) (by decide) (by omega) d_R_rangedOf_90 ?_
        refine tpi (y := nI (kd k)) (hT k (by omega)).1 ?_
        refine lv_iconst (v := 4) S.1 S.2.1 d_R_rangedOf_91 (by decide) ?_
        refine lv_icmp_ne (tgt := 108) S.1 S.2.1 d_R_rangedOf_92 (by decide) (fun _ => ?_) (fun hx9 => absurd hx9 (by rw [hkd]; decide))
        refine lv_aload_n S.1 S.2.1 d_R_rangedOf_108 rfl (lv_at hl 3 rfl) ?_
        refine o_get (v := .ref (ma 1)) S hC kf_R hw.1 rfl 3 (by decide) q_694 rfl d_R_rangedOf_109 ?_
        refine lv_iload_n S.1 S.2.1 d_R_rangedOf_112 rfl (lv_at hl 2 rfl) ?_
        refine o_iald (j := k) S hC (mi_1 hw) (by decide) (by omega) d_R_rangedOf_113 ?_
        refine tpi (y := nI (kd k)) (hT k (by omega)).1 ?_
        refine lv_iconst (v := 1) S.1 S.2.1 d_R_rangedOf_114 (by decide) ?_
        refine lv_icmp_ne (tgt := 144) S.1 S.2.1 d_R_rangedOf_115 (by decide) (fun _ => ?_) (fun hx9 => absurd hx9 (by rw [hkd]; decide))
        refine lv_aload_n S.1 S.2.1 d_R_rangedOf_144 rfl (lv_at hl 3 rfl) ?_
        refine o_get (v := .ref (ma 1)) S hC kf_R hw.1 rfl 3 (by decide) q_694 rfl d_R_rangedOf_145 ?_
        refine lv_iload_n S.1 S.2.1 d_R_rangedOf_148 rfl (lv_at hl 2 rfl) ?_
        refine o_iald (j := k) S hC (mi_1 hw) (by decide) (by omega) d_R_rangedOf_149 ?_
        refine tpi (y := nI (kd k)) (hT k (by omega)).1 ?_
        refine lv_iconst (v := 2) S.1 S.2.1 d_R_rangedOf_150 (by decide) ?_
        refine lv_icmp_eq (tgt := 164) S.1 S.2.1 d_R_rangedOf_151 (by decide) (fun hx9 => absurd hx9 (by rw [hkd]; decide)) (fun _ => ?_)
        refine lv_aload_n S.1 S.2.1 d_R_rangedOf_154 rfl (lv_at hl 3 rfl) ?_
        refine o_get (v := .ref (ma 1)) S hC kf_R hw.1 rfl 3 (by decide) q_694 rfl d_R_rangedOf_155 ?_
        refine lv_iload_n S.1 S.2.1 d_R_rangedOf_158 rfl (lv_at hl 2 rfl) ?_
        refine o_iald (j := k) S hC (mi_1 hw) (by decide) (by omega) d_R_rangedOf_159 ?_
        refine tpi (y := nI (kd k)) (hT k (by omega)).1 ?_
        refine lv_iconst (v := 3) S.1 S.2.1 d_R_rangedOf_160 (by decide) ?_
        refine lv_icmp_ne (tgt := 174) S.1 S.2.1 d_R_rangedOf_161 (by decide) (fun _ => ?_) (fun hx9 => absurd hx9 (by rw [hkd]; decide))
        refine lv_aload_n S.1 S.2.1 d_R_rangedOf_174 rfl (lv_at hl 3 rfl) ?_
        refine o_get (v := .ref (ma 1)) S hC kf_R hw.1 rfl 3 (by decide) q_694 rfl d_R_rangedOf_175 ?_
        refine lv_iload_n S.1 S.2.1 d_R_rangedOf_178 rfl (lv_at hl 2 rfl) ?_
        refine o_iald (j := k) S hC (mi_1 hw) (by decide) (by omega) d_R_rangedOf_179 ?_
        refine tpi (y := nI (kd k)) (hT k (by omega)).1 ?_
        refine lv_iconst (v := 5) S.1 S.2.1 d_R_rangedOf_180 (by decide) ?_
        refine lv_icmp_ne (tgt := 197) S.1 S.2.1 d_R_rangedOf_181 (by decide) (fun _ => ?_) (fun hx9 => absurd hx9 (by rw [hkd]; decide))
        refine lv_aload_n S.1 S.2.1 d_R_rangedOf_197 rfl (lv_at hl 3 rfl) ?_
        refine o_get (v := .ref (ma 1)) S hC kf_R hw.1 rfl 3 (by decide) q_694 rfl d_R_rangedOf_198 ?_
        refine lv_iload_n S.1 S.2.1 d_R_rangedOf_201 rfl (lv_at hl 2 rfl) ?_
        refine o_iald (j := k) S hC (mi_1 hw) (by decide) (by omega) d_R_rangedOf_202 ?_
        refine tpi (y := nI (kd k)) (hT k (by omega)).1 ?_
        refine lv_bipush (v := 6) S.1 S.2.1 d_R_rangedOf_203 (by decide) ?_
        refine lv_icmp_ne (tgt := 229) S.1 S.2.1 d_R_rangedOf_205 (by decide) (fun _ => ?_) (fun hx9 => absurd hx9 (by rw [hkd]; decide))
        refine lv_aload_n S.1 S.2.1 d_R_rangedOf_229 rfl (lv_at hl 3 rfl) ?_
        refine o_get (v := .ref (ma 13)) S hC kf_R hw.1 rfl 15 (by decide) q_708 rfl d_R_rangedOf_230 ?_
        refine lv_iload_n S.1 S.2.1 d_R_rangedOf_233 rfl (lv_at hl 2 rfl) ?_
        refine lv_iload S.1 S.2.1 d_R_rangedOf_234 (lv_at hl 0 rfl) ?_
        refine m_iast (i := k) (x := rg (se k)) 13 S hC hD hw hS (by decide) (by decide) (by decide) (by decide) (show k < 12 by omega) d_R_rangedOf_236 (fun H locs J12 eJ12 oJ12 hw hS => ?_)
        have hT : mT kd wh fi se lo hi J12 n := hT.to (fun p hp => oJ12 p (by omega))
        refine lv_iinc (v := nI (k + 1)) S.1 S.2.1 d_R_rangedOf_237 hl (k := 2) rfl (nI_1 k) (by decide) rfl (fun ls hl => ?_)
        have hl : lv_has ls 5 [(2, .int (nI (k + 1))), (4, .int (rg (se k))), (3, .int (rg (fi k))), (0, .ref (ma 0)), (1, .int (nI f))] := hl
        refine lv_goto (tgt := 2) S.1 S.2.1 d_R_rangedOf_240 (by decide) ?_
        exact ih2 (k + 1) _ _ _ ls (by omega) (fun p hp => by rw [oJ12 p hp]; exact og p hp) (fun j hj => if e0 : j = k then by rw [e0, eJ12, pk_us, hrg k (by omega)]; rw [rgE_7 (by omega)] else by rw [eJ12, pk_un e0]; exact hs j (by omega)) hT hw hS (lv_sub hl [0, 3, 4] rfl)
  exact key2 (f + 1) 0 J _ _ ls (by omega) (fun _ _ => rfl) (fun j hj => absurd hj (by omega)) hT hw hS (lv_sub hl [0, 1, 2] rfl)
set_option maxHeartbeats 4000000 in
set_option maxRecDepth 100000 in
theorem c_R_free_y (l : Launch) {K : KT} {ma : Nat → Nat} {n pl : Nat} {wt : Int32} {J : Nat → Nat → Int32} {X : Nat → Int64} {kd wh fi se : Nat → Nat} {lo hi : Nat → Int32} {fr : Nat → Int32} {f : Nat} (hD : mD K ma) (hT : mT kd wh fi se lo hi J n) (hV : tabOk kd wh fi se lo hi n) (hn : n ≤ 12) (hf : f < n) (hfr : ∀ j, j < n → fr j = frE kd wh fi se fr j) : Met l y_R_free (Cond.code y_R_free b_R_free 2 (some Jvm.ClassFile.FieldType.int) :: WALL) { frames := 2, cells := 0, slots := 0, locals := 42 } (pc0 K [.ref (ma 0), .int (nI f)] (fun H => mW K ma n wt pl J X H)) (va_Qi (fun r H => r = fr f ∧ ∃ J', (∀ p, p ≠ 12 → J' p = J p) ∧ (∀ j, j ≤ f → J' 12 j = fr j) ∧ mW K ma n wt pl J' X H) (fun u t => t.heap = u) (mA ma)) 0 0 (mA ma) := by
  refine met0 (own := "MetricLogMonitorModel") (by decide) rfl (Nat.le_of_ble_eq_true rfl) (fun p e s m below meth c ls S hr hk hnm hC hH hl => ?_)
  have hl : lv_has ls 2 [(0, .ref (ma 0)), (1, .int (nI f))] := hl
  have hS : va_S (mA ma) s.heap s.heap [] := va_S.rf
  have hA : ∀ q, (mA ma) q → kz K ≤ q := fun q h => by obtain ⟨i, hi, rfl⟩ := h; exact hD.2 i hi
  have hw := hH
  refine lv_aload_n S.1 S.2.1 d_R_free_0 rfl (lv_at hl 0 rfl) ?_
  refine lv_iload_n S.1 S.2.1 d_R_free_1 rfl (lv_at hl 1 rfl) ?_
  refine kVi (rest := []) S (c_R_isFormula l (nI f)) kc_R_isFormula ⟨q_769, q_771, qp_8⟩ rfl rfl ⟨Nat.le_of_ble_eq_true rfl, Nat.le_of_ble_eq_true rfl⟩ hC hS hA hw ⟨11, _, _, _, rfl, hw.1⟩ ⟨Nat.zero_le _, Nat.zero_le _⟩ hl.1 rfl rfl (Nat.le_of_ble_eq_true rfl) d_R_free_2 (fun r er => ?_)
  subst er
  refine lv_if_eq (tgt := 16) S.1 S.2.1 d_R_free_5 (by decide) (fun hx9 => absurd hx9 (isF_y (by omega) hf)) (fun _ => ?_)
  refine lv_aload_n S.1 S.2.1 d_R_free_8 rfl (lv_at hl 0 rfl) ?_
  refine lv_iload_n S.1 S.2.1 d_R_free_9 rfl (lv_at hl 1 rfl) ?_
  refine kw_i (A := mA ma) (k_V (rest := []) S (c_R_freeOf l hD hT hV hn hf hfr) kc_R_freeOf ⟨q_805, q_807, qp_10⟩ rfl rfl ⟨Nat.le_of_ble_eq_true rfl, Nat.le_of_ble_eq_true rfl⟩ hC hS hA hw ⟨11, _, _, _, rfl, hw.1⟩ rfl hl.1 rfl (Nat.le_of_ble_eq_true rfl) ⟨Nat.zero_le _, Nat.zero_le _⟩ d_R_free_10) hS (fun q h => h) (fun r H locs er hz hkp hS => ?_)
  refine lv_goto (tgt := 17) S.1 S.2.1 d_R_free_13 (by decide) ?_
  exact rw_i S hr hk hS d_R_free_17 er
set_option maxHeartbeats 4000000 in
set_option maxRecDepth 100000 in
theorem c_R_free_n (l : Launch) {K : KT} {ma : Nat → Nat} {n pl : Nat} {wt : Int32} {J : Nat → Nat → Int32} {X : Nat → Int64} (hD : mD K ma) (hn : n ≤ 12) (f : Int32) (hno : ∀ k, k < n → ¬ f = nI k) : Met l y_R_free (Cond.code y_R_free b_R_free 2 (some Jvm.ClassFile.FieldType.int) :: WALL) { frames := 1, cells := 0, slots := 0, locals := 21 } (pc0 K [.ref (ma 0), .int f] (fun H => mW K ma n wt pl J X H)) (va_Qi (fun r H => r = -1 ∧ mW K ma n wt pl J X H) (fun u t => t.heap = u) (mA ma)) 0 0 (mA ma) := by
  refine met0 (own := "MetricLogMonitorModel") (by decide) rfl (Nat.le_of_ble_eq_true rfl) (fun p e s m below meth c ls S hr hk hnm hC hH hl => ?_)
  have hl : lv_has ls 2 [(0, .ref (ma 0)), (1, .int f)] := hl
  have hS : va_S (mA ma) s.heap s.heap [] := va_S.rf
  have hA : ∀ q, (mA ma) q → kz K ≤ q := fun q h => by obtain ⟨i, hi, rfl⟩ := h; exact hD.2 i hi
  have hw := hH
  refine lv_aload_n S.1 S.2.1 d_R_free_0 rfl (lv_at hl 0 rfl) ?_
  refine lv_iload_n S.1 S.2.1 d_R_free_1 rfl (lv_at hl 1 rfl) ?_
  refine kVi (rest := []) S (c_R_isFormula l f) kc_R_isFormula ⟨q_769, q_771, qp_8⟩ rfl rfl ⟨Nat.le_of_ble_eq_true rfl, Nat.le_of_ble_eq_true rfl⟩ hC hS hA hw ⟨11, _, _, _, rfl, hw.1⟩ ⟨Nat.zero_le _, Nat.zero_le _⟩ hl.1 rfl rfl (Nat.le_of_ble_eq_true rfl) d_R_free_2 (fun r er => ?_)
  subst er
  refine lv_if_eq (tgt := 16) S.1 S.2.1 d_R_free_5 (by decide) (fun _ => ?_) (fun hx9 => absurd (isF_n (by omega) hno) hx9)
  refine lv_iconst (v := (-1)) S.1 S.2.1 d_R_free_16 (by decide) ?_
  exact rw_i S hr hk hS d_R_free_17 ⟨rfl, hw⟩
set_option maxHeartbeats 4000000 in
set_option maxRecDepth 100000 in
theorem c_R_ranged_y (l : Launch) {K : KT} {ma : Nat → Nat} {n pl : Nat} {wt : Int32} {J : Nat → Nat → Int32} {X : Nat → Int64} {kd wh fi se : Nat → Nat} {lo hi : Nat → Int32} {rg : Nat → Int32} {f : Nat} (hD : mD K ma) (hT : mT kd wh fi se lo hi J n) (hV : tabOk kd wh fi se lo hi n) (hn : n ≤ 12) (hf : f < n) (hrg : ∀ j, j < n → rg j = rgE kd wh fi se rg j) : Met l y_R_ranged (Cond.code y_R_ranged b_R_ranged 2 (some Jvm.ClassFile.FieldType.int) :: WALL) { frames := 2, cells := 0, slots := 0, locals := 44 } (pc0 K [.ref (ma 0), .int (nI f)] (fun H => mW K ma n wt pl J X H)) (va_Qi (fun r H => r = rg f ∧ ∃ J', (∀ p, p ≠ 13 → J' p = J p) ∧ (∀ j, j ≤ f → J' 13 j = rg j) ∧ mW K ma n wt pl J' X H) (fun u t => t.heap = u) (mA ma)) 0 0 (mA ma) := by
  refine met0 (own := "MetricLogMonitorModel") (by decide) rfl (Nat.le_of_ble_eq_true rfl) (fun p e s m below meth c ls S hr hk hnm hC hH hl => ?_)
  have hl : lv_has ls 2 [(0, .ref (ma 0)), (1, .int (nI f))] := hl
  have hS : va_S (mA ma) s.heap s.heap [] := va_S.rf
  have hA : ∀ q, (mA ma) q → kz K ≤ q := fun q h => by obtain ⟨i, hi, rfl⟩ := h; exact hD.2 i hi
  have hw := hH
  refine lv_aload_n S.1 S.2.1 d_R_ranged_0 rfl (lv_at hl 0 rfl) ?_
  refine lv_iload_n S.1 S.2.1 d_R_ranged_1 rfl (lv_at hl 1 rfl) ?_
  refine kVi (rest := []) S (c_R_isFormula l (nI f)) kc_R_isFormula ⟨q_769, q_771, qp_8⟩ rfl rfl ⟨Nat.le_of_ble_eq_true rfl, Nat.le_of_ble_eq_true rfl⟩ hC hS hA hw ⟨11, _, _, _, rfl, hw.1⟩ ⟨Nat.zero_le _, Nat.zero_le _⟩ hl.1 rfl rfl (Nat.le_of_ble_eq_true rfl) d_R_ranged_2 (fun r er => ?_)
  subst er
  refine lv_if_eq (tgt := 16) S.1 S.2.1 d_R_ranged_5 (by decide) (fun hx9 => absurd hx9 (isF_y (by omega) hf)) (fun _ => ?_)
  refine lv_aload_n S.1 S.2.1 d_R_ranged_8 rfl (lv_at hl 0 rfl) ?_
  refine lv_iload_n S.1 S.2.1 d_R_ranged_9 rfl (lv_at hl 1 rfl) ?_
  refine kw_i (A := mA ma) (k_V (rest := []) S (c_R_rangedOf l hD hT hV hn hf hrg) kc_R_rangedOf ⟨q_816, q_818, qp_11⟩ rfl rfl ⟨Nat.le_of_ble_eq_true rfl, Nat.le_of_ble_eq_true rfl⟩ hC hS hA hw ⟨11, _, _, _, rfl, hw.1⟩ rfl hl.1 rfl (Nat.le_of_ble_eq_true rfl) ⟨Nat.zero_le _, Nat.zero_le _⟩ d_R_ranged_10) hS (fun q h => h) (fun r H locs er hz hkp hS => ?_)
  refine lv_goto (tgt := 17) S.1 S.2.1 d_R_ranged_13 (by decide) ?_
  exact rw_i S hr hk hS d_R_ranged_17 er
set_option maxHeartbeats 4000000 in
set_option maxRecDepth 100000 in
theorem c_R_ranged_n (l : Launch) {K : KT} {ma : Nat → Nat} {n pl : Nat} {wt : Int32} {J : Nat → Nat → Int32} {X : Nat → Int64} (hD : mD K ma) (hn : n ≤ 12) (f : Int32) (hno : ∀ k, k < n → ¬ f = nI k) : Met l y_R_ranged (Cond.code y_R_ranged b_R_ranged 2 (some Jvm.ClassFile.FieldType.int) :: WALL) { frames := 1, cells := 0, slots := 0, locals := 21 } (pc0 K [.ref (ma 0), .int f] (fun H => mW K ma n wt pl J X H)) (va_Qi (fun r H => r = -1 ∧ mW K ma n wt pl J X H) (fun u t => t.heap = u) (mA ma)) 0 0 (mA ma) := by
  refine met0 (own := "MetricLogMonitorModel") (by decide) rfl (Nat.le_of_ble_eq_true rfl) (fun p e s m below meth c ls S hr hk hnm hC hH hl => ?_)
  have hl : lv_has ls 2 [(0, .ref (ma 0)), (1, .int f)] := hl
  have hS : va_S (mA ma) s.heap s.heap [] := va_S.rf
  have hA : ∀ q, (mA ma) q → kz K ≤ q := fun q h => by obtain ⟨i, hi, rfl⟩ := h; exact hD.2 i hi
  have hw := hH
  refine lv_aload_n S.1 S.2.1 d_R_ranged_0 rfl (lv_at hl 0 rfl) ?_
  refine lv_iload_n S.1 S.2.1 d_R_ranged_1 rfl (lv_at hl 1 rfl) ?_
  refine kVi (rest := []) S (c_R_isFormula l f) kc_R_isFormula ⟨q_769, q_771, qp_8⟩ rfl rfl ⟨Nat.le_of_ble_eq_true rfl, Nat.le_of_ble_eq_true rfl⟩ hC hS hA hw ⟨11, _, _, _, rfl, hw.1⟩ ⟨Nat.zero_le _, Nat.zero_le _⟩ hl.1 rfl rfl (Nat.le_of_ble_eq_true rfl) d_R_ranged_2 (fun r er => ?_)
  subst er
  refine lv_if_eq (tgt := 16) S.1 S.2.1 d_R_ranged_5 (by decide) (fun _ => ?_) (fun hx9 => absurd (isF_n (by omega) hno) hx9)
  refine lv_iconst (v := (-1)) S.1 S.2.1 d_R_ranged_16 (by decide) ?_
  exact rw_i S hr hk hS d_R_ranged_17 ⟨rfl, hw⟩
set_option maxHeartbeats 4000000 in
set_option maxRecDepth 100000 in
theorem c_R_bounded_y (l : Launch) {K : KT} {ma : Nat → Nat} {n pl : Nat} {wt : Int32} {J : Nat → Nat → Int32} {X : Nat → Int64} {kd wh fi se : Nat → Nat} {lo hi : Nat → Int32} {fr rg : Nat → Int32} {er : Nat → Bool} {f : Nat} (hD : mD K ma) (hT : mT kd wh fi se lo hi J n) (hV : tabOk kd wh fi se lo hi n) (hn : n ≤ 12) (hf : f < n) (hfr : ∀ j, j < n → fr j = frE kd wh fi se fr j) (hrg : ∀ j, j < n → rg j = rgE kd wh fi se rg j) (her : ∀ j, j < n → er j = erE kd wh fi se rg er j) : Met l y_R_bounded (Cond.code y_R_bounded b_R_bounded 3 (some Jvm.ClassFile.FieldType.boolean) :: WALL) { frames := 2, cells := 0, slots := 0, locals := 44 } (pc0 K [.ref (ma 0), .int (nI f)] (fun H => mW K ma n wt pl J X H)) (va_Qi (fun r H => r = bI (decide (fr f &&& (rg f ^^^ (-1)) = 0) && er f) ∧ ∃ J', (∀ p, p < 11 → J' p = J p) ∧ mW K ma n wt pl J' X H) (fun u t => t.heap = u) (mA ma)) 0 0 (mA ma) := by
  refine met0 (own := "MetricLogMonitorModel") (by decide) rfl (Nat.le_of_ble_eq_true rfl) (fun p e s m below meth c ls S hr hk hnm hC hH hl => ?_)
  have hl : lv_has ls 3 [(0, .ref (ma 0)), (1, .int (nI f))] := hl
  have hS : va_S (mA ma) s.heap s.heap [] := va_S.rf
  have hA : ∀ q, (mA ma) q → kz K ≤ q := fun q h => by obtain ⟨i, hi, rfl⟩ := h; exact hD.2 i hi
  have hw := hH
  refine lv_aload_n S.1 S.2.1 d_R_bounded_0 rfl (lv_at hl 0 rfl) ?_
  refine lv_iload_n S.1 S.2.1 d_R_bounded_1 rfl (lv_at hl 1 rfl) ?_
  refine kVi (rest := []) S (c_R_isFormula l (nI f)) kc_R_isFormula ⟨q_769, q_771, qp_8⟩ rfl rfl ⟨Nat.le_of_ble_eq_true rfl, Nat.le_of_ble_eq_true rfl⟩ hC hS hA hw ⟨11, _, _, _, rfl, hw.1⟩ ⟨Nat.zero_le _, Nat.zero_le _⟩ hl.1 rfl rfl (Nat.le_of_ble_eq_true rfl) d_R_bounded_2 (fun r er => ?_)
  subst er
  refine lv_if_eq (tgt := 24) S.1 S.2.1 d_R_bounded_5 (by decide) (fun hx9 => absurd hx9 (isF_y (by omega) hf)) (fun _ => ?_)
  refine lv_aload_n S.1 S.2.1 d_R_bounded_8 rfl (lv_at hl 0 rfl) ?_
  refine lv_iload_n S.1 S.2.1 d_R_bounded_9 rfl (lv_at hl 1 rfl) ?_
  refine kw_i (A := mA ma) (k_V (rest := []) S (c_R_freeOf l hD hT hV hn hf hfr) kc_R_freeOf ⟨q_805, q_807, qp_10⟩ rfl rfl ⟨Nat.le_of_ble_eq_true rfl, Nat.le_of_ble_eq_true rfl⟩ hC hS hA hw ⟨11, _, _, _, rfl, hw.1⟩ rfl hl.1 rfl (Nat.le_of_ble_eq_true rfl) ⟨Nat.zero_le _, Nat.zero_le _⟩ d_R_bounded_10) hS (fun q h => h) (fun r H locs er hz hkp hS => ?_)
  obtain ⟨er0, Ja, oJa, hsa, hw⟩ := er
  subst er0
  have hT : mT kd wh fi se lo hi Ja n := hT.to (fun p hp => oJa p (by omega))
  refine lv_aload_n S.1 S.2.1 d_R_bounded_13 rfl (lv_at hl 0 rfl) ?_
  refine lv_iload_n S.1 S.2.1 d_R_bounded_14 rfl (lv_at hl 1 rfl) ?_
  refine kw_i (A := mA ma) (k_V (rest := [.int (fr f)]) S (c_R_rangedOf l hD hT hV hn hf hrg) kc_R_rangedOf ⟨q_816, q_818, qp_11⟩ rfl rfl ⟨Nat.le_of_ble_eq_true rfl, Nat.le_of_ble_eq_true rfl⟩ hC hS hA hw ⟨11, _, _, _, rfl, hw.1⟩ rfl hl.1 rfl (Nat.le_of_ble_eq_true rfl) ⟨Nat.zero_le _, Nat.zero_le _⟩ d_R_bounded_15) hS (fun q h => h) (fun r H locs er hz hkp hS => ?_)
  obtain ⟨er0, Jb, oJb, hsb, hw⟩ := er
  subst er0
  have hT : mT kd wh fi se lo hi Jb n := hT.to (fun p hp => oJb p (by omega))
  refine lv_iconst (v := (-1)) S.1 S.2.1 d_R_bounded_18 (by decide) ?_
  refine lv_ixor S.1 S.2.1 d_R_bounded_19 ?_
  refine lv_iand S.1 S.2.1 d_R_bounded_20 ?_
  refine lv_if_eq (tgt := 26) S.1 S.2.1 d_R_bounded_21 (by decide) (fun hbr1 => ?_) (fun hbr1 => ?_)
  · refine lv_iconst (v := 0) S.1 S.2.1 d_R_bounded_26 (by decide) ?_
    refine lv_istore_n S.1 S.2.1 d_R_bounded_27 rfl hl (by decide) rfl (fun ls hl => ?_)
    have hl : lv_has ls 3 [(2, .int 0), (0, .ref (ma 0)), (1, .int (nI f))] := hl
    have key28 : ∀ (d28 : Nat) (k : Nat) (g : Nat → Nat → Int32) (H : Heap) (locs : List Loc) (ls : Array Slot), k + d28 = 12 → (∀ j, j < k → g 11 j = bI (decide (j = f))) → (∀ p, p ≠ 11 → g p = Jb p) → (mT kd wh fi se lo hi g n) → (mW K ma n wt pl g X H) → (va_S (mA ma) s.heap H locs) → lv_has ls 3 [(2, .int (nI k)), (0, .ref (ma 0)), (1, .int (nI f))] → W p l e ({ frames := 2, cells := 0, slots := 0, locals := 44 } : Room) s m ([.ref (ma 0), .int (nI f)] : List Value).toArray below meth c H locs 0 0 (MQ below (va_Qi (fun r H => r = bI (decide (fr f &&& (rg f ^^^ (-1)) = 0) && er f) ∧ ∃ J', (∀ p, p < 11 → J' p = J p) ∧ mW K ma n wt pl J' X H) (fun u t => t.heap = u) (mA ma)) ([.ref (ma 0), .int (nI f)] : List Value).toArray s 0 0 (mA ma)) (F0 m 28 ls []) := by
      intro d28
      induction d28 with
      | zero =>
        intro k g H locs ls hd28 hz og hT hw hS hl
        refine lv_iload_n S.1 S.2.1 d_R_bounded_28 rfl (lv_at hl 0 rfl) ?_
        refine lv_bipush (v := 12) S.1 S.2.1 d_R_bounded_29 (by decide) ?_
        refine lv_icmp_ge (tgt := 56) S.1 S.2.1 d_R_bounded_31 (by decide) (fun _ => ?_) (fun hx9 => absurd (by rw [show k = 12 by omega]; decide) hx9)
        refine lv_iload_n S.1 S.2.1 d_R_bounded_56 rfl (lv_at hl 2 rfl) ?_
        refine lv_istore_n S.1 S.2.1 d_R_bounded_57 rfl hl (by decide) rfl (fun ls hl => ?_)
        have hl : lv_has ls 3 [(2, .int (nI f)), (0, .ref (ma 0)), (1, .int (nI f))] := hl
        have key58 : ∀ (d58 : Nat) (v7 : Int32) (q : Nat) (g : Nat → Nat → Int32) (pt : Nat → Bool) (H : Heap) (locs : List Loc) (ls : Array Slot), q = d58 → (v7 = nI q - 1) → (q ≤ f + 1) → (∀ j, j < 12 → g 11 j = bI (pt j)) → (mkd er f pt q) → (∀ p, p ≠ 11 → g p = Jb p) → (mT kd wh fi se lo hi g n) → (mW K ma n wt pl g X H) → (va_S (mA ma) s.heap H locs) → lv_has ls 3 [(2, .int v7), (0, .ref (ma 0)), (1, .int (nI f))] → W p l e ({ frames := 2, cells := 0, slots := 0, locals := 44 } : Room) s m ([.ref (ma 0), .int (nI f)] : List Value).toArray below meth c H locs 0 0 (MQ below (va_Qi (fun r H => r = bI (decide (fr f &&& (rg f ^^^ (-1)) = 0) && er f) ∧ ∃ J', (∀ p, p < 11 → J' p = J p) ∧ mW K ma n wt pl J' X H) (fun u t => t.heap = u) (mA ma)) ([.ref (ma 0), .int (nI f)] : List Value).toArray s 0 0 (mA ma)) (F0 m 58 ls []) := by
          intro d58
          induction d58 with
          | zero =>
            intro v7 q g pt H locs ls hd58 hv7 hq7 hz2 hmk og hT hw hS hl
            obtain rfl : q = 0 := hd58
            refine lv_iload_n S.1 S.2.1 d_R_bounded_58 rfl (lv_at hl 0 rfl) ?_
            refine lv_if_lt (tgt := 147) S.1 S.2.1 d_R_bounded_59 (by decide) (fun _ => ?_) (fun hx9 => absurd (by rw [hv7]; decide) hx9)
            refine lv_iconst (v := 1) S.1 S.2.1 d_R_bounded_147 (by decide) ?_
            exact rw_z S hr hk rfl hS d_R_bounded_148 ⟨bI_t (by rw [decide_eq_true hbr1, mkd_end hmk]; rfl), g, (fun p hp => by rw [og p (by omega), oJb p (by omega), oJa p (by omega)]), hw⟩
          | succ d58 ih58 =>
            intro v7 q g pt H locs ls hd58 hv7 hq7 hz2 hmk og hT hw hS hl
            obtain ⟨j, rfl⟩ : ∃ j, q = j + 1 := ⟨_, hd58⟩
            rw [nI_pred] at hv7
            subst hv7
            have hk9 := (hV j (by omega)).1
            have hw2 := (hV j (by omega)).2.1
            refine lv_iload_n S.1 S.2.1 d_R_bounded_58 rfl (lv_at hl 0 rfl) ?_
            refine lv_if_lt (tgt := 147) S.1 S.2.1 d_R_bounded_59 (by decide) (fun hx9 => absurd hx9 (nI_pos (by omega))) (fun _ => ?_)
            refine lv_aload_n S.1 S.2.1 d_R_bounded_62 rfl (lv_at hl 1 rfl) ?_
            refine o_get (v := .ref (ma 11)) S hC kf_R hw.1 rfl 13 (by decide) q_706 rfl d_R_bounded_63 ?_
            refine lv_iload_n S.1 S.2.1 d_R_bounded_66 rfl (lv_at hl 0 rfl) ?_
            refine o_zald (j := j) S hC (mi_11 hw) (by decide) (by omega) d_R_bounded_67 ?_
            refine lv_if_eq (tgt := 141) S.1 S.2.1 d_R_bounded_68 (by decide) (fun hbr2 => ?_) (fun hbr2 => ?_)
            · refine lv_iinc (v := nI j - 1) S.1 S.2.1 d_R_bounded_141 hl (k := 0) rfl (nI_dec j) (by decide) rfl (fun ls hl => ?_)
              have hl : lv_has ls 3 [(2, .int (nI j - 1)), (0, .ref (ma 0)), (1, .int (nI f))] := hl
              refine lv_goto (tgt := 58) S.1 S.2.1 d_R_bounded_144 (by decide) ?_
              exact ih58 (nI j - 1) j g pt _ _ ls (by omega) rfl (by omega) hz2 (mkd_skip hmk (fun hp => by have z := hz2 j (by omega); rw [hp, hbr2] at z; exact absurd z (by decide))) og hT hw hS (lv_sub hl [0, 1, 2] rfl)
            · refine lv_aload_n S.1 S.2.1 d_R_bounded_71 rfl (lv_at hl 1 rfl) ?_
              refine o_get (v := .ref (ma 1)) S hC kf_R hw.1 rfl 3 (by decide) q_694 rfl d_R_bounded_72 ?_
              refine lv_iload_n S.1 S.2.1 d_R_bounded_75 rfl (lv_at hl 0 rfl) ?_
              refine o_iald (j := j) S hC (mi_1 hw) (by decide) (by omega) d_R_bounded_76 ?_
              refine tpi (y := nI (kd j)) (hT j (by omega)).1 ?_
              refine lv_iconst (v := 2) S.1 S.2.1 d_R_bounded_77 (by decide) ?_
              refine lv_icmp_le (tgt := 141) S.1 S.2.1 d_R_bounded_78 (by decide) (fun hbr3 => ?_) (fun hbr3 => ?_)
              · refine lv_iinc (v := nI j - 1) S.1 S.2.1 d_R_bounded_141 hl (k := 0) rfl (nI_dec j) (by decide) rfl (fun ls hl => ?_)
                have hl : lv_has ls 3 [(2, .int (nI j - 1)), (0, .ref (ma 0)), (1, .int (nI f))] := hl
                refine lv_goto (tgt := 58) S.1 S.2.1 d_R_bounded_144 (by decide) ?_
                exact ih58 (nI j - 1) j g pt _ _ ls (by omega) rfl (by omega) hz2 (mkd_skip hmk (fun _ => by rw [her j (by omega), erE_a ((nI_leI (b := 2) (by omega) (by omega)).mp hbr3)])) og hT hw hS (lv_sub hl [0, 1, 2] rfl)
              · have hfv := (hV j (by omega)).2.2.2.1 (by have := (not_congr (nI_leI (b := 2) (by omega) (by omega))).mp hbr3; omega)
                refine lv_aload_n S.1 S.2.1 d_R_bounded_81 rfl (lv_at hl 1 rfl) ?_
                refine o_get (v := .ref (ma 1)) S hC kf_R hw.1 rfl 3 (by decide) q_694 rfl d_R_bounded_82 ?_
                refine lv_iload_n S.1 S.2.1 d_R_bounded_85 rfl (lv_at hl 0 rfl) ?_
                refine o_iald (j := j) S hC (mi_1 hw) (by decide) (by omega) d_R_bounded_86 ?_
                refine tpi (y := nI (kd j)) (hT j (by omega)).1 ?_
                refine lv_bipush (v := 6) S.1 S.2.1 d_R_bounded_87 (by decide) ?_
                refine lv_icmp_ne (tgt := 117) S.1 S.2.1 d_R_bounded_89 (by decide) (fun hbr4 => ?_) (fun hbr4 => ?_)
                · refine lv_aload_n S.1 S.2.1 d_R_bounded_117 rfl (lv_at hl 1 rfl) ?_
                  refine o_get (v := .ref (ma 11)) S hC kf_R hw.1 rfl 13 (by decide) q_706 rfl d_R_bounded_118 ?_
                  refine lv_aload_n S.1 S.2.1 d_R_bounded_121 rfl (lv_at hl 1 rfl) ?_
                  refine o_get (v := .ref (ma 3)) S hC kf_R hw.1 rfl 5 (by decide) q_696 rfl d_R_bounded_122 ?_
                  refine lv_iload_n S.1 S.2.1 d_R_bounded_125 rfl (lv_at hl 0 rfl) ?_
                  refine o_iald (j := j) S hC (mi_3 hw) (by decide) (by omega) d_R_bounded_126 ?_
                  refine tpi (y := nI (fi j)) (hT j (by omega)).2.2.1 ?_
                  refine lv_iconst (v := 1) S.1 S.2.1 d_R_bounded_127 (by decide) ?_
                  refine m_zast (i := fi j) (x := 1) S hC hD hw hS (by omega) (Or.inr rfl) d_R_bounded_128 (fun H locs J1 eJ1 oJ1 hw hS => ?_)
                  have hT : mT kd wh fi se lo hi J1 n := hT.to (fun p hp => oJ1 p (by omega))
                  refine lv_aload_n S.1 S.2.1 d_R_bounded_129 rfl (lv_at hl 1 rfl) ?_
                  refine o_get (v := .ref (ma 11)) S hC kf_R hw.1 rfl 13 (by decide) q_706 rfl d_R_bounded_130 ?_
                  refine lv_aload_n S.1 S.2.1 d_R_bounded_133 rfl (lv_at hl 1 rfl) ?_
                  refine o_get (v := .ref (ma 4)) S hC kf_R hw.1 rfl 6 (by decide) q_697 rfl d_R_bounded_134 ?_
                  refine lv_iload_n S.1 S.2.1 d_R_bounded_137 rfl (lv_at hl 0 rfl) ?_
                  refine o_iald (j := j) S hC (mi_4 hw) (by decide) (by omega) d_R_bounded_138 ?_
                  refine tpi (y := nI (se j)) (hT j (by omega)).2.2.2.1 ?_
                  refine lv_iconst (v := 1) S.1 S.2.1 d_R_bounded_139 (by decide) ?_
                  refine m_zast (i := se j) (x := 1) S hC hD hw hS (by omega) (Or.inr rfl) d_R_bounded_140 (fun H locs J2 eJ2 oJ2 hw hS => ?_)
                  have hT : mT kd wh fi se lo hi J2 n := hT.to (fun p hp => oJ2 p (by omega))
                  refine lv_iinc (v := nI j - 1) S.1 S.2.1 d_R_bounded_141 hl (k := 0) rfl (nI_dec j) (by decide) rfl (fun ls hl => ?_)
                  have hl : lv_has ls 3 [(2, .int (nI j - 1)), (0, .ref (ma 0)), (1, .int (nI f))] := hl
                  refine lv_goto (tgt := 58) S.1 S.2.1 d_R_bounded_144 (by decide) ?_
                  exact ih58 (nI j - 1) j _ _ _ _ ls (by omega) rfl (by omega) (fun x hx => if e1 : x = se j then by rw [eJ2, e1, pk_us, decide_eq_true rfl]; rfl else if e2 : x = fi j then by rw [eJ2, pk_un e1, eJ1, e2, pk_us, decide_eq_true rfl, Bool.true_or, Bool.or_true]; rfl else by rw [eJ2, pk_un e1, eJ1, pk_un e2, hz2 x hx, decide_eq_false e1, decide_eq_false e2, Bool.false_or, Bool.false_or]) (mkd_step hmk (bI_n (by rw [← hz2 j (by omega)]; exact hbr2)) (by rw [her j (by omega), erE_m (fun z => hbr3 ((nI_leI (b := 2) (by omega) (by omega)).mpr z)) (fun z => hbr4 (by rw [z]; rfl))]) hfv.1 hfv.2) (fun p hp => by rw [oJ2 p hp, oJ1 p hp]; exact og p hp) hT hw hS (lv_sub hl [0, 1, 2] rfl)
                · refine lv_aload_n S.1 S.2.1 d_R_bounded_92 rfl (lv_at hl 1 rfl) ?_
                  refine o_get (v := .ref (ma 13)) S hC kf_R hw.1 rfl 15 (by decide) q_708 rfl d_R_bounded_93 ?_
                  refine lv_aload_n S.1 S.2.1 d_R_bounded_96 rfl (lv_at hl 1 rfl) ?_
                  refine o_get (v := .ref (ma 3)) S hC kf_R hw.1 rfl 5 (by decide) q_696 rfl d_R_bounded_97 ?_
                  refine lv_iload_n S.1 S.2.1 d_R_bounded_100 rfl (lv_at hl 0 rfl) ?_
                  refine o_iald (j := j) S hC (mi_3 hw) (by decide) (by omega) d_R_bounded_101 ?_
                  refine tpi (y := nI (fi j)) (hT j (by omega)).2.2.1 ?_
                  refine o_iald (j := fi j) S hC (mi_13 hw) (by decide) (by omega) d_R_bounded_102 ?_
                  refine tpi (y := rg (fi j)) (by rw [og 13 (by decide)]; exact hsb _ (by omega)) ?_
                  refine lv_aload_n S.1 S.2.1 d_R_bounded_103 rfl (lv_at hl 1 rfl) ?_
                  refine o_get (v := .ref (ma 2)) S hC kf_R hw.1 rfl 4 (by decide) q_695 rfl d_R_bounded_104 ?_
                  refine lv_iload_n S.1 S.2.1 d_R_bounded_107 rfl (lv_at hl 0 rfl) ?_
                  refine o_iald (j := j) S hC (mi_2 hw) (by decide) (by omega) d_R_bounded_108 ?_
                  refine tpi (y := nI (wh j)) (hT j (by omega)).2.1 ?_
                  refine lv_ishr S.1 S.2.1 d_R_bounded_109 ?_
                  refine lv_iconst (v := 1) S.1 S.2.1 d_R_bounded_110 (by decide) ?_
                  refine lv_iand S.1 S.2.1 d_R_bounded_111 ?_
                  refine lv_if_ne (tgt := 117) S.1 S.2.1 d_R_bounded_112 (by decide) (fun hbr5 => ?_) (fun hbr5 => ?_)
                  · refine lv_aload_n S.1 S.2.1 d_R_bounded_117 rfl (lv_at hl 1 rfl) ?_
                    refine o_get (v := .ref (ma 11)) S hC kf_R hw.1 rfl 13 (by decide) q_706 rfl d_R_bounded_118 ?_
                    refine lv_aload_n S.1 S.2.1 d_R_bounded_121 rfl (lv_at hl 1 rfl) ?_
                    refine o_get (v := .ref (ma 3)) S hC kf_R hw.1 rfl 5 (by decide) q_696 rfl d_R_bounded_122 ?_
                    refine lv_iload_n S.1 S.2.1 d_R_bounded_125 rfl (lv_at hl 0 rfl) ?_
                    refine o_iald (j := j) S hC (mi_3 hw) (by decide) (by omega) d_R_bounded_126 ?_
                    refine tpi (y := nI (fi j)) (hT j (by omega)).2.2.1 ?_
                    refine lv_iconst (v := 1) S.1 S.2.1 d_R_bounded_127 (by decide) ?_
                    refine m_zast (i := fi j) (x := 1) S hC hD hw hS (by omega) (Or.inr rfl) d_R_bounded_128 (fun H locs J3 eJ3 oJ3 hw hS => ?_)
                    have hT : mT kd wh fi se lo hi J3 n := hT.to (fun p hp => oJ3 p (by omega))
                    refine lv_aload_n S.1 S.2.1 d_R_bounded_129 rfl (lv_at hl 1 rfl) ?_
                    refine o_get (v := .ref (ma 11)) S hC kf_R hw.1 rfl 13 (by decide) q_706 rfl d_R_bounded_130 ?_
                    refine lv_aload_n S.1 S.2.1 d_R_bounded_133 rfl (lv_at hl 1 rfl) ?_
                    refine o_get (v := .ref (ma 4)) S hC kf_R hw.1 rfl 6 (by decide) q_697 rfl d_R_bounded_134 ?_
                    refine lv_iload_n S.1 S.2.1 d_R_bounded_137 rfl (lv_at hl 0 rfl) ?_
                    refine o_iald (j := j) S hC (mi_4 hw) (by decide) (by omega) d_R_bounded_138 ?_
                    refine tpi (y := nI (se j)) (hT j (by omega)).2.2.2.1 ?_
                    refine lv_iconst (v := 1) S.1 S.2.1 d_R_bounded_139 (by decide) ?_
                    refine m_zast (i := se j) (x := 1) S hC hD hw hS (by omega) (Or.inr rfl) d_R_bounded_140 (fun H locs J4 eJ4 oJ4 hw hS => ?_)
                    have hT : mT kd wh fi se lo hi J4 n := hT.to (fun p hp => oJ4 p (by omega))
                    refine lv_iinc (v := nI j - 1) S.1 S.2.1 d_R_bounded_141 hl (k := 0) rfl (nI_dec j) (by decide) rfl (fun ls hl => ?_)
                    have hl : lv_has ls 3 [(2, .int (nI j - 1)), (0, .ref (ma 0)), (1, .int (nI f))] := hl
                    refine lv_goto (tgt := 58) S.1 S.2.1 d_R_bounded_144 (by decide) ?_
                    exact ih58 (nI j - 1) j _ _ _ _ ls (by omega) rfl (by omega) (fun x hx => if e1 : x = se j then by rw [eJ4, e1, pk_us, decide_eq_true rfl]; rfl else if e2 : x = fi j then by rw [eJ4, pk_un e1, eJ3, e2, pk_us, decide_eq_true rfl, Bool.true_or, Bool.or_true]; rfl else by rw [eJ4, pk_un e1, eJ3, pk_un e2, hz2 x hx, decide_eq_false e1, decide_eq_false e2, Bool.false_or, Bool.false_or]) (mkd_step hmk (bI_n (by rw [← hz2 j (by omega)]; exact hbr2)) (by rw [her j (by omega), erE_6y ((nI_eq (b := 6) (by omega) (by decide)).mp hbr4) (bnf (fun z => hbr5 ((b_tst_zero _ (by omega)).mpr z)))]) hfv.1 hfv.2) (fun p hp => by rw [oJ4 p hp, oJ3 p hp]; exact og p hp) hT hw hS (lv_sub hl [0, 1, 2] rfl)
                  · refine lv_iconst (v := 0) S.1 S.2.1 d_R_bounded_115 (by decide) ?_
                    exact rw_z S hr hk rfl hS d_R_bounded_116 ⟨bI_f (by rw [mkd_no hmk (bI_n (by rw [← hz2 j (by omega)]; exact hbr2)) (by rw [her j (by omega), erE_6n ((nI_eq (b := 6) (by omega) (by decide)).mp hbr4) ((b_tst_zero _ (by omega)).mp hbr5)]), Bool.and_false]), g, (fun p hp => by rw [og p (by omega), oJb p (by omega), oJa p (by omega)]), hw⟩
        exact key58 (f + 1) (nI f) (f + 1) g (fun j => decide (j = f)) _ _ ls rfl (nI_pred f).symm (Nat.le_refl _) (fun j hj => hz j (by omega)) mkd_start og hT hw hS (lv_sub hl [0, 1, 2] rfl)
      | succ d28 ih28 =>
        intro k g H locs ls hd28 hz og hT hw hS hl
        refine lv_iload_n S.1 S.2.1 d_R_bounded_28 rfl (lv_at hl 0 rfl) ?_
        refine lv_bipush (v := 12) S.1 S.2.1 d_R_bounded_29 (by decide) ?_
        refine lv_icmp_ge (tgt := 56) S.1 S.2.1 d_R_bounded_31 (by decide) (fun hx9 => absurd hx9 (nI_ge (b := 12) (by omega) (by decide))) (fun _ => ?_)
        refine lv_aload_n S.1 S.2.1 d_R_bounded_34 rfl (lv_at hl 1 rfl) ?_
        refine o_get (v := .ref (ma 11)) S hC kf_R hw.1 rfl 13 (by decide) q_706 rfl d_R_bounded_35 ?_
        refine lv_iload_n S.1 S.2.1 d_R_bounded_38 rfl (lv_at hl 0 rfl) ?_
        refine lv_iload_n S.1 S.2.1 d_R_bounded_39 rfl (lv_at hl 0 rfl) ?_
        refine lv_iload_n S.1 S.2.1 d_R_bounded_40 rfl (lv_at hl 2 rfl) ?_
        refine lv_icmp_ne (tgt := 48) S.1 S.2.1 d_R_bounded_41 (by decide) (fun hbr6 => ?_) (fun hbr6 => ?_)
        · refine lv_iconst (v := 0) S.1 S.2.1 d_R_bounded_48 (by decide) ?_
          refine m_zast (i := k) (x := 0) S hC hD hw hS (by omega) (Or.inl rfl) d_R_bounded_49 (fun H locs J5 eJ5 oJ5 hw hS => ?_)
          have hT : mT kd wh fi se lo hi J5 n := hT.to (fun p hp => oJ5 p (by omega))
          refine lv_iinc (v := nI (k + 1)) S.1 S.2.1 d_R_bounded_50 hl (k := 0) rfl (nI_1 k) (by decide) rfl (fun ls hl => ?_)
          have hl : lv_has ls 3 [(2, .int (nI (k + 1))), (0, .ref (ma 0)), (1, .int (nI f))] := hl
          refine lv_goto (tgt := 28) S.1 S.2.1 d_R_bounded_53 (by decide) ?_
          exact ih28 (k + 1) _ _ _ ls (by omega) (fun j hj => if e0 : j = k then by rw [e0, eJ5, pk_us]; exact (bI_f (decide_eq_false (fun z => hbr6 ((nI_eq (by omega) (by omega)).mpr z)))) else by rw [eJ5, pk_un e0]; exact hz j (by omega)) (fun p hp => by rw [oJ5 p hp]; exact og p hp) hT hw hS (lv_sub hl [0, 1, 2] rfl)
        · refine lv_iconst (v := 1) S.1 S.2.1 d_R_bounded_44 (by decide) ?_
          refine lv_goto (tgt := 49) S.1 S.2.1 d_R_bounded_45 (by decide) ?_
          refine m_zast (i := k) (x := 1) S hC hD hw hS (by omega) (Or.inr rfl) d_R_bounded_49 (fun H locs J6 eJ6 oJ6 hw hS => ?_)
          have hT : mT kd wh fi se lo hi J6 n := hT.to (fun p hp => oJ6 p (by omega))
          refine lv_iinc (v := nI (k + 1)) S.1 S.2.1 d_R_bounded_50 hl (k := 0) rfl (nI_1 k) (by decide) rfl (fun ls hl => ?_)
          have hl : lv_has ls 3 [(2, .int (nI (k + 1))), (0, .ref (ma 0)), (1, .int (nI f))] := hl
          refine lv_goto (tgt := 28) S.1 S.2.1 d_R_bounded_53 (by decide) ?_
          exact ih28 (k + 1) _ _ _ ls (by omega) (fun j hj => if e0 : j = k then by rw [e0, eJ6, pk_us]; exact (bI_t (decide_eq_true ((nI_eq (by omega) (by omega)).mp hbr6))) else by rw [eJ6, pk_un e0]; exact hz j (by omega)) (fun p hp => by rw [oJ6 p hp]; exact og p hp) hT hw hS (lv_sub hl [0, 1, 2] rfl)
    exact key28 12 0 Jb _ _ ls rfl (fun j hj => absurd hj (by omega)) (fun _ _ => rfl) hT hw hS (lv_sub hl [0, 1, 2] rfl)
  · refine lv_iconst (v := 0) S.1 S.2.1 d_R_bounded_24 (by decide) ?_
    exact rw_z S hr hk rfl hS d_R_bounded_25 ⟨bI_f (by rw [decide_eq_false hbr1]; rfl), Jb, (fun p hp => by rw [oJb p (by omega), oJa p (by omega)]), hw⟩
set_option maxHeartbeats 4000000 in
set_option maxRecDepth 100000 in
theorem c_R_bounded_n (l : Launch) {K : KT} {ma : Nat → Nat} {n pl : Nat} {wt : Int32} {J : Nat → Nat → Int32} {X : Nat → Int64} (hD : mD K ma) (hn : n ≤ 12) (f : Int32) (hno : ∀ k, k < n → ¬ f = nI k) : Met l y_R_bounded (Cond.code y_R_bounded b_R_bounded 3 (some Jvm.ClassFile.FieldType.boolean) :: WALL) { frames := 1, cells := 0, slots := 0, locals := 21 } (pc0 K [.ref (ma 0), .int f] (fun H => mW K ma n wt pl J X H)) (va_Qi (fun r H => r = 0 ∧ mW K ma n wt pl J X H) (fun u t => t.heap = u) (mA ma)) 0 0 (mA ma) := by
  refine met0 (own := "MetricLogMonitorModel") (by decide) rfl (Nat.le_of_ble_eq_true rfl) (fun p e s m below meth c ls S hr hk hnm hC hH hl => ?_)
  have hl : lv_has ls 3 [(0, .ref (ma 0)), (1, .int f)] := hl
  have hS : va_S (mA ma) s.heap s.heap [] := va_S.rf
  have hA : ∀ q, (mA ma) q → kz K ≤ q := fun q h => by obtain ⟨i, hi, rfl⟩ := h; exact hD.2 i hi
  have hw := hH
  refine lv_aload_n S.1 S.2.1 d_R_bounded_0 rfl (lv_at hl 0 rfl) ?_
  refine lv_iload_n S.1 S.2.1 d_R_bounded_1 rfl (lv_at hl 1 rfl) ?_
  refine kVi (rest := []) S (c_R_isFormula l f) kc_R_isFormula ⟨q_769, q_771, qp_8⟩ rfl rfl ⟨Nat.le_of_ble_eq_true rfl, Nat.le_of_ble_eq_true rfl⟩ hC hS hA hw ⟨11, _, _, _, rfl, hw.1⟩ ⟨Nat.zero_le _, Nat.zero_le _⟩ hl.1 rfl rfl (Nat.le_of_ble_eq_true rfl) d_R_bounded_2 (fun r er => ?_)
  subst er
  refine lv_if_eq (tgt := 24) S.1 S.2.1 d_R_bounded_5 (by decide) (fun _ => ?_) (fun hx9 => absurd (isF_n (by omega) hno) hx9)
  refine lv_iconst (v := 0) S.1 S.2.1 d_R_bounded_24 (by decide) ?_
  exact rw_z S hr hk rfl hS d_R_bounded_25 ⟨rfl, hw⟩
set_option maxHeartbeats 4000000 in
set_option maxRecDepth 100000 in
theorem c_R_progress_y (l : Launch) {K : KT} {ma : Nat → Nat} {n pl : Nat} {wt : Int32} {J : Nat → Nat → Int32} {X : Nat → Int64} {kd wh fi se : Nat → Nat} {lo hi : Nat → Int32} {rc : Nat → Nat} {f : Nat} (hD : mD K ma) (hT : mT kd wh fi se lo hi J n) (hV : tabOk kd wh fi se lo hi n) (hn : n ≤ 12) (hf : f < n) (hrc : ∀ j, j < n → rc j = rch kd fi se hi (J 7) rc pl j) (hrl : ∀ j, j < n → rc j ≤ 24) (hpl : pl ≤ 24) : Met l y_R_progress (Cond.code y_R_progress b_R_progress 4 (some Jvm.ClassFile.FieldType.int) :: WALL) { frames := 1, cells := 0, slots := 0, locals := 26 } (pc0 K [.ref (ma 0), .int (nI f)] (fun H => mW K ma n wt pl J X H)) (va_Qi (fun r H => r = nI (rc f) ∧ ∃ J', (∀ p, p ≠ 14 → J' p = J p) ∧ mW K ma n wt pl J' X H) (fun u t => t.heap = u) (mA ma)) 0 0 (mA ma) := by
  refine met0 (own := "MetricLogMonitorModel") (by decide) rfl (Nat.le_of_ble_eq_true rfl) (fun p e s m below meth c ls S hr hk hnm hC hH hl => ?_)
  have hl : lv_has ls 4 [(0, .ref (ma 0)), (1, .int (nI f))] := hl
  have hS : va_S (mA ma) s.heap s.heap [] := va_S.rf
  have hA : ∀ q, (mA ma) q → kz K ≤ q := fun q h => by obtain ⟨i, hi, rfl⟩ := h; exact hD.2 i hi
  have hw := hH
  refine lv_aload_n S.1 S.2.1 d_R_progress_0 rfl (lv_at hl 0 rfl) ?_
  refine lv_iload_n S.1 S.2.1 d_R_progress_1 rfl (lv_at hl 1 rfl) ?_
  refine kVi (rest := []) S (c_R_isFormula l (nI f)) kc_R_isFormula ⟨q_769, q_771, qp_8⟩ rfl rfl ⟨Nat.le_of_ble_eq_true rfl, Nat.le_of_ble_eq_true rfl⟩ hC hS hA hw ⟨11, _, _, _, rfl, hw.1⟩ ⟨Nat.zero_le _, Nat.zero_le _⟩ hl.1 rfl rfl (Nat.le_of_ble_eq_true rfl) d_R_progress_2 (fun r er => ?_)
  subst er
  refine lv_if_ne (tgt := 10) S.1 S.2.1 d_R_progress_5 (by decide) (fun _ => ?_) (fun hx9 => absurd hx9 (isF_y (by omega) hf))
  refine lv_iconst (v := 0) S.1 S.2.1 d_R_progress_10 (by decide) ?_
  refine lv_istore_n S.1 S.2.1 d_R_progress_11 rfl hl (by decide) rfl (fun ls hl => ?_)
  have hl : lv_has ls 4 [(2, .int 0), (0, .ref (ma 0)), (1, .int (nI f))] := hl
  have key12 : ∀ (d12 : Nat) (k : Nat) (g : Nat → Nat → Int32) (H : Heap) (locs : List Loc) (ls : Array Slot), k + d12 = f + 1 → (∀ p, p ≠ 14 → g p = J p) → (∀ j, j < k → g 14 j = nI (rc j)) → (mT kd wh fi se lo hi g n) → (mW K ma n wt pl g X H) → (va_S (mA ma) s.heap H locs) → lv_has ls 4 [(2, .int (nI k)), (0, .ref (ma 0)), (1, .int (nI f))] → W p l e ({ frames := 1, cells := 0, slots := 0, locals := 26 } : Room) s m ([.ref (ma 0), .int (nI f)] : List Value).toArray below meth c H locs 0 0 (MQ below (va_Qi (fun r H => r = nI (rc f) ∧ ∃ J', (∀ p, p ≠ 14 → J' p = J p) ∧ mW K ma n wt pl J' X H) (fun u t => t.heap = u) (mA ma)) ([.ref (ma 0), .int (nI f)] : List Value).toArray s 0 0 (mA ma)) (F0 m 12 ls []) := by
    intro d12
    induction d12 with
    | zero =>
      intro k g H locs ls hd12 og hs hT hw hS hl
      refine lv_iload_n S.1 S.2.1 d_R_progress_12 rfl (lv_at hl 0 rfl) ?_
      refine lv_iload_n S.1 S.2.1 d_R_progress_13 rfl (lv_at hl 2 rfl) ?_
      refine lv_icmp_gt (tgt := 119) S.1 S.2.1 d_R_progress_14 (by decide) (fun _ => ?_) (fun hx9 => absurd (nI_lt (by omega) (by omega)) hx9)
      refine lv_aload_n S.1 S.2.1 d_R_progress_119 rfl (lv_at hl 1 rfl) ?_
      refine o_get (v := .ref (ma 14)) S hC kf_R hw.1 rfl 16 (by decide) q_709 rfl d_R_progress_120 ?_
      refine lv_iload_n S.1 S.2.1 d_R_progress_123 rfl (lv_at hl 2 rfl) ?_
      refine o_iald (j := f) S hC (mi_14 hw) (by decide) (by omega) d_R_progress_124 ?_
      exact rw_i S hr hk hS d_R_progress_125 ⟨hs f (by omega), g, og, hw⟩
    | succ d12 ih12 =>
      intro k g H locs ls hd12 og hs hT hw hS hl
      refine lv_iload_n S.1 S.2.1 d_R_progress_12 rfl (lv_at hl 0 rfl) ?_
      refine lv_iload_n S.1 S.2.1 d_R_progress_13 rfl (lv_at hl 2 rfl) ?_
      refine lv_icmp_gt (tgt := 119) S.1 S.2.1 d_R_progress_14 (by decide) (fun hx9 => absurd hx9 (nI_nlt (by omega) (by omega))) (fun _ => ?_)
      obtain ⟨v9, vw, vt, vp, vs9, vh9⟩ := hV k (by omega)
      rcases (show kd k = 0 ∨ kd k = 1 ∨ kd k = 2 ∨ kd k = 3 ∨ kd k = 4 ∨ kd k = 5 ∨ kd k = 6 ∨ kd k = 7 ∨ kd k = 8 ∨ kd k = 9 by omega) with hkd | hkd | hkd | hkd | hkd | hkd | hkd | hkd | hkd | hkd
      · have ht1 : tmr (fi k) := (vt (by omega)).1
        have ht2 : tmr (se k) := (vt (by omega)).2
        refine lv_aload_n S.1 S.2.1 d_R_progress_17 rfl (lv_at hl 1 rfl) ?_
        refine o_get (v := .ref (ma 1)) S hC kf_R hw.1 rfl 3 (by decide) q_694 rfl d_R_progress_18 ?_
        refine lv_iload_n S.1 S.2.1 d_R_progress_21 rfl (lv_at hl 0 rfl) ?_
        refine o_iald (j := k) S hC (mi_1 hw) (by decide) (by omega) d_R_progress_22 ?_
        refine tpi (y := nI (kd k)) (hT k (by omega)).1 ?_
        refine lv_iconst (v := 2) S.1 S.2.1 d_R_progress_23 (by decide) ?_
        refine lv_icmp_gt (tgt := 34) S.1 S.2.1 d_R_progress_24 (by decide) (fun hx9 => absurd hx9 (by rw [hkd]; decide)) (fun _ => ?_)
        refine lv_aload_n S.1 S.2.1 d_R_progress_27 rfl (lv_at hl 1 rfl) ?_
        refine o_get (v := .int (nI pl)) S hC kf_R hw.1 rfl 2 (by decide) q_701 rfl d_R_progress_28 ?_
        refine lv_goto (tgt := 60) S.1 S.2.1 d_R_progress_31 (by decide) ?_
        refine lv_istore_n S.1 S.2.1 d_R_progress_60 rfl hl (by decide) rfl (fun ls hl => ?_)
        have hl : lv_has ls 4 [(3, .int (nI pl)), (2, .int (nI k)), (0, .ref (ma 0)), (1, .int (nI f))] := hl
        refine lv_aload_n S.1 S.2.1 d_R_progress_61 rfl (lv_at hl 2 rfl) ?_
        refine o_get (v := .ref (ma 14)) S hC kf_R hw.1 rfl 16 (by decide) q_709 rfl d_R_progress_62 ?_
        refine lv_iload_n S.1 S.2.1 d_R_progress_65 rfl (lv_at hl 1 rfl) ?_
        refine lv_aload_n S.1 S.2.1 d_R_progress_66 rfl (lv_at hl 2 rfl) ?_
        refine o_get (v := .ref (ma 1)) S hC kf_R hw.1 rfl 3 (by decide) q_694 rfl d_R_progress_67 ?_
        refine lv_iload_n S.1 S.2.1 d_R_progress_70 rfl (lv_at hl 1 rfl) ?_
        refine o_iald (j := k) S hC (mi_1 hw) (by decide) (by omega) d_R_progress_71 ?_
        refine tpi (y := nI (kd k)) (hT k (by omega)).1 ?_
        refine lv_bipush (v := 7) S.1 S.2.1 d_R_progress_72 (by decide) ?_
        refine lv_icmp_ne (tgt := 91) S.1 S.2.1 d_R_progress_74 (by decide) (fun _ => ?_) (fun hx9 => absurd hx9 (by rw [hkd]; decide))
        refine lv_aload_n S.1 S.2.1 d_R_progress_91 rfl (lv_at hl 2 rfl) ?_
        refine o_get (v := .ref (ma 1)) S hC kf_R hw.1 rfl 3 (by decide) q_694 rfl d_R_progress_92 ?_
        refine lv_iload_n S.1 S.2.1 d_R_progress_95 rfl (lv_at hl 1 rfl) ?_
        refine o_iald (j := k) S hC (mi_1 hw) (by decide) (by omega) d_R_progress_96 ?_
        refine tpi (y := nI (kd k)) (hT k (by omega)).1 ?_
        refine lv_bipush (v := 9) S.1 S.2.1 d_R_progress_97 (by decide) ?_
        refine lv_icmp_ne (tgt := 111) S.1 S.2.1 d_R_progress_99 (by decide) (fun _ => ?_) (fun hx9 => absurd hx9 (by rw [hkd]; decide))
        refine lv_iload_n S.1 S.2.1 d_R_progress_111 rfl (lv_at hl 0 rfl) ?_
        refine m_iast (i := k) (x := nI pl) 14 S hC hD hw hS (by decide) (by decide) (by decide) (by decide) (show k < 12 by omega) d_R_progress_112 (fun H locs J1 eJ1 oJ1 hw hS => ?_)
        have hT : mT kd wh fi se lo hi J1 n := hT.to (fun p hp => oJ1 p (by omega))
        refine lv_iinc (v := nI (k + 1)) S.1 S.2.1 d_R_progress_113 hl (k := 1) rfl (nI_1 k) (by decide) rfl (fun ls hl => ?_)
        have hl : lv_has ls 4 [(2, .int (nI (k + 1))), (3, .int (nI pl)), (0, .ref (ma 0)), (1, .int (nI f))] := hl
        refine lv_goto (tgt := 12) S.1 S.2.1 d_R_progress_116 (by decide) ?_
        exact ih12 (k + 1) _ _ _ ls (by omega) (fun p hp => by rw [oJ1 p hp]; exact og p hp) (fun j hj => if e0 : j = k then by rw [e0, eJ1, pk_us, hrc k (by omega)]; rw [rch_a (by omega)] else by rw [eJ1, pk_un e0]; exact hs j (by omega)) hT hw hS (lv_sub hl [0, 2, 3] rfl)
      · have ht1 : tmr (fi k) := (vt (by omega)).1
        have ht2 : tmr (se k) := (vt (by omega)).2
        refine lv_aload_n S.1 S.2.1 d_R_progress_17 rfl (lv_at hl 1 rfl) ?_
        refine o_get (v := .ref (ma 1)) S hC kf_R hw.1 rfl 3 (by decide) q_694 rfl d_R_progress_18 ?_
        refine lv_iload_n S.1 S.2.1 d_R_progress_21 rfl (lv_at hl 0 rfl) ?_
        refine o_iald (j := k) S hC (mi_1 hw) (by decide) (by omega) d_R_progress_22 ?_
        refine tpi (y := nI (kd k)) (hT k (by omega)).1 ?_
        refine lv_iconst (v := 2) S.1 S.2.1 d_R_progress_23 (by decide) ?_
        refine lv_icmp_gt (tgt := 34) S.1 S.2.1 d_R_progress_24 (by decide) (fun hx9 => absurd hx9 (by rw [hkd]; decide)) (fun _ => ?_)
        refine lv_aload_n S.1 S.2.1 d_R_progress_27 rfl (lv_at hl 1 rfl) ?_
        refine o_get (v := .int (nI pl)) S hC kf_R hw.1 rfl 2 (by decide) q_701 rfl d_R_progress_28 ?_
        refine lv_goto (tgt := 60) S.1 S.2.1 d_R_progress_31 (by decide) ?_
        refine lv_istore_n S.1 S.2.1 d_R_progress_60 rfl hl (by decide) rfl (fun ls hl => ?_)
        have hl : lv_has ls 4 [(3, .int (nI pl)), (2, .int (nI k)), (0, .ref (ma 0)), (1, .int (nI f))] := hl
        refine lv_aload_n S.1 S.2.1 d_R_progress_61 rfl (lv_at hl 2 rfl) ?_
        refine o_get (v := .ref (ma 14)) S hC kf_R hw.1 rfl 16 (by decide) q_709 rfl d_R_progress_62 ?_
        refine lv_iload_n S.1 S.2.1 d_R_progress_65 rfl (lv_at hl 1 rfl) ?_
        refine lv_aload_n S.1 S.2.1 d_R_progress_66 rfl (lv_at hl 2 rfl) ?_
        refine o_get (v := .ref (ma 1)) S hC kf_R hw.1 rfl 3 (by decide) q_694 rfl d_R_progress_67 ?_
        refine lv_iload_n S.1 S.2.1 d_R_progress_70 rfl (lv_at hl 1 rfl) ?_
        refine o_iald (j := k) S hC (mi_1 hw) (by decide) (by omega) d_R_progress_71 ?_
        refine tpi (y := nI (kd k)) (hT k (by omega)).1 ?_
        refine lv_bipush (v := 7) S.1 S.2.1 d_R_progress_72 (by decide) ?_
        refine lv_icmp_ne (tgt := 91) S.1 S.2.1 d_R_progress_74 (by decide) (fun _ => ?_) (fun hx9 => absurd hx9 (by rw [hkd]; decide))
        refine lv_aload_n S.1 S.2.1 d_R_progress_91 rfl (lv_at hl 2 rfl) ?_
        refine o_get (v := .ref (ma 1)) S hC kf_R hw.1 rfl 3 (by decide) q_694 rfl d_R_progress_92 ?_
        refine lv_iload_n S.1 S.2.1 d_R_progress_95 rfl (lv_at hl 1 rfl) ?_
        refine o_iald (j := k) S hC (mi_1 hw) (by decide) (by omega) d_R_progress_96 ?_
        refine tpi (y := nI (kd k)) (hT k (by omega)).1 ?_
        refine lv_bipush (v := 9) S.1 S.2.1 d_R_progress_97 (by decide) ?_
        refine lv_icmp_ne (tgt := 111) S.1 S.2.1 d_R_progress_99 (by decide) (fun _ => ?_) (fun hx9 => absurd hx9 (by rw [hkd]; decide))
        refine lv_iload_n S.1 S.2.1 d_R_progress_111 rfl (lv_at hl 0 rfl) ?_
        refine m_iast (i := k) (x := nI pl) 14 S hC hD hw hS (by decide) (by decide) (by decide) (by decide) (show k < 12 by omega) d_R_progress_112 (fun H locs J2 eJ2 oJ2 hw hS => ?_)
        have hT : mT kd wh fi se lo hi J2 n := hT.to (fun p hp => oJ2 p (by omega))
        refine lv_iinc (v := nI (k + 1)) S.1 S.2.1 d_R_progress_113 hl (k := 1) rfl (nI_1 k) (by decide) rfl (fun ls hl => ?_)
        have hl : lv_has ls 4 [(2, .int (nI (k + 1))), (3, .int (nI pl)), (0, .ref (ma 0)), (1, .int (nI f))] := hl
        refine lv_goto (tgt := 12) S.1 S.2.1 d_R_progress_116 (by decide) ?_
        exact ih12 (k + 1) _ _ _ ls (by omega) (fun p hp => by rw [oJ2 p hp]; exact og p hp) (fun j hj => if e0 : j = k then by rw [e0, eJ2, pk_us, hrc k (by omega)]; rw [rch_a (by omega)] else by rw [eJ2, pk_un e0]; exact hs j (by omega)) hT hw hS (lv_sub hl [0, 2, 3] rfl)
      · have ht1 : tmr (fi k) := (vt (by omega)).1
        have ht2 : tmr (se k) := (vt (by omega)).2
        refine lv_aload_n S.1 S.2.1 d_R_progress_17 rfl (lv_at hl 1 rfl) ?_
        refine o_get (v := .ref (ma 1)) S hC kf_R hw.1 rfl 3 (by decide) q_694 rfl d_R_progress_18 ?_
        refine lv_iload_n S.1 S.2.1 d_R_progress_21 rfl (lv_at hl 0 rfl) ?_
        refine o_iald (j := k) S hC (mi_1 hw) (by decide) (by omega) d_R_progress_22 ?_
        refine tpi (y := nI (kd k)) (hT k (by omega)).1 ?_
        refine lv_iconst (v := 2) S.1 S.2.1 d_R_progress_23 (by decide) ?_
        refine lv_icmp_gt (tgt := 34) S.1 S.2.1 d_R_progress_24 (by decide) (fun hx9 => absurd hx9 (by rw [hkd]; decide)) (fun _ => ?_)
        refine lv_aload_n S.1 S.2.1 d_R_progress_27 rfl (lv_at hl 1 rfl) ?_
        refine o_get (v := .int (nI pl)) S hC kf_R hw.1 rfl 2 (by decide) q_701 rfl d_R_progress_28 ?_
        refine lv_goto (tgt := 60) S.1 S.2.1 d_R_progress_31 (by decide) ?_
        refine lv_istore_n S.1 S.2.1 d_R_progress_60 rfl hl (by decide) rfl (fun ls hl => ?_)
        have hl : lv_has ls 4 [(3, .int (nI pl)), (2, .int (nI k)), (0, .ref (ma 0)), (1, .int (nI f))] := hl
        refine lv_aload_n S.1 S.2.1 d_R_progress_61 rfl (lv_at hl 2 rfl) ?_
        refine o_get (v := .ref (ma 14)) S hC kf_R hw.1 rfl 16 (by decide) q_709 rfl d_R_progress_62 ?_
        refine lv_iload_n S.1 S.2.1 d_R_progress_65 rfl (lv_at hl 1 rfl) ?_
        refine lv_aload_n S.1 S.2.1 d_R_progress_66 rfl (lv_at hl 2 rfl) ?_
        refine o_get (v := .ref (ma 1)) S hC kf_R hw.1 rfl 3 (by decide) q_694 rfl d_R_progress_67 ?_
        refine lv_iload_n S.1 S.2.1 d_R_progress_70 rfl (lv_at hl 1 rfl) ?_
        refine o_iald (j := k) S hC (mi_1 hw) (by decide) (by omega) d_R_progress_71 ?_
        refine tpi (y := nI (kd k)) (hT k (by omega)).1 ?_
        refine lv_bipush (v := 7) S.1 S.2.1 d_R_progress_72 (by decide) ?_
        refine lv_icmp_ne (tgt := 91) S.1 S.2.1 d_R_progress_74 (by decide) (fun _ => ?_) (fun hx9 => absurd hx9 (by rw [hkd]; decide))
        refine lv_aload_n S.1 S.2.1 d_R_progress_91 rfl (lv_at hl 2 rfl) ?_
        refine o_get (v := .ref (ma 1)) S hC kf_R hw.1 rfl 3 (by decide) q_694 rfl d_R_progress_92 ?_
        refine lv_iload_n S.1 S.2.1 d_R_progress_95 rfl (lv_at hl 1 rfl) ?_
        refine o_iald (j := k) S hC (mi_1 hw) (by decide) (by omega) d_R_progress_96 ?_
        refine tpi (y := nI (kd k)) (hT k (by omega)).1 ?_
        refine lv_bipush (v := 9) S.1 S.2.1 d_R_progress_97 (by decide) ?_
        refine lv_icmp_ne (tgt := 111) S.1 S.2.1 d_R_progress_99 (by decide) (fun _ => ?_) (fun hx9 => absurd hx9 (by rw [hkd]; decide))
        refine lv_iload_n S.1 S.2.1 d_R_progress_111 rfl (lv_at hl 0 rfl) ?_
        refine m_iast (i := k) (x := nI pl) 14 S hC hD hw hS (by decide) (by decide) (by decide) (by decide) (show k < 12 by omega) d_R_progress_112 (fun H locs J3 eJ3 oJ3 hw hS => ?_)
        have hT : mT kd wh fi se lo hi J3 n := hT.to (fun p hp => oJ3 p (by omega))
        refine lv_iinc (v := nI (k + 1)) S.1 S.2.1 d_R_progress_113 hl (k := 1) rfl (nI_1 k) (by decide) rfl (fun ls hl => ?_)
        have hl : lv_has ls 4 [(2, .int (nI (k + 1))), (3, .int (nI pl)), (0, .ref (ma 0)), (1, .int (nI f))] := hl
        refine lv_goto (tgt := 12) S.1 S.2.1 d_R_progress_116 (by decide) ?_
        exact ih12 (k + 1) _ _ _ ls (by omega) (fun p hp => by rw [oJ3 p hp]; exact og p hp) (fun j hj => if e0 : j = k then by rw [e0, eJ3, pk_us, hrc k (by omega)]; rw [rch_a (by omega)] else by rw [eJ3, pk_un e0]; exact hs j (by omega)) hT hw hS (lv_sub hl [0, 2, 3] rfl)
      · have hfv := vp (by omega)
        refine lv_aload_n S.1 S.2.1 d_R_progress_17 rfl (lv_at hl 1 rfl) ?_
        refine o_get (v := .ref (ma 1)) S hC kf_R hw.1 rfl 3 (by decide) q_694 rfl d_R_progress_18 ?_
        refine lv_iload_n S.1 S.2.1 d_R_progress_21 rfl (lv_at hl 0 rfl) ?_
        refine o_iald (j := k) S hC (mi_1 hw) (by decide) (by omega) d_R_progress_22 ?_
        refine tpi (y := nI (kd k)) (hT k (by omega)).1 ?_
        refine lv_iconst (v := 2) S.1 S.2.1 d_R_progress_23 (by decide) ?_
        refine lv_icmp_gt (tgt := 34) S.1 S.2.1 d_R_progress_24 (by decide) (fun _ => ?_) (fun hx9 => absurd (by rw [hkd]; decide) hx9)
        refine lv_aload_n S.1 S.2.1 d_R_progress_34 rfl (lv_at hl 1 rfl) ?_
        refine lv_aload_n S.1 S.2.1 d_R_progress_35 rfl (lv_at hl 1 rfl) ?_
        refine o_get (v := .ref (ma 14)) S hC kf_R hw.1 rfl 16 (by decide) q_709 rfl d_R_progress_36 ?_
        refine lv_aload_n S.1 S.2.1 d_R_progress_39 rfl (lv_at hl 1 rfl) ?_
        refine o_get (v := .ref (ma 3)) S hC kf_R hw.1 rfl 5 (by decide) q_696 rfl d_R_progress_40 ?_
        refine lv_iload_n S.1 S.2.1 d_R_progress_43 rfl (lv_at hl 0 rfl) ?_
        refine o_iald (j := k) S hC (mi_3 hw) (by decide) (by omega) d_R_progress_44 ?_
        refine tpi (y := nI (fi k)) (hT k (by omega)).2.2.1 ?_
        refine o_iald (j := fi k) S hC (mi_14 hw) (by decide) (by omega) d_R_progress_45 ?_
        refine tpi (y := nI (rc (fi k))) (hs _ (by omega)) ?_
        refine lv_aload_n S.1 S.2.1 d_R_progress_46 rfl (lv_at hl 1 rfl) ?_
        refine o_get (v := .ref (ma 14)) S hC kf_R hw.1 rfl 16 (by decide) q_709 rfl d_R_progress_47 ?_
        refine lv_aload_n S.1 S.2.1 d_R_progress_50 rfl (lv_at hl 1 rfl) ?_
        refine o_get (v := .ref (ma 4)) S hC kf_R hw.1 rfl 6 (by decide) q_697 rfl d_R_progress_51 ?_
        refine lv_iload_n S.1 S.2.1 d_R_progress_54 rfl (lv_at hl 0 rfl) ?_
        refine o_iald (j := k) S hC (mi_4 hw) (by decide) (by omega) d_R_progress_55 ?_
        refine tpi (y := nI (se k)) (hT k (by omega)).2.2.2.1 ?_
        refine o_iald (j := se k) S hC (mi_14 hw) (by decide) (by omega) d_R_progress_56 ?_
        refine tpi (y := nI (rc (se k))) (hs _ (by omega)) ?_
        have hl1 := hrl (fi k) (by omega)
        have hl2 := hrl (se k) (by omega)
        refine kVi (rest := []) S (c_R_lesser l (a := rc (fi k)) (b := rc (se k)) (by omega) (by omega)) kc_R_lesser ⟨q_879, q_881, qp_20⟩ rfl rfl ⟨Nat.le_of_ble_eq_true rfl, Nat.le_of_ble_eq_true rfl⟩ hC hS hA hw ⟨11, _, _, _, rfl, hw.1⟩ ⟨Nat.zero_le _, Nat.zero_le _⟩ hl.1 rfl rfl (Nat.le_of_ble_eq_true rfl) d_R_progress_57 (fun r er => ?_)
        subst er
        refine lv_istore_n S.1 S.2.1 d_R_progress_60 rfl hl (by decide) rfl (fun ls hl => ?_)
        have hl : lv_has ls 4 [(3, .int (nI (min (rc (fi k)) (rc (se k))))), (2, .int (nI k)), (0, .ref (ma 0)), (1, .int (nI f))] := hl
        refine lv_aload_n S.1 S.2.1 d_R_progress_61 rfl (lv_at hl 2 rfl) ?_
        refine o_get (v := .ref (ma 14)) S hC kf_R hw.1 rfl 16 (by decide) q_709 rfl d_R_progress_62 ?_
        refine lv_iload_n S.1 S.2.1 d_R_progress_65 rfl (lv_at hl 1 rfl) ?_
        refine lv_aload_n S.1 S.2.1 d_R_progress_66 rfl (lv_at hl 2 rfl) ?_
        refine o_get (v := .ref (ma 1)) S hC kf_R hw.1 rfl 3 (by decide) q_694 rfl d_R_progress_67 ?_
        refine lv_iload_n S.1 S.2.1 d_R_progress_70 rfl (lv_at hl 1 rfl) ?_
        refine o_iald (j := k) S hC (mi_1 hw) (by decide) (by omega) d_R_progress_71 ?_
        refine tpi (y := nI (kd k)) (hT k (by omega)).1 ?_
        refine lv_bipush (v := 7) S.1 S.2.1 d_R_progress_72 (by decide) ?_
        refine lv_icmp_ne (tgt := 91) S.1 S.2.1 d_R_progress_74 (by decide) (fun _ => ?_) (fun hx9 => absurd hx9 (by rw [hkd]; decide))
        refine lv_aload_n S.1 S.2.1 d_R_progress_91 rfl (lv_at hl 2 rfl) ?_
        refine o_get (v := .ref (ma 1)) S hC kf_R hw.1 rfl 3 (by decide) q_694 rfl d_R_progress_92 ?_
        refine lv_iload_n S.1 S.2.1 d_R_progress_95 rfl (lv_at hl 1 rfl) ?_
        refine o_iald (j := k) S hC (mi_1 hw) (by decide) (by omega) d_R_progress_96 ?_
        refine tpi (y := nI (kd k)) (hT k (by omega)).1 ?_
        refine lv_bipush (v := 9) S.1 S.2.1 d_R_progress_97 (by decide) ?_
        refine lv_icmp_ne (tgt := 111) S.1 S.2.1 d_R_progress_99 (by decide) (fun _ => ?_) (fun hx9 => absurd hx9 (by rw [hkd]; decide))
        refine lv_iload_n S.1 S.2.1 d_R_progress_111 rfl (lv_at hl 0 rfl) ?_
        refine m_iast (i := k) (x := (nI (min (rc (fi k)) (rc (se k))))) 14 S hC hD hw hS (by decide) (by decide) (by decide) (by decide) (show k < 12 by omega) d_R_progress_112 (fun H locs J4 eJ4 oJ4 hw hS => ?_)
        have hT : mT kd wh fi se lo hi J4 n := hT.to (fun p hp => oJ4 p (by omega))
        refine lv_iinc (v := nI (k + 1)) S.1 S.2.1 d_R_progress_113 hl (k := 1) rfl (nI_1 k) (by decide) rfl (fun ls hl => ?_)
        have hl : lv_has ls 4 [(2, .int (nI (k + 1))), (3, .int (nI (min (rc (fi k)) (rc (se k))))), (0, .ref (ma 0)), (1, .int (nI f))] := hl
        refine lv_goto (tgt := 12) S.1 S.2.1 d_R_progress_116 (by decide) ?_
        exact ih12 (k + 1) _ _ _ ls (by omega) (fun p hp => by rw [oJ4 p hp]; exact og p hp) (fun j hj => if e0 : j = k then by rw [e0, eJ4, pk_us, hrc k (by omega)]; rw [rch_m (by omega) (by omega) (by omega)] else by rw [eJ4, pk_un e0]; exact hs j (by omega)) hT hw hS (lv_sub hl [0, 2, 3] rfl)
      · have hfv := vp (by omega)
        refine lv_aload_n S.1 S.2.1 d_R_progress_17 rfl (lv_at hl 1 rfl) ?_
        refine o_get (v := .ref (ma 1)) S hC kf_R hw.1 rfl 3 (by decide) q_694 rfl d_R_progress_18 ?_
        refine lv_iload_n S.1 S.2.1 d_R_progress_21 rfl (lv_at hl 0 rfl) ?_
        refine o_iald (j := k) S hC (mi_1 hw) (by decide) (by omega) d_R_progress_22 ?_
        refine tpi (y := nI (kd k)) (hT k (by omega)).1 ?_
        refine lv_iconst (v := 2) S.1 S.2.1 d_R_progress_23 (by decide) ?_
        refine lv_icmp_gt (tgt := 34) S.1 S.2.1 d_R_progress_24 (by decide) (fun _ => ?_) (fun hx9 => absurd (by rw [hkd]; decide) hx9)
        refine lv_aload_n S.1 S.2.1 d_R_progress_34 rfl (lv_at hl 1 rfl) ?_
        refine lv_aload_n S.1 S.2.1 d_R_progress_35 rfl (lv_at hl 1 rfl) ?_
        refine o_get (v := .ref (ma 14)) S hC kf_R hw.1 rfl 16 (by decide) q_709 rfl d_R_progress_36 ?_
        refine lv_aload_n S.1 S.2.1 d_R_progress_39 rfl (lv_at hl 1 rfl) ?_
        refine o_get (v := .ref (ma 3)) S hC kf_R hw.1 rfl 5 (by decide) q_696 rfl d_R_progress_40 ?_
        refine lv_iload_n S.1 S.2.1 d_R_progress_43 rfl (lv_at hl 0 rfl) ?_
        refine o_iald (j := k) S hC (mi_3 hw) (by decide) (by omega) d_R_progress_44 ?_
        refine tpi (y := nI (fi k)) (hT k (by omega)).2.2.1 ?_
        refine o_iald (j := fi k) S hC (mi_14 hw) (by decide) (by omega) d_R_progress_45 ?_
        refine tpi (y := nI (rc (fi k))) (hs _ (by omega)) ?_
        refine lv_aload_n S.1 S.2.1 d_R_progress_46 rfl (lv_at hl 1 rfl) ?_
        refine o_get (v := .ref (ma 14)) S hC kf_R hw.1 rfl 16 (by decide) q_709 rfl d_R_progress_47 ?_
        refine lv_aload_n S.1 S.2.1 d_R_progress_50 rfl (lv_at hl 1 rfl) ?_
        refine o_get (v := .ref (ma 4)) S hC kf_R hw.1 rfl 6 (by decide) q_697 rfl d_R_progress_51 ?_
        refine lv_iload_n S.1 S.2.1 d_R_progress_54 rfl (lv_at hl 0 rfl) ?_
        refine o_iald (j := k) S hC (mi_4 hw) (by decide) (by omega) d_R_progress_55 ?_
        refine tpi (y := nI (se k)) (hT k (by omega)).2.2.2.1 ?_
        refine o_iald (j := se k) S hC (mi_14 hw) (by decide) (by omega) d_R_progress_56 ?_
        refine tpi (y := nI (rc (se k))) (hs _ (by omega)) ?_
        have hl1 := hrl (fi k) (by omega)
        have hl2 := hrl (se k) (by omega)
        refine kVi (rest := []) S (c_R_lesser l (a := rc (fi k)) (b := rc (se k)) (by omega) (by omega)) kc_R_lesser ⟨q_879, q_881, qp_20⟩ rfl rfl ⟨Nat.le_of_ble_eq_true rfl, Nat.le_of_ble_eq_true rfl⟩ hC hS hA hw ⟨11, _, _, _, rfl, hw.1⟩ ⟨Nat.zero_le _, Nat.zero_le _⟩ hl.1 rfl rfl (Nat.le_of_ble_eq_true rfl) d_R_progress_57 (fun r er => ?_)
        subst er
        refine lv_istore_n S.1 S.2.1 d_R_progress_60 rfl hl (by decide) rfl (fun ls hl => ?_)
        have hl : lv_has ls 4 [(3, .int (nI (min (rc (fi k)) (rc (se k))))), (2, .int (nI k)), (0, .ref (ma 0)), (1, .int (nI f))] := hl
        refine lv_aload_n S.1 S.2.1 d_R_progress_61 rfl (lv_at hl 2 rfl) ?_
        refine o_get (v := .ref (ma 14)) S hC kf_R hw.1 rfl 16 (by decide) q_709 rfl d_R_progress_62 ?_
        refine lv_iload_n S.1 S.2.1 d_R_progress_65 rfl (lv_at hl 1 rfl) ?_
        refine lv_aload_n S.1 S.2.1 d_R_progress_66 rfl (lv_at hl 2 rfl) ?_
        refine o_get (v := .ref (ma 1)) S hC kf_R hw.1 rfl 3 (by decide) q_694 rfl d_R_progress_67 ?_
        refine lv_iload_n S.1 S.2.1 d_R_progress_70 rfl (lv_at hl 1 rfl) ?_
        refine o_iald (j := k) S hC (mi_1 hw) (by decide) (by omega) d_R_progress_71 ?_
        refine tpi (y := nI (kd k)) (hT k (by omega)).1 ?_
        refine lv_bipush (v := 7) S.1 S.2.1 d_R_progress_72 (by decide) ?_
        refine lv_icmp_ne (tgt := 91) S.1 S.2.1 d_R_progress_74 (by decide) (fun _ => ?_) (fun hx9 => absurd hx9 (by rw [hkd]; decide))
        refine lv_aload_n S.1 S.2.1 d_R_progress_91 rfl (lv_at hl 2 rfl) ?_
        refine o_get (v := .ref (ma 1)) S hC kf_R hw.1 rfl 3 (by decide) q_694 rfl d_R_progress_92 ?_
        refine lv_iload_n S.1 S.2.1 d_R_progress_95 rfl (lv_at hl 1 rfl) ?_
        refine o_iald (j := k) S hC (mi_1 hw) (by decide) (by omega) d_R_progress_96 ?_
        refine tpi (y := nI (kd k)) (hT k (by omega)).1 ?_
        refine lv_bipush (v := 9) S.1 S.2.1 d_R_progress_97 (by decide) ?_
        refine lv_icmp_ne (tgt := 111) S.1 S.2.1 d_R_progress_99 (by decide) (fun _ => ?_) (fun hx9 => absurd hx9 (by rw [hkd]; decide))
        refine lv_iload_n S.1 S.2.1 d_R_progress_111 rfl (lv_at hl 0 rfl) ?_
        refine m_iast (i := k) (x := (nI (min (rc (fi k)) (rc (se k))))) 14 S hC hD hw hS (by decide) (by decide) (by decide) (by decide) (show k < 12 by omega) d_R_progress_112 (fun H locs J5 eJ5 oJ5 hw hS => ?_)
        have hT : mT kd wh fi se lo hi J5 n := hT.to (fun p hp => oJ5 p (by omega))
        refine lv_iinc (v := nI (k + 1)) S.1 S.2.1 d_R_progress_113 hl (k := 1) rfl (nI_1 k) (by decide) rfl (fun ls hl => ?_)
        have hl : lv_has ls 4 [(2, .int (nI (k + 1))), (3, .int (nI (min (rc (fi k)) (rc (se k))))), (0, .ref (ma 0)), (1, .int (nI f))] := hl
        refine lv_goto (tgt := 12) S.1 S.2.1 d_R_progress_116 (by decide) ?_
        exact ih12 (k + 1) _ _ _ ls (by omega) (fun p hp => by rw [oJ5 p hp]; exact og p hp) (fun j hj => if e0 : j = k then by rw [e0, eJ5, pk_us, hrc k (by omega)]; rw [rch_m (by omega) (by omega) (by omega)] else by rw [eJ5, pk_un e0]; exact hs j (by omega)) hT hw hS (lv_sub hl [0, 2, 3] rfl)
      · have hfv := vp (by omega)
        refine lv_aload_n S.1 S.2.1 d_R_progress_17 rfl (lv_at hl 1 rfl) ?_
        refine o_get (v := .ref (ma 1)) S hC kf_R hw.1 rfl 3 (by decide) q_694 rfl d_R_progress_18 ?_
        refine lv_iload_n S.1 S.2.1 d_R_progress_21 rfl (lv_at hl 0 rfl) ?_
        refine o_iald (j := k) S hC (mi_1 hw) (by decide) (by omega) d_R_progress_22 ?_
        refine tpi (y := nI (kd k)) (hT k (by omega)).1 ?_
        refine lv_iconst (v := 2) S.1 S.2.1 d_R_progress_23 (by decide) ?_
        refine lv_icmp_gt (tgt := 34) S.1 S.2.1 d_R_progress_24 (by decide) (fun _ => ?_) (fun hx9 => absurd (by rw [hkd]; decide) hx9)
        refine lv_aload_n S.1 S.2.1 d_R_progress_34 rfl (lv_at hl 1 rfl) ?_
        refine lv_aload_n S.1 S.2.1 d_R_progress_35 rfl (lv_at hl 1 rfl) ?_
        refine o_get (v := .ref (ma 14)) S hC kf_R hw.1 rfl 16 (by decide) q_709 rfl d_R_progress_36 ?_
        refine lv_aload_n S.1 S.2.1 d_R_progress_39 rfl (lv_at hl 1 rfl) ?_
        refine o_get (v := .ref (ma 3)) S hC kf_R hw.1 rfl 5 (by decide) q_696 rfl d_R_progress_40 ?_
        refine lv_iload_n S.1 S.2.1 d_R_progress_43 rfl (lv_at hl 0 rfl) ?_
        refine o_iald (j := k) S hC (mi_3 hw) (by decide) (by omega) d_R_progress_44 ?_
        refine tpi (y := nI (fi k)) (hT k (by omega)).2.2.1 ?_
        refine o_iald (j := fi k) S hC (mi_14 hw) (by decide) (by omega) d_R_progress_45 ?_
        refine tpi (y := nI (rc (fi k))) (hs _ (by omega)) ?_
        refine lv_aload_n S.1 S.2.1 d_R_progress_46 rfl (lv_at hl 1 rfl) ?_
        refine o_get (v := .ref (ma 14)) S hC kf_R hw.1 rfl 16 (by decide) q_709 rfl d_R_progress_47 ?_
        refine lv_aload_n S.1 S.2.1 d_R_progress_50 rfl (lv_at hl 1 rfl) ?_
        refine o_get (v := .ref (ma 4)) S hC kf_R hw.1 rfl 6 (by decide) q_697 rfl d_R_progress_51 ?_
        refine lv_iload_n S.1 S.2.1 d_R_progress_54 rfl (lv_at hl 0 rfl) ?_
        refine o_iald (j := k) S hC (mi_4 hw) (by decide) (by omega) d_R_progress_55 ?_
        refine tpi (y := nI (se k)) (hT k (by omega)).2.2.2.1 ?_
        refine o_iald (j := se k) S hC (mi_14 hw) (by decide) (by omega) d_R_progress_56 ?_
        refine tpi (y := nI (rc (se k))) (hs _ (by omega)) ?_
        have hl1 := hrl (fi k) (by omega)
        have hl2 := hrl (se k) (by omega)
        refine kVi (rest := []) S (c_R_lesser l (a := rc (fi k)) (b := rc (se k)) (by omega) (by omega)) kc_R_lesser ⟨q_879, q_881, qp_20⟩ rfl rfl ⟨Nat.le_of_ble_eq_true rfl, Nat.le_of_ble_eq_true rfl⟩ hC hS hA hw ⟨11, _, _, _, rfl, hw.1⟩ ⟨Nat.zero_le _, Nat.zero_le _⟩ hl.1 rfl rfl (Nat.le_of_ble_eq_true rfl) d_R_progress_57 (fun r er => ?_)
        subst er
        refine lv_istore_n S.1 S.2.1 d_R_progress_60 rfl hl (by decide) rfl (fun ls hl => ?_)
        have hl : lv_has ls 4 [(3, .int (nI (min (rc (fi k)) (rc (se k))))), (2, .int (nI k)), (0, .ref (ma 0)), (1, .int (nI f))] := hl
        refine lv_aload_n S.1 S.2.1 d_R_progress_61 rfl (lv_at hl 2 rfl) ?_
        refine o_get (v := .ref (ma 14)) S hC kf_R hw.1 rfl 16 (by decide) q_709 rfl d_R_progress_62 ?_
        refine lv_iload_n S.1 S.2.1 d_R_progress_65 rfl (lv_at hl 1 rfl) ?_
        refine lv_aload_n S.1 S.2.1 d_R_progress_66 rfl (lv_at hl 2 rfl) ?_
        refine o_get (v := .ref (ma 1)) S hC kf_R hw.1 rfl 3 (by decide) q_694 rfl d_R_progress_67 ?_
        refine lv_iload_n S.1 S.2.1 d_R_progress_70 rfl (lv_at hl 1 rfl) ?_
        refine o_iald (j := k) S hC (mi_1 hw) (by decide) (by omega) d_R_progress_71 ?_
        refine tpi (y := nI (kd k)) (hT k (by omega)).1 ?_
        refine lv_bipush (v := 7) S.1 S.2.1 d_R_progress_72 (by decide) ?_
        refine lv_icmp_ne (tgt := 91) S.1 S.2.1 d_R_progress_74 (by decide) (fun _ => ?_) (fun hx9 => absurd hx9 (by rw [hkd]; decide))
        refine lv_aload_n S.1 S.2.1 d_R_progress_91 rfl (lv_at hl 2 rfl) ?_
        refine o_get (v := .ref (ma 1)) S hC kf_R hw.1 rfl 3 (by decide) q_694 rfl d_R_progress_92 ?_
        refine lv_iload_n S.1 S.2.1 d_R_progress_95 rfl (lv_at hl 1 rfl) ?_
        refine o_iald (j := k) S hC (mi_1 hw) (by decide) (by omega) d_R_progress_96 ?_
        refine tpi (y := nI (kd k)) (hT k (by omega)).1 ?_
        refine lv_bipush (v := 9) S.1 S.2.1 d_R_progress_97 (by decide) ?_
        refine lv_icmp_ne (tgt := 111) S.1 S.2.1 d_R_progress_99 (by decide) (fun _ => ?_) (fun hx9 => absurd hx9 (by rw [hkd]; decide))
        refine lv_iload_n S.1 S.2.1 d_R_progress_111 rfl (lv_at hl 0 rfl) ?_
        refine m_iast (i := k) (x := (nI (min (rc (fi k)) (rc (se k))))) 14 S hC hD hw hS (by decide) (by decide) (by decide) (by decide) (show k < 12 by omega) d_R_progress_112 (fun H locs J6 eJ6 oJ6 hw hS => ?_)
        have hT : mT kd wh fi se lo hi J6 n := hT.to (fun p hp => oJ6 p (by omega))
        refine lv_iinc (v := nI (k + 1)) S.1 S.2.1 d_R_progress_113 hl (k := 1) rfl (nI_1 k) (by decide) rfl (fun ls hl => ?_)
        have hl : lv_has ls 4 [(2, .int (nI (k + 1))), (3, .int (nI (min (rc (fi k)) (rc (se k))))), (0, .ref (ma 0)), (1, .int (nI f))] := hl
        refine lv_goto (tgt := 12) S.1 S.2.1 d_R_progress_116 (by decide) ?_
        exact ih12 (k + 1) _ _ _ ls (by omega) (fun p hp => by rw [oJ6 p hp]; exact og p hp) (fun j hj => if e0 : j = k then by rw [e0, eJ6, pk_us, hrc k (by omega)]; rw [rch_m (by omega) (by omega) (by omega)] else by rw [eJ6, pk_un e0]; exact hs j (by omega)) hT hw hS (lv_sub hl [0, 2, 3] rfl)
      · have hfv := vp (by omega)
        refine lv_aload_n S.1 S.2.1 d_R_progress_17 rfl (lv_at hl 1 rfl) ?_
        refine o_get (v := .ref (ma 1)) S hC kf_R hw.1 rfl 3 (by decide) q_694 rfl d_R_progress_18 ?_
        refine lv_iload_n S.1 S.2.1 d_R_progress_21 rfl (lv_at hl 0 rfl) ?_
        refine o_iald (j := k) S hC (mi_1 hw) (by decide) (by omega) d_R_progress_22 ?_
        refine tpi (y := nI (kd k)) (hT k (by omega)).1 ?_
        refine lv_iconst (v := 2) S.1 S.2.1 d_R_progress_23 (by decide) ?_
        refine lv_icmp_gt (tgt := 34) S.1 S.2.1 d_R_progress_24 (by decide) (fun _ => ?_) (fun hx9 => absurd (by rw [hkd]; decide) hx9)
        refine lv_aload_n S.1 S.2.1 d_R_progress_34 rfl (lv_at hl 1 rfl) ?_
        refine lv_aload_n S.1 S.2.1 d_R_progress_35 rfl (lv_at hl 1 rfl) ?_
        refine o_get (v := .ref (ma 14)) S hC kf_R hw.1 rfl 16 (by decide) q_709 rfl d_R_progress_36 ?_
        refine lv_aload_n S.1 S.2.1 d_R_progress_39 rfl (lv_at hl 1 rfl) ?_
        refine o_get (v := .ref (ma 3)) S hC kf_R hw.1 rfl 5 (by decide) q_696 rfl d_R_progress_40 ?_
        refine lv_iload_n S.1 S.2.1 d_R_progress_43 rfl (lv_at hl 0 rfl) ?_
        refine o_iald (j := k) S hC (mi_3 hw) (by decide) (by omega) d_R_progress_44 ?_
        refine tpi (y := nI (fi k)) (hT k (by omega)).2.2.1 ?_
        refine o_iald (j := fi k) S hC (mi_14 hw) (by decide) (by omega) d_R_progress_45 ?_
        refine tpi (y := nI (rc (fi k))) (hs _ (by omega)) ?_
        refine lv_aload_n S.1 S.2.1 d_R_progress_46 rfl (lv_at hl 1 rfl) ?_
        refine o_get (v := .ref (ma 14)) S hC kf_R hw.1 rfl 16 (by decide) q_709 rfl d_R_progress_47 ?_
        refine lv_aload_n S.1 S.2.1 d_R_progress_50 rfl (lv_at hl 1 rfl) ?_
        refine o_get (v := .ref (ma 4)) S hC kf_R hw.1 rfl 6 (by decide) q_697 rfl d_R_progress_51 ?_
        refine lv_iload_n S.1 S.2.1 d_R_progress_54 rfl (lv_at hl 0 rfl) ?_
        refine o_iald (j := k) S hC (mi_4 hw) (by decide) (by omega) d_R_progress_55 ?_
        refine tpi (y := nI (se k)) (hT k (by omega)).2.2.2.1 ?_
        refine o_iald (j := se k) S hC (mi_14 hw) (by decide) (by omega) d_R_progress_56 ?_
        refine tpi (y := nI (rc (se k))) (hs _ (by omega)) ?_
        have hl1 := hrl (fi k) (by omega)
        have hl2 := hrl (se k) (by omega)
        refine kVi (rest := []) S (c_R_lesser l (a := rc (fi k)) (b := rc (se k)) (by omega) (by omega)) kc_R_lesser ⟨q_879, q_881, qp_20⟩ rfl rfl ⟨Nat.le_of_ble_eq_true rfl, Nat.le_of_ble_eq_true rfl⟩ hC hS hA hw ⟨11, _, _, _, rfl, hw.1⟩ ⟨Nat.zero_le _, Nat.zero_le _⟩ hl.1 rfl rfl (Nat.le_of_ble_eq_true rfl) d_R_progress_57 (fun r er => ?_)
        subst er
        refine lv_istore_n S.1 S.2.1 d_R_progress_60 rfl hl (by decide) rfl (fun ls hl => ?_)
        have hl : lv_has ls 4 [(3, .int (nI (min (rc (fi k)) (rc (se k))))), (2, .int (nI k)), (0, .ref (ma 0)), (1, .int (nI f))] := hl
        refine lv_aload_n S.1 S.2.1 d_R_progress_61 rfl (lv_at hl 2 rfl) ?_
        refine o_get (v := .ref (ma 14)) S hC kf_R hw.1 rfl 16 (by decide) q_709 rfl d_R_progress_62 ?_
        refine lv_iload_n S.1 S.2.1 d_R_progress_65 rfl (lv_at hl 1 rfl) ?_
        refine lv_aload_n S.1 S.2.1 d_R_progress_66 rfl (lv_at hl 2 rfl) ?_
        refine o_get (v := .ref (ma 1)) S hC kf_R hw.1 rfl 3 (by decide) q_694 rfl d_R_progress_67 ?_
        refine lv_iload_n S.1 S.2.1 d_R_progress_70 rfl (lv_at hl 1 rfl) ?_
        refine o_iald (j := k) S hC (mi_1 hw) (by decide) (by omega) d_R_progress_71 ?_
        refine tpi (y := nI (kd k)) (hT k (by omega)).1 ?_
        refine lv_bipush (v := 7) S.1 S.2.1 d_R_progress_72 (by decide) ?_
        refine lv_icmp_ne (tgt := 91) S.1 S.2.1 d_R_progress_74 (by decide) (fun _ => ?_) (fun hx9 => absurd hx9 (by rw [hkd]; decide))
        refine lv_aload_n S.1 S.2.1 d_R_progress_91 rfl (lv_at hl 2 rfl) ?_
        refine o_get (v := .ref (ma 1)) S hC kf_R hw.1 rfl 3 (by decide) q_694 rfl d_R_progress_92 ?_
        refine lv_iload_n S.1 S.2.1 d_R_progress_95 rfl (lv_at hl 1 rfl) ?_
        refine o_iald (j := k) S hC (mi_1 hw) (by decide) (by omega) d_R_progress_96 ?_
        refine tpi (y := nI (kd k)) (hT k (by omega)).1 ?_
        refine lv_bipush (v := 9) S.1 S.2.1 d_R_progress_97 (by decide) ?_
        refine lv_icmp_ne (tgt := 111) S.1 S.2.1 d_R_progress_99 (by decide) (fun _ => ?_) (fun hx9 => absurd hx9 (by rw [hkd]; decide))
        refine lv_iload_n S.1 S.2.1 d_R_progress_111 rfl (lv_at hl 0 rfl) ?_
        refine m_iast (i := k) (x := (nI (min (rc (fi k)) (rc (se k))))) 14 S hC hD hw hS (by decide) (by decide) (by decide) (by decide) (show k < 12 by omega) d_R_progress_112 (fun H locs J7 eJ7 oJ7 hw hS => ?_)
        have hT : mT kd wh fi se lo hi J7 n := hT.to (fun p hp => oJ7 p (by omega))
        refine lv_iinc (v := nI (k + 1)) S.1 S.2.1 d_R_progress_113 hl (k := 1) rfl (nI_1 k) (by decide) rfl (fun ls hl => ?_)
        have hl : lv_has ls 4 [(2, .int (nI (k + 1))), (3, .int (nI (min (rc (fi k)) (rc (se k))))), (0, .ref (ma 0)), (1, .int (nI f))] := hl
        refine lv_goto (tgt := 12) S.1 S.2.1 d_R_progress_116 (by decide) ?_
        exact ih12 (k + 1) _ _ _ ls (by omega) (fun p hp => by rw [oJ7 p hp]; exact og p hp) (fun j hj => if e0 : j = k then by rw [e0, eJ7, pk_us, hrc k (by omega)]; rw [rch_m (by omega) (by omega) (by omega)] else by rw [eJ7, pk_un e0]; exact hs j (by omega)) hT hw hS (lv_sub hl [0, 2, 3] rfl)
      · have hfv := vp (by omega)
        refine lv_aload_n S.1 S.2.1 d_R_progress_17 rfl (lv_at hl 1 rfl) ?_
        refine o_get (v := .ref (ma 1)) S hC kf_R hw.1 rfl 3 (by decide) q_694 rfl d_R_progress_18 ?_
        refine lv_iload_n S.1 S.2.1 d_R_progress_21 rfl (lv_at hl 0 rfl) ?_
        refine o_iald (j := k) S hC (mi_1 hw) (by decide) (by omega) d_R_progress_22 ?_
        refine tpi (y := nI (kd k)) (hT k (by omega)).1 ?_
        refine lv_iconst (v := 2) S.1 S.2.1 d_R_progress_23 (by decide) ?_
        refine lv_icmp_gt (tgt := 34) S.1 S.2.1 d_R_progress_24 (by decide) (fun _ => ?_) (fun hx9 => absurd (by rw [hkd]; decide) hx9)
        refine lv_aload_n S.1 S.2.1 d_R_progress_34 rfl (lv_at hl 1 rfl) ?_
        refine lv_aload_n S.1 S.2.1 d_R_progress_35 rfl (lv_at hl 1 rfl) ?_
        refine o_get (v := .ref (ma 14)) S hC kf_R hw.1 rfl 16 (by decide) q_709 rfl d_R_progress_36 ?_
        refine lv_aload_n S.1 S.2.1 d_R_progress_39 rfl (lv_at hl 1 rfl) ?_
        refine o_get (v := .ref (ma 3)) S hC kf_R hw.1 rfl 5 (by decide) q_696 rfl d_R_progress_40 ?_
        refine lv_iload_n S.1 S.2.1 d_R_progress_43 rfl (lv_at hl 0 rfl) ?_
        refine o_iald (j := k) S hC (mi_3 hw) (by decide) (by omega) d_R_progress_44 ?_
        refine tpi (y := nI (fi k)) (hT k (by omega)).2.2.1 ?_
        refine o_iald (j := fi k) S hC (mi_14 hw) (by decide) (by omega) d_R_progress_45 ?_
        refine tpi (y := nI (rc (fi k))) (hs _ (by omega)) ?_
        refine lv_aload_n S.1 S.2.1 d_R_progress_46 rfl (lv_at hl 1 rfl) ?_
        refine o_get (v := .ref (ma 14)) S hC kf_R hw.1 rfl 16 (by decide) q_709 rfl d_R_progress_47 ?_
        refine lv_aload_n S.1 S.2.1 d_R_progress_50 rfl (lv_at hl 1 rfl) ?_
        refine o_get (v := .ref (ma 4)) S hC kf_R hw.1 rfl 6 (by decide) q_697 rfl d_R_progress_51 ?_
        refine lv_iload_n S.1 S.2.1 d_R_progress_54 rfl (lv_at hl 0 rfl) ?_
        refine o_iald (j := k) S hC (mi_4 hw) (by decide) (by omega) d_R_progress_55 ?_
        refine tpi (y := nI (se k)) (hT k (by omega)).2.2.2.1 ?_
        refine o_iald (j := se k) S hC (mi_14 hw) (by decide) (by omega) d_R_progress_56 ?_
        refine tpi (y := nI (rc (se k))) (hs _ (by omega)) ?_
        have hl1 := hrl (fi k) (by omega)
        have hl2 := hrl (se k) (by omega)
        refine kVi (rest := []) S (c_R_lesser l (a := rc (fi k)) (b := rc (se k)) (by omega) (by omega)) kc_R_lesser ⟨q_879, q_881, qp_20⟩ rfl rfl ⟨Nat.le_of_ble_eq_true rfl, Nat.le_of_ble_eq_true rfl⟩ hC hS hA hw ⟨11, _, _, _, rfl, hw.1⟩ ⟨Nat.zero_le _, Nat.zero_le _⟩ hl.1 rfl rfl (Nat.le_of_ble_eq_true rfl) d_R_progress_57 (fun r er => ?_)
        subst er
        refine lv_istore_n S.1 S.2.1 d_R_progress_60 rfl hl (by decide) rfl (fun ls hl => ?_)
        have hl : lv_has ls 4 [(3, .int (nI (min (rc (fi k)) (rc (se k))))), (2, .int (nI k)), (0, .ref (ma 0)), (1, .int (nI f))] := hl
        refine lv_aload_n S.1 S.2.1 d_R_progress_61 rfl (lv_at hl 2 rfl) ?_
        refine o_get (v := .ref (ma 14)) S hC kf_R hw.1 rfl 16 (by decide) q_709 rfl d_R_progress_62 ?_
        refine lv_iload_n S.1 S.2.1 d_R_progress_65 rfl (lv_at hl 1 rfl) ?_
        refine lv_aload_n S.1 S.2.1 d_R_progress_66 rfl (lv_at hl 2 rfl) ?_
        refine o_get (v := .ref (ma 1)) S hC kf_R hw.1 rfl 3 (by decide) q_694 rfl d_R_progress_67 ?_
        refine lv_iload_n S.1 S.2.1 d_R_progress_70 rfl (lv_at hl 1 rfl) ?_
        refine o_iald (j := k) S hC (mi_1 hw) (by decide) (by omega) d_R_progress_71 ?_
        refine tpi (y := nI (kd k)) (hT k (by omega)).1 ?_
        refine lv_bipush (v := 7) S.1 S.2.1 d_R_progress_72 (by decide) ?_
        refine lv_icmp_ne (tgt := 91) S.1 S.2.1 d_R_progress_74 (by decide) (fun hx9 => absurd (by rw [hkd]; decide) hx9) (fun _ => ?_)
        refine lv_aload_n S.1 S.2.1 d_R_progress_77 rfl (lv_at hl 2 rfl) ?_
        refine lv_aload_n S.1 S.2.1 d_R_progress_78 rfl (lv_at hl 2 rfl) ?_
        refine o_get (v := .int (nI pl)) S hC kf_R hw.1 rfl 2 (by decide) q_701 rfl d_R_progress_79 ?_
        refine lv_iload_n S.1 S.2.1 d_R_progress_82 rfl (lv_at hl 0 rfl) ?_
        refine lv_iconst (v := 1) S.1 S.2.1 d_R_progress_83 (by decide) ?_
        refine lv_iadd S.1 S.2.1 d_R_progress_84 ?_
        refine tpi (y := nI (min (rc (fi k)) (rc (se k)) + 1)) (nI_1 _) ?_
        refine kVi (rest := [.int (nI k), .ref (ma 14)]) S (c_R_lesser l (a := pl) (b := min (rc (fi k)) (rc (se k)) + 1) (by omega) (by omega)) kc_R_lesser ⟨q_879, q_881, qp_20⟩ rfl rfl ⟨Nat.le_of_ble_eq_true rfl, Nat.le_of_ble_eq_true rfl⟩ hC hS hA hw ⟨11, _, _, _, rfl, hw.1⟩ ⟨Nat.zero_le _, Nat.zero_le _⟩ hl.1 rfl rfl (Nat.le_of_ble_eq_true rfl) d_R_progress_85 (fun r er => ?_)
        subst er
        refine lv_goto (tgt := 112) S.1 S.2.1 d_R_progress_88 (by decide) ?_
        refine m_iast (i := k) (x := (nI (min pl (min (rc (fi k)) (rc (se k)) + 1)))) 14 S hC hD hw hS (by decide) (by decide) (by decide) (by decide) (show k < 12 by omega) d_R_progress_112 (fun H locs J8 eJ8 oJ8 hw hS => ?_)
        have hT : mT kd wh fi se lo hi J8 n := hT.to (fun p hp => oJ8 p (by omega))
        refine lv_iinc (v := nI (k + 1)) S.1 S.2.1 d_R_progress_113 hl (k := 1) rfl (nI_1 k) (by decide) rfl (fun ls hl => ?_)
        have hl : lv_has ls 4 [(2, .int (nI (k + 1))), (3, .int (nI (min (rc (fi k)) (rc (se k))))), (0, .ref (ma 0)), (1, .int (nI f))] := hl
        refine lv_goto (tgt := 12) S.1 S.2.1 d_R_progress_116 (by decide) ?_
        exact ih12 (k + 1) _ _ _ ls (by omega) (fun p hp => by rw [oJ8 p hp]; exact og p hp) (fun j hj => if e0 : j = k then by rw [e0, eJ8, pk_us, hrc k (by omega)]; rw [rch_7 hkd] else by rw [eJ8, pk_un e0]; exact hs j (by omega)) hT hw hS (lv_sub hl [0, 2, 3] rfl)
      · have hfv := vp (by omega)
        refine lv_aload_n S.1 S.2.1 d_R_progress_17 rfl (lv_at hl 1 rfl) ?_
        refine o_get (v := .ref (ma 1)) S hC kf_R hw.1 rfl 3 (by decide) q_694 rfl d_R_progress_18 ?_
        refine lv_iload_n S.1 S.2.1 d_R_progress_21 rfl (lv_at hl 0 rfl) ?_
        refine o_iald (j := k) S hC (mi_1 hw) (by decide) (by omega) d_R_progress_22 ?_
        refine tpi (y := nI (kd k)) (hT k (by omega)).1 ?_
        refine lv_iconst (v := 2) S.1 S.2.1 d_R_progress_23 (by decide) ?_
        refine lv_icmp_gt (tgt := 34) S.1 S.2.1 d_R_progress_24 (by decide) (fun _ => ?_) (fun hx9 => absurd (by rw [hkd]; decide) hx9)
        refine lv_aload_n S.1 S.2.1 d_R_progress_34 rfl (lv_at hl 1 rfl) ?_
        refine lv_aload_n S.1 S.2.1 d_R_progress_35 rfl (lv_at hl 1 rfl) ?_
        refine o_get (v := .ref (ma 14)) S hC kf_R hw.1 rfl 16 (by decide) q_709 rfl d_R_progress_36 ?_
        refine lv_aload_n S.1 S.2.1 d_R_progress_39 rfl (lv_at hl 1 rfl) ?_
        refine o_get (v := .ref (ma 3)) S hC kf_R hw.1 rfl 5 (by decide) q_696 rfl d_R_progress_40 ?_
        refine lv_iload_n S.1 S.2.1 d_R_progress_43 rfl (lv_at hl 0 rfl) ?_
        refine o_iald (j := k) S hC (mi_3 hw) (by decide) (by omega) d_R_progress_44 ?_
        refine tpi (y := nI (fi k)) (hT k (by omega)).2.2.1 ?_
        refine o_iald (j := fi k) S hC (mi_14 hw) (by decide) (by omega) d_R_progress_45 ?_
        refine tpi (y := nI (rc (fi k))) (hs _ (by omega)) ?_
        refine lv_aload_n S.1 S.2.1 d_R_progress_46 rfl (lv_at hl 1 rfl) ?_
        refine o_get (v := .ref (ma 14)) S hC kf_R hw.1 rfl 16 (by decide) q_709 rfl d_R_progress_47 ?_
        refine lv_aload_n S.1 S.2.1 d_R_progress_50 rfl (lv_at hl 1 rfl) ?_
        refine o_get (v := .ref (ma 4)) S hC kf_R hw.1 rfl 6 (by decide) q_697 rfl d_R_progress_51 ?_
        refine lv_iload_n S.1 S.2.1 d_R_progress_54 rfl (lv_at hl 0 rfl) ?_
        refine o_iald (j := k) S hC (mi_4 hw) (by decide) (by omega) d_R_progress_55 ?_
        refine tpi (y := nI (se k)) (hT k (by omega)).2.2.2.1 ?_
        refine o_iald (j := se k) S hC (mi_14 hw) (by decide) (by omega) d_R_progress_56 ?_
        refine tpi (y := nI (rc (se k))) (hs _ (by omega)) ?_
        have hl1 := hrl (fi k) (by omega)
        have hl2 := hrl (se k) (by omega)
        refine kVi (rest := []) S (c_R_lesser l (a := rc (fi k)) (b := rc (se k)) (by omega) (by omega)) kc_R_lesser ⟨q_879, q_881, qp_20⟩ rfl rfl ⟨Nat.le_of_ble_eq_true rfl, Nat.le_of_ble_eq_true rfl⟩ hC hS hA hw ⟨11, _, _, _, rfl, hw.1⟩ ⟨Nat.zero_le _, Nat.zero_le _⟩ hl.1 rfl rfl (Nat.le_of_ble_eq_true rfl) d_R_progress_57 (fun r er => ?_)
        subst er
        refine lv_istore_n S.1 S.2.1 d_R_progress_60 rfl hl (by decide) rfl (fun ls hl => ?_)
        have hl : lv_has ls 4 [(3, .int (nI (min (rc (fi k)) (rc (se k))))), (2, .int (nI k)), (0, .ref (ma 0)), (1, .int (nI f))] := hl
        refine lv_aload_n S.1 S.2.1 d_R_progress_61 rfl (lv_at hl 2 rfl) ?_
        refine o_get (v := .ref (ma 14)) S hC kf_R hw.1 rfl 16 (by decide) q_709 rfl d_R_progress_62 ?_
        refine lv_iload_n S.1 S.2.1 d_R_progress_65 rfl (lv_at hl 1 rfl) ?_
        refine lv_aload_n S.1 S.2.1 d_R_progress_66 rfl (lv_at hl 2 rfl) ?_
        refine o_get (v := .ref (ma 1)) S hC kf_R hw.1 rfl 3 (by decide) q_694 rfl d_R_progress_67 ?_
        refine lv_iload_n S.1 S.2.1 d_R_progress_70 rfl (lv_at hl 1 rfl) ?_
        refine o_iald (j := k) S hC (mi_1 hw) (by decide) (by omega) d_R_progress_71 ?_
        refine tpi (y := nI (kd k)) (hT k (by omega)).1 ?_
        refine lv_bipush (v := 7) S.1 S.2.1 d_R_progress_72 (by decide) ?_
        refine lv_icmp_ne (tgt := 91) S.1 S.2.1 d_R_progress_74 (by decide) (fun _ => ?_) (fun hx9 => absurd hx9 (by rw [hkd]; decide))
        refine lv_aload_n S.1 S.2.1 d_R_progress_91 rfl (lv_at hl 2 rfl) ?_
        refine o_get (v := .ref (ma 1)) S hC kf_R hw.1 rfl 3 (by decide) q_694 rfl d_R_progress_92 ?_
        refine lv_iload_n S.1 S.2.1 d_R_progress_95 rfl (lv_at hl 1 rfl) ?_
        refine o_iald (j := k) S hC (mi_1 hw) (by decide) (by omega) d_R_progress_96 ?_
        refine tpi (y := nI (kd k)) (hT k (by omega)).1 ?_
        refine lv_bipush (v := 9) S.1 S.2.1 d_R_progress_97 (by decide) ?_
        refine lv_icmp_ne (tgt := 111) S.1 S.2.1 d_R_progress_99 (by decide) (fun _ => ?_) (fun hx9 => absurd hx9 (by rw [hkd]; decide))
        refine lv_iload_n S.1 S.2.1 d_R_progress_111 rfl (lv_at hl 0 rfl) ?_
        refine m_iast (i := k) (x := (nI (min (rc (fi k)) (rc (se k))))) 14 S hC hD hw hS (by decide) (by decide) (by decide) (by decide) (show k < 12 by omega) d_R_progress_112 (fun H locs J9 eJ9 oJ9 hw hS => ?_)
        have hT : mT kd wh fi se lo hi J9 n := hT.to (fun p hp => oJ9 p (by omega))
        refine lv_iinc (v := nI (k + 1)) S.1 S.2.1 d_R_progress_113 hl (k := 1) rfl (nI_1 k) (by decide) rfl (fun ls hl => ?_)
        have hl : lv_has ls 4 [(2, .int (nI (k + 1))), (3, .int (nI (min (rc (fi k)) (rc (se k))))), (0, .ref (ma 0)), (1, .int (nI f))] := hl
        refine lv_goto (tgt := 12) S.1 S.2.1 d_R_progress_116 (by decide) ?_
        exact ih12 (k + 1) _ _ _ ls (by omega) (fun p hp => by rw [oJ9 p hp]; exact og p hp) (fun j hj => if e0 : j = k then by rw [e0, eJ9, pk_us, hrc k (by omega)]; rw [rch_m (by omega) (by omega) (by omega)] else by rw [eJ9, pk_un e0]; exact hs j (by omega)) hT hw hS (lv_sub hl [0, 2, 3] rfl)
      · have hfv := vp (by omega)
        refine lv_aload_n S.1 S.2.1 d_R_progress_17 rfl (lv_at hl 1 rfl) ?_
        refine o_get (v := .ref (ma 1)) S hC kf_R hw.1 rfl 3 (by decide) q_694 rfl d_R_progress_18 ?_
        refine lv_iload_n S.1 S.2.1 d_R_progress_21 rfl (lv_at hl 0 rfl) ?_
        refine o_iald (j := k) S hC (mi_1 hw) (by decide) (by omega) d_R_progress_22 ?_
        refine tpi (y := nI (kd k)) (hT k (by omega)).1 ?_
        refine lv_iconst (v := 2) S.1 S.2.1 d_R_progress_23 (by decide) ?_
        refine lv_icmp_gt (tgt := 34) S.1 S.2.1 d_R_progress_24 (by decide) (fun _ => ?_) (fun hx9 => absurd (by rw [hkd]; decide) hx9)
        refine lv_aload_n S.1 S.2.1 d_R_progress_34 rfl (lv_at hl 1 rfl) ?_
        refine lv_aload_n S.1 S.2.1 d_R_progress_35 rfl (lv_at hl 1 rfl) ?_
        refine o_get (v := .ref (ma 14)) S hC kf_R hw.1 rfl 16 (by decide) q_709 rfl d_R_progress_36 ?_
        refine lv_aload_n S.1 S.2.1 d_R_progress_39 rfl (lv_at hl 1 rfl) ?_
        refine o_get (v := .ref (ma 3)) S hC kf_R hw.1 rfl 5 (by decide) q_696 rfl d_R_progress_40 ?_
        refine lv_iload_n S.1 S.2.1 d_R_progress_43 rfl (lv_at hl 0 rfl) ?_
        refine o_iald (j := k) S hC (mi_3 hw) (by decide) (by omega) d_R_progress_44 ?_
        refine tpi (y := nI (fi k)) (hT k (by omega)).2.2.1 ?_
        refine o_iald (j := fi k) S hC (mi_14 hw) (by decide) (by omega) d_R_progress_45 ?_
        refine tpi (y := nI (rc (fi k))) (hs _ (by omega)) ?_
        refine lv_aload_n S.1 S.2.1 d_R_progress_46 rfl (lv_at hl 1 rfl) ?_
        refine o_get (v := .ref (ma 14)) S hC kf_R hw.1 rfl 16 (by decide) q_709 rfl d_R_progress_47 ?_
        refine lv_aload_n S.1 S.2.1 d_R_progress_50 rfl (lv_at hl 1 rfl) ?_
        refine o_get (v := .ref (ma 4)) S hC kf_R hw.1 rfl 6 (by decide) q_697 rfl d_R_progress_51 ?_
        refine lv_iload_n S.1 S.2.1 d_R_progress_54 rfl (lv_at hl 0 rfl) ?_
        refine o_iald (j := k) S hC (mi_4 hw) (by decide) (by omega) d_R_progress_55 ?_
        refine tpi (y := nI (se k)) (hT k (by omega)).2.2.2.1 ?_
        refine o_iald (j := se k) S hC (mi_14 hw) (by decide) (by omega) d_R_progress_56 ?_
        refine tpi (y := nI (rc (se k))) (hs _ (by omega)) ?_
        have hl1 := hrl (fi k) (by omega)
        have hl2 := hrl (se k) (by omega)
        refine kVi (rest := []) S (c_R_lesser l (a := rc (fi k)) (b := rc (se k)) (by omega) (by omega)) kc_R_lesser ⟨q_879, q_881, qp_20⟩ rfl rfl ⟨Nat.le_of_ble_eq_true rfl, Nat.le_of_ble_eq_true rfl⟩ hC hS hA hw ⟨11, _, _, _, rfl, hw.1⟩ ⟨Nat.zero_le _, Nat.zero_le _⟩ hl.1 rfl rfl (Nat.le_of_ble_eq_true rfl) d_R_progress_57 (fun r er => ?_)
        subst er
        refine lv_istore_n S.1 S.2.1 d_R_progress_60 rfl hl (by decide) rfl (fun ls hl => ?_)
        have hl : lv_has ls 4 [(3, .int (nI (min (rc (fi k)) (rc (se k))))), (2, .int (nI k)), (0, .ref (ma 0)), (1, .int (nI f))] := hl
        refine lv_aload_n S.1 S.2.1 d_R_progress_61 rfl (lv_at hl 2 rfl) ?_
        refine o_get (v := .ref (ma 14)) S hC kf_R hw.1 rfl 16 (by decide) q_709 rfl d_R_progress_62 ?_
        refine lv_iload_n S.1 S.2.1 d_R_progress_65 rfl (lv_at hl 1 rfl) ?_
        refine lv_aload_n S.1 S.2.1 d_R_progress_66 rfl (lv_at hl 2 rfl) ?_
        refine o_get (v := .ref (ma 1)) S hC kf_R hw.1 rfl 3 (by decide) q_694 rfl d_R_progress_67 ?_
        refine lv_iload_n S.1 S.2.1 d_R_progress_70 rfl (lv_at hl 1 rfl) ?_
        refine o_iald (j := k) S hC (mi_1 hw) (by decide) (by omega) d_R_progress_71 ?_
        refine tpi (y := nI (kd k)) (hT k (by omega)).1 ?_
        refine lv_bipush (v := 7) S.1 S.2.1 d_R_progress_72 (by decide) ?_
        refine lv_icmp_ne (tgt := 91) S.1 S.2.1 d_R_progress_74 (by decide) (fun _ => ?_) (fun hx9 => absurd hx9 (by rw [hkd]; decide))
        refine lv_aload_n S.1 S.2.1 d_R_progress_91 rfl (lv_at hl 2 rfl) ?_
        refine o_get (v := .ref (ma 1)) S hC kf_R hw.1 rfl 3 (by decide) q_694 rfl d_R_progress_92 ?_
        refine lv_iload_n S.1 S.2.1 d_R_progress_95 rfl (lv_at hl 1 rfl) ?_
        refine o_iald (j := k) S hC (mi_1 hw) (by decide) (by omega) d_R_progress_96 ?_
        refine tpi (y := nI (kd k)) (hT k (by omega)).1 ?_
        refine lv_bipush (v := 9) S.1 S.2.1 d_R_progress_97 (by decide) ?_
        refine lv_icmp_ne (tgt := 111) S.1 S.2.1 d_R_progress_99 (by decide) (fun hx9 => absurd (by rw [hkd]; decide) hx9) (fun _ => ?_)
        refine lv_aload_n S.1 S.2.1 d_R_progress_102 rfl (lv_at hl 2 rfl) ?_
        refine lv_iload_n S.1 S.2.1 d_R_progress_103 rfl (lv_at hl 1 rfl) ?_
        refine lv_iload_n S.1 S.2.1 d_R_progress_104 rfl (lv_at hl 0 rfl) ?_
        refine kVi (rest := [.int (nI k), .ref (ma 14)]) S (c_R_decided l (f := k) (m2 := min (rc (fi k)) (rc (se k))) hT hn (by omega) (by omega) hpl) kc_R_decided ⟨q_883, q_885, qp_21⟩ rfl rfl ⟨Nat.le_of_ble_eq_true rfl, Nat.le_of_ble_eq_true rfl⟩ hC hS hA hw ⟨11, _, _, _, rfl, hw.1⟩ ⟨Nat.zero_le _, Nat.zero_le _⟩ hl.1 rfl rfl (Nat.le_of_ble_eq_true rfl) d_R_progress_105 (fun r er => ?_)
        subst er
        refine lv_goto (tgt := 112) S.1 S.2.1 d_R_progress_108 (by decide) ?_
        refine m_iast (i := k) (x := (nI (dcd (hi k) (g 7) pl (min (rc (fi k)) (rc (se k)))))) 14 S hC hD hw hS (by decide) (by decide) (by decide) (by decide) (show k < 12 by omega) d_R_progress_112 (fun H locs J10 eJ10 oJ10 hw hS => ?_)
        have hT : mT kd wh fi se lo hi J10 n := hT.to (fun p hp => oJ10 p (by omega))
        refine lv_iinc (v := nI (k + 1)) S.1 S.2.1 d_R_progress_113 hl (k := 1) rfl (nI_1 k) (by decide) rfl (fun ls hl => ?_)
        have hl : lv_has ls 4 [(2, .int (nI (k + 1))), (3, .int (nI (min (rc (fi k)) (rc (se k))))), (0, .ref (ma 0)), (1, .int (nI f))] := hl
        refine lv_goto (tgt := 12) S.1 S.2.1 d_R_progress_116 (by decide) ?_
        exact ih12 (k + 1) _ _ _ ls (by omega) (fun p hp => by rw [oJ10 p hp]; exact og p hp) (fun j hj => if e0 : j = k then by rw [e0, eJ10, pk_us, hrc k (by omega)]; rw [rch_9 hkd, og 7 (by decide)] else by rw [eJ10, pk_un e0]; exact hs j (by omega)) hT hw hS (lv_sub hl [0, 2, 3] rfl)
  exact key12 (f + 1) 0 J _ _ ls (by omega) (fun _ _ => rfl) (fun j hj => absurd hj (by omega)) hT hw hS (lv_sub hl [0, 1, 2] rfl)
set_option maxHeartbeats 4000000 in
set_option maxRecDepth 100000 in
theorem c_R_progress_n (l : Launch) {K : KT} {ma : Nat → Nat} {n pl : Nat} {wt : Int32} {J : Nat → Nat → Int32} {X : Nat → Int64} (hD : mD K ma) (hn : n ≤ 12) (f : Int32) (hno : ∀ k, k < n → ¬ f = nI k) : Met l y_R_progress (Cond.code y_R_progress b_R_progress 4 (some Jvm.ClassFile.FieldType.int) :: WALL) { frames := 1, cells := 0, slots := 0, locals := 21 } (pc0 K [.ref (ma 0), .int f] (fun H => mW K ma n wt pl J X H)) (va_Qi (fun r H => r = -1 ∧ mW K ma n wt pl J X H) (fun u t => t.heap = u) (mA ma)) 0 0 (mA ma) := by
  refine met0 (own := "MetricLogMonitorModel") (by decide) rfl (Nat.le_of_ble_eq_true rfl) (fun p e s m below meth c ls S hr hk hnm hC hH hl => ?_)
  have hl : lv_has ls 4 [(0, .ref (ma 0)), (1, .int f)] := hl
  have hS : va_S (mA ma) s.heap s.heap [] := va_S.rf
  have hA : ∀ q, (mA ma) q → kz K ≤ q := fun q h => by obtain ⟨i, hi, rfl⟩ := h; exact hD.2 i hi
  have hw := hH
  refine lv_aload_n S.1 S.2.1 d_R_progress_0 rfl (lv_at hl 0 rfl) ?_
  refine lv_iload_n S.1 S.2.1 d_R_progress_1 rfl (lv_at hl 1 rfl) ?_
  refine kVi (rest := []) S (c_R_isFormula l f) kc_R_isFormula ⟨q_769, q_771, qp_8⟩ rfl rfl ⟨Nat.le_of_ble_eq_true rfl, Nat.le_of_ble_eq_true rfl⟩ hC hS hA hw ⟨11, _, _, _, rfl, hw.1⟩ ⟨Nat.zero_le _, Nat.zero_le _⟩ hl.1 rfl rfl (Nat.le_of_ble_eq_true rfl) d_R_progress_2 (fun r er => ?_)
  subst er
  refine lv_if_ne (tgt := 10) S.1 S.2.1 d_R_progress_5 (by decide) (fun hx9 => absurd (isF_n (by omega) hno) hx9) (fun _ => ?_)
  refine lv_iconst (v := (-1)) S.1 S.2.1 d_R_progress_8 (by decide) ?_
  exact rw_i S hr hk hS d_R_progress_9 ⟨rfl, hw⟩
