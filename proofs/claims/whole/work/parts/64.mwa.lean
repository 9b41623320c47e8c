/-! the reference: watching -/
section
variable {kd wh fi se : Nat → Nat} {lo hi T P : Nat → Int32} {Z : Nat → Int64} {n N f i : Nat} {z : Int64}
/-- the sets are worked out for the formulas below f at all places, and for f at those below i -/
def zOk (kd wh fi se : Nat → Nat) (lo hi T P : Nat → Int32) (N f i : Nat) (Z : Nat → Int64) : Prop := ∀ f' i', (f' < f ∧ i' < N) ∨ (f' = f ∧ i' < i) → ∀ b, b < 64 → tb (Z (24 * f' + i')) b = sat kd wh fi se lo hi T P Z N f' i' b
theorem zOk_s (hV : tabOk kd wh fi se lo hi n) (hf : f < n) (hN : N ≤ 24) (hi9 : i < N) (h : zOk kd wh fi se lo hi T P N f i Z) (hz : ∀ b, b < 64 → tb z b = sat kd wh fi se lo hi T P Z N f i b) : zOk kd wh fi se lo hi T P N f (i + 1) (vp_updL Z (24 * f + i) z) := by
  intro f' i' hc b hb
  have hle : f' ≤ f := by omega
  have hiN : i' < N := by omega
  obtain ⟨v9, vw, vt, vp, vs9, vh9⟩ := hV f' (by omega)
  have hs : sat kd wh fi se lo hi T P (vp_updL Z (24 * f + i) z) N f' i' b = sat kd wh fi se lo hi T P Z N f' i' b := by
    refine sat_congr hb vw hiN (fun h3 j hj x hx => ?_) (fun h3 j hj x hx => ?_)
    · rw [pk_uLn (by have := (vp h3).1; omega)]
    · rw [pk_uLn (by have := (vp h3).2; omega)]
  rw [hs]
  by_cases e : f' = f ∧ i' = i
  · obtain ⟨rfl, rfl⟩ := e
    rw [pk_uLs]; exact hz b hb
  · rw [pk_uLn (by omega)]
    exact h f' i' (by omega) b hb
theorem zOk_n (h : zOk kd wh fi se lo hi T P N f N Z) : zOk kd wh fi se lo hi T P N (f + 1) 0 Z := fun f' i' hc b hb => h f' i' (by omega) b hb
/-- the reference counts a set's first representatives -/
def rfst (p : Nat → Bool) (fr : Nat → Bool) (n : Nat) : Bool := p n && !anyb (fun m => p m && agr fr n m) n
theorem rfst_eq {p fr : Nat → Bool} {n : Nat} (hn : n < 64) : rfst p fr n = first p (cn fr 3) n := by
  unfold rfst first
  congr 2
  rw [Bool.eq_iff_iff, anyb_iff, anyb_iff]
  constructor
  · rintro ⟨m, hm, h⟩
    exact ⟨m, hm, by rw [agr_cn fr hn (by omega)] at h; exact h⟩
  · rintro ⟨m, hm, h⟩
    exact ⟨m, hm, by rw [agr_cn fr hn (by omega)]; exact h⟩
theorem known_ge {x : Int32} {m : Nat} (hm : m < 2147483648) (h : ¬ x < 0) (hno : ∀ j, j < m → ¬ x = nI j) : nI m ≤ x := by
  rcases pk_ix x hm with h1 | h1 | ⟨j, hj, e⟩
  · exact absurd h1 h
  · exact h1
  · exact absurd e (hno j hj)
end
set_option maxHeartbeats 4000000 in
set_option maxRecDepth 100000 in
theorem c_R_empty (l : Launch) {K : KT} {ma : Nat → Nat} {n pl : Nat} {wt : Int32} {J : Nat → Nat → Int32} {X : Nat → Int64} (hD : mD K ma) : Met l y_R_empty (Cond.code y_R_empty b_R_empty 2 none :: WALL) { frames := 0, cells := 0, slots := 0, locals := 0 } (pc0 K [.ref (ma 0)] (fun H => mW K ma n wt pl J X H)) (va_Qv (fun H => ∃ J', (∀ p, p ≠ 9 → J' p = J p) ∧ (∀ r, r < 3 → J' 9 r = 0) ∧ mW K ma n wt 0 J' X H) (fun u t => t.heap = u) (mA ma)) 0 0 (mA ma) := by
  refine met0 (own := "MetricLogMonitorModel") (by decide) rfl (Nat.le_of_ble_eq_true rfl) (fun p e s m below meth c ls S hr hk hnm hC hH hl => ?_)
  have hl : lv_has ls 2 [(0, .ref (ma 0))] := hl
  have hS : va_S (mA ma) s.heap s.heap [] := va_S.rf
  have hA : ∀ q, (mA ma) q → kz K ≤ q := fun q h => by obtain ⟨i, hi, rfl⟩ := h; exact hD.2 i hi
  have hw := hH
  refine lv_aload_n S.1 S.2.1 d_R_empty_0 rfl (lv_at hl 0 rfl) ?_
  refine lv_iconst (v := 0) S.1 S.2.1 d_R_empty_1 (by decide) ?_
  refine tpi (y := nI 0) rfl ?_
  refine m_putp 0 S hC hD hw hS q_701 d_R_empty_2 (fun H locs hw hS => ?_)
  refine lv_iconst (v := 0) S.1 S.2.1 d_R_empty_5 (by decide) ?_
  refine lv_istore_n S.1 S.2.1 d_R_empty_6 rfl hl (by decide) rfl (fun ls hl => ?_)
  have hl : lv_has ls 2 [(1, .int 0), (0, .ref (ma 0))] := hl
  have key7 : ∀ (d7 : Nat) (r : Nat) (g : Nat → Nat → Int32) (H : Heap) (locs : List Loc) (ls : Array Slot), r + d7 = 3 → (∀ p, p ≠ 9 → g p = J p) → (∀ j, j < r → g 9 j = 0) → (mW K ma n wt 0 g X H) → (va_S (mA ma) s.heap H locs) → lv_has ls 2 [(1, .int (nI r)), (0, .ref (ma 0))] → W p l e ({ frames := 0, cells := 0, slots := 0, locals := 0 } : Room) s m ([.ref (ma 0)] : List Value).toArray below meth c H locs 0 0 (MQ below (va_Qv (fun H => ∃ J', (∀ p, p ≠ 9 → J' p = J p) ∧ (∀ r, r < 3 → J' 9 r = 0) ∧ mW K ma n wt 0 J' X H) (fun u t => t.heap = u) (mA ma)) ([.ref (ma 0)] : List Value).toArray s 0 0 (mA ma)) (F0 m 7 ls []) := by
    intro d7
    induction d7 with
    | zero =>
      intro r g H locs ls hd7 og hz hw hS hl
      refine lv_iload_n S.1 S.2.1 d_R_empty_7 rfl (lv_at hl 0 rfl) ?_
      refine lv_iconst (v := 3) S.1 S.2.1 d_R_empty_8 (by decide) ?_
      refine lv_icmp_ge (tgt := 25) S.1 S.2.1 d_R_empty_9 (by decide) (fun _ => ?_) (fun hx9 => absurd (by rw [show r = 3 by omega]; decide) hx9)
      exact rw_v S hr hk hS d_R_empty_25 ⟨g, og, (fun j hj => hz j (by omega)), hw⟩
    | succ d7 ih7 =>
      intro r g H locs ls hd7 og hz hw hS hl
      refine lv_iload_n S.1 S.2.1 d_R_empty_7 rfl (lv_at hl 0 rfl) ?_
      refine lv_iconst (v := 3) S.1 S.2.1 d_R_empty_8 (by decide) ?_
      refine lv_icmp_ge (tgt := 25) S.1 S.2.1 d_R_empty_9 (by decide) (fun hx9 => absurd hx9 (nI_ge (b := 3) (by omega) (by decide))) (fun _ => ?_)
      refine lv_aload_n S.1 S.2.1 d_R_empty_12 rfl (lv_at hl 1 rfl) ?_
      refine o_get (v := .ref (ma 9)) S hC kf_R hw.1 rfl 11 (by decide) q_704 rfl d_R_empty_13 ?_
      refine lv_iload_n S.1 S.2.1 d_R_empty_16 rfl (lv_at hl 0 rfl) ?_
      refine lv_iconst (v := 0) S.1 S.2.1 d_R_empty_17 (by decide) ?_
      refine m_iast (i := r) (x := 0) 9 S hC hD hw hS (by decide) (by decide) (by decide) (by decide) (show r < 3 by omega) d_R_empty_18 (fun H locs J1 eJ1 oJ1 hw hS => ?_)
      refine lv_iinc (v := nI (r + 1)) S.1 S.2.1 d_R_empty_19 hl (k := 0) rfl (nI_1 r) (by decide) rfl (fun ls hl => ?_)
      have hl : lv_has ls 2 [(1, .int (nI (r + 1))), (0, .ref (ma 0))] := hl
      refine lv_goto (tgt := 7) S.1 S.2.1 d_R_empty_22 (by decide) ?_
      exact ih7 (r + 1) _ _ _ ls (by omega) (fun p hp => by rw [oJ1 p hp]; exact og p hp) (fun j hj => if e0 : j = r then by rw [e0, eJ1, pk_us] else by rw [eJ1, pk_un e0]; exact hz j (by omega)) hw hS (lv_sub hl [0, 1] rfl)
  exact key7 3 0 J _ _ ls rfl (fun _ _ => rfl) (fun j hj => absurd hj (by omega)) hw hS (lv_sub hl [0, 1] rfl)
set_option maxHeartbeats 4000000 in
set_option maxRecDepth 100000 in
theorem c_R_watch (l : Launch) {K : KT} {ma : Nat → Nat} {n pl : Nat} {wt : Int32} {J : Nat → Nat → Int32} {X : Nat → Int64} (hD : mD K ma) : Met l y_R_watch (Cond.code y_R_watch b_R_watch 1 (some Jvm.ClassFile.FieldType.boolean) :: WALL) { frames := 1, cells := 0, slots := 0, locals := 21 } (pc0 K [.ref (ma 0)] (fun H => mW K ma n wt pl J X H)) (va_Qi (fun r H => ((wt = 0 ∧ ¬ nI n = 0) → r = 1 ∧ ∃ J', (∀ p, p ≠ 9 → J' p = J p) ∧ (∀ r, r < 3 → J' 9 r = 0) ∧ mW K ma n 1 0 J' X H) ∧ (¬ (wt = 0 ∧ ¬ nI n = 0) → r = 0 ∧ mW K ma n wt pl J X H)) (fun u t => t.heap = u) (mA ma)) 0 0 (mA ma) := by
  refine met0 (own := "MetricLogMonitorModel") (by decide) rfl (Nat.le_of_ble_eq_true rfl) (fun p e s m below meth c ls S hr hk hnm hC hH hl => ?_)
  have hl : lv_has ls 1 [(0, .ref (ma 0))] := hl
  have hS : va_S (mA ma) s.heap s.heap [] := va_S.rf
  have hA : ∀ q, (mA ma) q → kz K ≤ q := fun q h => by obtain ⟨i, hi, rfl⟩ := h; exact hD.2 i hi
  have hw := hH
  refine lv_aload_n S.1 S.2.1 d_R_watch_0 rfl (lv_at hl 0 rfl) ?_
  refine o_get (v := .int wt) S hC kf_R hw.1 rfl 1 (by decide) q_700 rfl d_R_watch_1 ?_
  refine lv_if_ne (tgt := 14) S.1 S.2.1 d_R_watch_4 (by decide) (fun hbr1 => ?_) (fun hbr1 => ?_)
  · refine lv_iconst (v := 0) S.1 S.2.1 d_R_watch_14 (by decide) ?_
    exact rw_z S hr hk rfl hS d_R_watch_15 ⟨fun h => absurd h.1 hbr1, fun _ => ⟨rfl, hw⟩⟩
  · refine lv_aload_n S.1 S.2.1 d_R_watch_7 rfl (lv_at hl 0 rfl) ?_
    refine o_get (v := .int (nI n)) S hC kf_R hw.1 rfl 0 (by decide) q_693 rfl d_R_watch_8 ?_
    refine lv_if_ne (tgt := 16) S.1 S.2.1 d_R_watch_11 (by decide) (fun hbr2 => ?_) (fun hbr2 => ?_)
    · refine lv_aload_n S.1 S.2.1 d_R_watch_16 rfl (lv_at hl 0 rfl) ?_
      refine kw_v (A := mA ma) (k_V (rest := []) S (c_R_empty l hD) kc_R_empty ⟨q_828, q_830, qp_12⟩ rfl rfl ⟨Nat.le_of_ble_eq_true rfl, Nat.le_of_ble_eq_true rfl⟩ hC hS hA hw ⟨11, _, _, _, rfl, hw.1⟩ rfl hl.1 rfl (Nat.le_of_ble_eq_true rfl) ⟨Nat.zero_le _, Nat.zero_le _⟩ d_R_watch_17) hS (fun q h => h) (fun H locs er hz hkp hS => ?_)
      obtain ⟨Ja, oJa, hz, hw⟩ := er
      refine lv_aload_n S.1 S.2.1 d_R_watch_20 rfl (lv_at hl 0 rfl) ?_
      refine lv_iconst (v := 1) S.1 S.2.1 d_R_watch_21 (by decide) ?_
      refine m_putw 1 S hC hD hw hS (by decide) q_700 d_R_watch_22 (fun H locs hw hS => ?_)
      refine lv_iconst (v := 1) S.1 S.2.1 d_R_watch_25 (by decide) ?_
      exact rw_z S hr hk rfl hS d_R_watch_26 ⟨fun _ => ⟨rfl, Ja, oJa, hz, hw⟩, fun h => absurd ⟨hbr1, hbr2⟩ h⟩
    · refine lv_iconst (v := 0) S.1 S.2.1 d_R_watch_14 (by decide) ?_
      exact rw_z S hr hk rfl hS d_R_watch_15 ⟨fun h => absurd hbr2 h.2, fun _ => ⟨rfl, hw⟩⟩
set_option maxHeartbeats 4000000 in
set_option maxRecDepth 100000 in
theorem c_R_stop (l : Launch) {K : KT} {ma : Nat → Nat} {n pl : Nat} {wt : Int32} {J : Nat → Nat → Int32} {X : Nat → Int64} (hD : mD K ma) (al : Int32) : Met l y_R_stop (Cond.code y_R_stop b_R_stop 2 none :: WALL) { frames := 1, cells := 0, slots := 0, locals := 21 } (pc0 K [.ref (ma 0), .int al] (fun H => mW K ma n wt pl J X H)) (va_Qv (fun H => (al = 0 → ∃ J', (∀ p, p ≠ 9 → J' p = J p) ∧ (∀ r, r < 3 → J' 9 r = 0) ∧ mW K ma n 0 0 J' X H) ∧ (¬ al = 0 → ∃ J', (∀ p, p ≠ 9 → J' p = J p) ∧ (∀ r, r < 3 → J' 9 r = 0) ∧ mW K ma 0 0 0 J' X H)) (fun u t => t.heap = u) (mA ma)) 0 0 (mA ma) := by
  refine met0 (own := "MetricLogMonitorModel") (by decide) rfl (Nat.le_of_ble_eq_true rfl) (fun p e s m below meth c ls S hr hk hnm hC hH hl => ?_)
  have hl : lv_has ls 2 [(0, .ref (ma 0)), (1, .int al)] := hl
  have hS : va_S (mA ma) s.heap s.heap [] := va_S.rf
  have hA : ∀ q, (mA ma) q → kz K ≤ q := fun q h => by obtain ⟨i, hi, rfl⟩ := h; exact hD.2 i hi
  have hw := hH
  refine lv_aload_n S.1 S.2.1 d_R_stop_0 rfl (lv_at hl 0 rfl) ?_
  refine lv_iconst (v := 0) S.1 S.2.1 d_R_stop_1 (by decide) ?_
  refine m_putw 0 S hC hD hw hS (by decide) q_700 d_R_stop_2 (fun H locs hw hS => ?_)
  refine lv_aload_n S.1 S.2.1 d_R_stop_5 rfl (lv_at hl 0 rfl) ?_
  refine kw_v (A := mA ma) (k_V (rest := []) S (c_R_empty l hD) kc_R_empty ⟨q_828, q_830, qp_12⟩ rfl rfl ⟨Nat.le_of_ble_eq_true rfl, Nat.le_of_ble_eq_true rfl⟩ hC hS hA hw ⟨11, _, _, _, rfl, hw.1⟩ rfl hl.1 rfl (Nat.le_of_ble_eq_true rfl) ⟨Nat.zero_le _, Nat.zero_le _⟩ d_R_stop_6) hS (fun q h => h) (fun H locs er hz hkp hS => ?_)
  obtain ⟨Ja, oJa, hz, hw⟩ := er
  refine lv_aload_n S.1 S.2.1 d_R_stop_9 rfl (lv_at hl 0 rfl) ?_
  refine lv_iload_n S.1 S.2.1 d_R_stop_10 rfl (lv_at hl 1 rfl) ?_
  refine lv_if_eq (tgt := 18) S.1 S.2.1 d_R_stop_11 (by decide) (fun hbr1 => ?_) (fun hbr1 => ?_)
  · refine lv_aload_n S.1 S.2.1 d_R_stop_18 rfl (lv_at hl 0 rfl) ?_
    refine o_get (v := .int (nI n)) S hC kf_R hw.1 rfl 0 (by decide) q_693 rfl d_R_stop_19 ?_
    refine m_putn n S hC hD hw hS q_693 d_R_stop_22 (fun H locs hw hS => ?_)
    exact rw_v S hr hk hS d_R_stop_25 ⟨fun _ => ⟨Ja, oJa, hz, hw⟩, fun z => absurd hbr1 z⟩
  · refine lv_iconst (v := 0) S.1 S.2.1 d_R_stop_14 (by decide) ?_
    refine lv_goto (tgt := 22) S.1 S.2.1 d_R_stop_15 (by decide) ?_
    refine tpi (y := nI 0) rfl ?_
    refine m_putn 0 S hC hD hw hS q_693 d_R_stop_22 (fun H locs hw hS => ?_)
    exact rw_v S hr hk hS d_R_stop_25 ⟨fun z => absurd z hbr1, fun _ => ⟨Ja, oJa, hz, hw⟩⟩
set_option maxHeartbeats 4000000 in
set_option maxRecDepth 100000 in
theorem c_R_gather_y (l : Launch) {K : KT} {ma : Nat → Nat} {n pl : Nat} {wt : Int32} {J : Nat → Nat → Int32} {X : Nat → Int64} {r a b : Nat} (hD : mD K ma) (hwt : ¬ wt = 0) (hr3 : r < 3) (ha : a < 4) (hb : b < 4) : Met l y_R_gather (Cond.code y_R_gather b_R_gather 5 (some Jvm.ClassFile.FieldType.boolean) :: WALL) { frames := 0, cells := 0, slots := 0, locals := 0 } (pc0 K [.ref (ma 0), .int (nI r), .int (nI a), .int (nI b)] (fun H => mW K ma n wt pl J X H)) (va_Qi (fun q H => q = bI (!bt (J 9 r) (a + 4 * b)) ∧ ∃ J', (∀ p, p ≠ 9 → J' p = J p) ∧ J' 9 = upd (J 9) r (J 9 r ||| ((1 : Int32) <<< ((nI (a + 4 * b) : Int32) &&& 31))) ∧ mW K ma n wt pl J' X H) (fun u t => t.heap = u) (mA ma)) 0 0 (mA ma) := by
  refine met0 (own := "MetricLogMonitorModel") (by decide) rfl (Nat.le_of_ble_eq_true rfl) (fun p e s m below meth c ls S hr hk hnm hC hH hl => ?_)
  have hl : lv_has ls 5 [(0, .ref (ma 0)), (1, .int (nI r)), (2, .int (nI a)), (3, .int (nI b))] := hl
  have hS : va_S (mA ma) s.heap s.heap [] := va_S.rf
  have hA : ∀ q, (mA ma) q → kz K ≤ q := fun q h => by obtain ⟨i, hi, rfl⟩ := h; exact hD.2 i hi
  have hw := hH
  refine lv_aload_n S.1 S.2.1 d_R_gather_0 rfl (lv_at hl 0 rfl) ?_
  refine o_get (v := .int wt) S hC kf_R hw.1 rfl 1 (by decide) q_700 rfl d_R_gather_1 ?_
  refine lv_if_eq (tgt := 34) S.1 S.2.1 d_R_gather_4 (by decide) (fun hx9 => absurd hx9 hwt) (fun _ => ?_)
  refine lv_iload_n S.1 S.2.1 d_R_gather_7 rfl (lv_at hl 1 rfl) ?_
  refine lv_if_lt (tgt := 34) S.1 S.2.1 d_R_gather_8 (by decide) (fun hx9 => absurd hx9 (nI_pos (by omega))) (fun _ => ?_)
  refine lv_iload_n S.1 S.2.1 d_R_gather_11 rfl (lv_at hl 1 rfl) ?_
  refine lv_iconst (v := 2) S.1 S.2.1 d_R_gather_12 (by decide) ?_
  refine lv_icmp_gt (tgt := 34) S.1 S.2.1 d_R_gather_13 (by decide) (fun hx9 => absurd hx9 (nI_nlt (a := 2) (by omega) (by decide))) (fun _ => ?_)
  refine lv_iload_n S.1 S.2.1 d_R_gather_16 rfl (lv_at hl 2 rfl) ?_
  refine lv_if_lt (tgt := 34) S.1 S.2.1 d_R_gather_17 (by decide) (fun hx9 => absurd hx9 (nI_pos (by omega))) (fun _ => ?_)
  refine lv_iload_n S.1 S.2.1 d_R_gather_20 rfl (lv_at hl 2 rfl) ?_
  refine lv_iconst (v := 3) S.1 S.2.1 d_R_gather_21 (by decide) ?_
  refine lv_icmp_gt (tgt := 34) S.1 S.2.1 d_R_gather_22 (by decide) (fun hx9 => absurd hx9 (nI_nlt (a := 3) (by omega) (by decide))) (fun _ => ?_)
  refine lv_iload_n S.1 S.2.1 d_R_gather_25 rfl (lv_at hl 3 rfl) ?_
  refine lv_if_lt (tgt := 34) S.1 S.2.1 d_R_gather_26 (by decide) (fun hx9 => absurd hx9 (nI_pos (by omega))) (fun _ => ?_)
  refine lv_iload_n S.1 S.2.1 d_R_gather_29 rfl (lv_at hl 3 rfl) ?_
  refine lv_iconst (v := 3) S.1 S.2.1 d_R_gather_30 (by decide) ?_
  refine lv_icmp_le (tgt := 36) S.1 S.2.1 d_R_gather_31 (by decide) (fun _ => ?_) (fun hx9 => absurd (nI_le (b := 3) (by omega) (by decide)) hx9)
  refine lv_aload_n S.1 S.2.1 d_R_gather_36 rfl (lv_at hl 0 rfl) ?_
  refine o_get (v := .ref (ma 9)) S hC kf_R hw.1 rfl 11 (by decide) q_704 rfl d_R_gather_37 ?_
  refine lv_iload_n S.1 S.2.1 d_R_gather_40 rfl (lv_at hl 1 rfl) ?_
  refine o_iald (j := r) S hC (mi_9 hw) (by decide) (by omega) d_R_gather_41 ?_
  refine lv_iload_n S.1 S.2.1 d_R_gather_42 rfl (lv_at hl 2 rfl) ?_
  refine lv_iconst (v := 4) S.1 S.2.1 d_R_gather_43 (by decide) ?_
  refine lv_iload_n S.1 S.2.1 d_R_gather_44 rfl (lv_at hl 3 rfl) ?_
  refine lv_imul S.1 S.2.1 d_R_gather_45 ?_
  refine lv_iadd S.1 S.2.1 d_R_gather_46 ?_
  refine tpi (y := nI (a + 4 * b)) (by rw [show (4 : Int32) = nI 4 from rfl, pk_mul, nI_add]) ?_
  refine lv_ishr S.1 S.2.1 d_R_gather_47 ?_
  refine lv_iconst (v := 1) S.1 S.2.1 d_R_gather_48 (by decide) ?_
  refine lv_iand S.1 S.2.1 d_R_gather_49 ?_
  refine lv_iconst (v := 1) S.1 S.2.1 d_R_gather_50 (by decide) ?_
  refine lv_icmp_ne (tgt := 58) S.1 S.2.1 d_R_gather_51 (by decide) (fun hbr1 => ?_) (fun hbr1 => ?_)
  · refine lv_iconst (v := 0) S.1 S.2.1 d_R_gather_58 (by decide) ?_
    refine lv_istore S.1 S.2.1 d_R_gather_59 hl (by decide) rfl (fun ls hl => ?_)
    have hl : lv_has ls 5 [(4, .int 0), (0, .ref (ma 0)), (1, .int (nI r)), (2, .int (nI a)), (3, .int (nI b))] := hl
    refine lv_aload_n S.1 S.2.1 d_R_gather_61 rfl (lv_at hl 1 rfl) ?_
    refine o_get (v := .ref (ma 9)) S hC kf_R hw.1 rfl 11 (by decide) q_704 rfl d_R_gather_62 ?_
    refine lv_iload_n S.1 S.2.1 d_R_gather_65 rfl (lv_at hl 2 rfl) ?_
    refine lv_aload_n S.1 S.2.1 d_R_gather_66 rfl (lv_at hl 1 rfl) ?_
    refine o_get (v := .ref (ma 9)) S hC kf_R hw.1 rfl 11 (by decide) q_704 rfl d_R_gather_67 ?_
    refine lv_iload_n S.1 S.2.1 d_R_gather_70 rfl (lv_at hl 2 rfl) ?_
    refine o_iald (j := r) S hC (mi_9 hw) (by decide) (by omega) d_R_gather_71 ?_
    refine lv_iconst (v := 1) S.1 S.2.1 d_R_gather_72 (by decide) ?_
    refine lv_iload_n S.1 S.2.1 d_R_gather_73 rfl (lv_at hl 3 rfl) ?_
    refine lv_iconst (v := 4) S.1 S.2.1 d_R_gather_74 (by decide) ?_
    refine lv_iload_n S.1 S.2.1 d_R_gather_75 rfl (lv_at hl 4 rfl) ?_
    refine lv_imul S.1 S.2.1 d_R_gather_76 ?_
    refine lv_iadd S.1 S.2.1 d_R_gather_77 ?_
    refine tpi (y := nI (a + 4 * b)) (by rw [show (4 : Int32) = nI 4 from rfl, pk_mul, nI_add]) ?_
    refine lv_ishl S.1 S.2.1 d_R_gather_78 ?_
    refine lv_ior S.1 S.2.1 d_R_gather_79 ?_
    refine m_iast (i := r) (x := ((J 9 r) ||| ((1 : Int32) <<< ((nI (a + 4 * b) : Int32) &&& 31)))) 9 S hC hD hw hS (by decide) (by decide) (by decide) (by decide) (show r < 3 by omega) d_R_gather_80 (fun H locs J1 eJ1 oJ1 hw hS => ?_)
    refine lv_iload S.1 S.2.1 d_R_gather_81 (lv_at hl 0 rfl) ?_
    refine lv_if_ne (tgt := 90) S.1 S.2.1 d_R_gather_83 (by decide) (fun hx9 => absurd rfl hx9) (fun _ => ?_)
    refine lv_iconst (v := 1) S.1 S.2.1 d_R_gather_86 (by decide) ?_
    refine lv_goto (tgt := 91) S.1 S.2.1 d_R_gather_87 (by decide) ?_
    exact rw_z S hr hk rfl hS d_R_gather_91 ⟨(bI_t (by rw [bnot (fun z => hbr1 ((b_tst_one _ (by omega)).mpr z))]; rfl)), J1, oJ1, eJ1, hw⟩
  · refine lv_iconst (v := 1) S.1 S.2.1 d_R_gather_54 (by decide) ?_
    refine lv_goto (tgt := 59) S.1 S.2.1 d_R_gather_55 (by decide) ?_
    refine lv_istore S.1 S.2.1 d_R_gather_59 hl (by decide) rfl (fun ls hl => ?_)
    have hl : lv_has ls 5 [(4, .int 1), (0, .ref (ma 0)), (1, .int (nI r)), (2, .int (nI a)), (3, .int (nI b))] := hl
    refine lv_aload_n S.1 S.2.1 d_R_gather_61 rfl (lv_at hl 1 rfl) ?_
    refine o_get (v := .ref (ma 9)) S hC kf_R hw.1 rfl 11 (by decide) q_704 rfl d_R_gather_62 ?_
    refine lv_iload_n S.1 S.2.1 d_R_gather_65 rfl (lv_at hl 2 rfl) ?_
    refine lv_aload_n S.1 S.2.1 d_R_gather_66 rfl (lv_at hl 1 rfl) ?_
    refine o_get (v := .ref (ma 9)) S hC kf_R hw.1 rfl 11 (by decide) q_704 rfl d_R_gather_67 ?_
    refine lv_iload_n S.1 S.2.1 d_R_gather_70 rfl (lv_at hl 2 rfl) ?_
    refine o_iald (j := r) S hC (mi_9 hw) (by decide) (by omega) d_R_gather_71 ?_
    refine lv_iconst (v := 1) S.1 S.2.1 d_R_gather_72 (by decide) ?_
    refine lv_iload_n S.1 S.2.1 d_R_gather_73 rfl (lv_at hl 3 rfl) ?_
    refine lv_iconst (v := 4) S.1 S.2.1 d_R_gather_74 (by decide) ?_
    refine lv_iload_n S.1 S.2.1 d_R_gather_75 rfl (lv_at hl 4 rfl) ?_
    refine lv_imul S.1 S.2.1 d_R_gather_76 ?_
    refine lv_iadd S.1 S.2.1 d_R_gather_77 ?_
    refine tpi (y := nI (a + 4 * b)) (by rw [show (4 : Int32) = nI 4 from rfl, pk_mul, nI_add]) ?_
    refine lv_ishl S.1 S.2.1 d_R_gather_78 ?_
    refine lv_ior S.1 S.2.1 d_R_gather_79 ?_
    refine m_iast (i := r) (x := ((J 9 r) ||| ((1 : Int32) <<< ((nI (a + 4 * b) : Int32) &&& 31)))) 9 S hC hD hw hS (by decide) (by decide) (by decide) (by decide) (show r < 3 by omega) d_R_gather_80 (fun H locs J2 eJ2 oJ2 hw hS => ?_)
    refine lv_iload S.1 S.2.1 d_R_gather_81 (lv_at hl 0 rfl) ?_
    refine lv_if_ne (tgt := 90) S.1 S.2.1 d_R_gather_83 (by decide) (fun _ => ?_) (fun hx9 => absurd hx9 (by decide))
    refine lv_iconst (v := 0) S.1 S.2.1 d_R_gather_90 (by decide) ?_
    exact rw_z S hr hk rfl hS d_R_gather_91 ⟨(bI_f (by rw [(b_tst_one _ (by omega)).mp hbr1]; rfl)), J2, oJ2, eJ2, hw⟩
set_option maxHeartbeats 4000000 in
set_option maxRecDepth 100000 in
theorem c_R_gather_n (l : Launch) {K : KT} {ma : Nat → Nat} {n pl : Nat} {wt : Int32} {J : Nat → Nat → Int32} {X : Nat → Int64} (hD : mD K ma) (x a b : Int32) (hno : ¬ (¬ wt = 0 ∧ ¬ x < 0 ∧ ¬ 2 < x ∧ ¬ a < 0 ∧ ¬ 3 < a ∧ ¬ b < 0 ∧ b ≤ 3)) : Met l y_R_gather (Cond.code y_R_gather b_R_gather 5 (some Jvm.ClassFile.FieldType.boolean) :: WALL) { frames := 0, cells := 0, slots := 0, locals := 0 } (pc0 K [.ref (ma 0), .int x, .int a, .int b] (fun H => mW K ma n wt pl J X H)) (va_Qi (fun q H => q = 0 ∧ mW K ma n wt pl J X H) (fun u t => t.heap = u) (mA ma)) 0 0 (mA ma) := by
  refine met0 (own := "MetricLogMonitorModel") (by decide) rfl (Nat.le_of_ble_eq_true rfl) (fun p e s m below meth c ls S hr hk hnm hC hH hl => ?_)
  have hl : lv_has ls 5 [(0, .ref (ma 0)), (1, .int x), (2, .int a), (3, .int b)] := hl
  have hS : va_S (mA ma) s.heap s.heap [] := va_S.rf
  have hA : ∀ q, (mA ma) q → kz K ≤ q := fun q h => by obtain ⟨i, hi, rfl⟩ := h; exact hD.2 i hi
  have hw := hH
  refine lv_aload_n S.1 S.2.1 d_R_gather_0 rfl (lv_at hl 0 rfl) ?_
  refine o_get (v := .int wt) S hC kf_R hw.1 rfl 1 (by decide) q_700 rfl d_R_gather_1 ?_
  refine lv_if_eq (tgt := 34) S.1 S.2.1 d_R_gather_4 (by decide) (fun hbr1 => ?_) (fun hbr1 => ?_)
  · refine lv_iconst (v := 0) S.1 S.2.1 d_R_gather_34 (by decide) ?_
    exact rw_z S hr hk rfl hS d_R_gather_35 ⟨rfl, hw⟩
  · refine lv_iload_n S.1 S.2.1 d_R_gather_7 rfl (lv_at hl 1 rfl) ?_
    refine lv_if_lt (tgt := 34) S.1 S.2.1 d_R_gather_8 (by decide) (fun hbr2 => ?_) (fun hbr2 => ?_)
    · refine lv_iconst (v := 0) S.1 S.2.1 d_R_gather_34 (by decide) ?_
      exact rw_z S hr hk rfl hS d_R_gather_35 ⟨rfl, hw⟩
    · refine lv_iload_n S.1 S.2.1 d_R_gather_11 rfl (lv_at hl 1 rfl) ?_
      refine lv_iconst (v := 2) S.1 S.2.1 d_R_gather_12 (by decide) ?_
      refine lv_icmp_gt (tgt := 34) S.1 S.2.1 d_R_gather_13 (by decide) (fun hbr3 => ?_) (fun hbr3 => ?_)
      · refine lv_iconst (v := 0) S.1 S.2.1 d_R_gather_34 (by decide) ?_
        exact rw_z S hr hk rfl hS d_R_gather_35 ⟨rfl, hw⟩
      · refine lv_iload_n S.1 S.2.1 d_R_gather_16 rfl (lv_at hl 2 rfl) ?_
        refine lv_if_lt (tgt := 34) S.1 S.2.1 d_R_gather_17 (by decide) (fun hbr4 => ?_) (fun hbr4 => ?_)
        · refine lv_iconst (v := 0) S.1 S.2.1 d_R_gather_34 (by decide) ?_
          exact rw_z S hr hk rfl hS d_R_gather_35 ⟨rfl, hw⟩
        · refine lv_iload_n S.1 S.2.1 d_R_gather_20 rfl (lv_at hl 2 rfl) ?_
          refine lv_iconst (v := 3) S.1 S.2.1 d_R_gather_21 (by decide) ?_
          refine lv_icmp_gt (tgt := 34) S.1 S.2.1 d_R_gather_22 (by decide) (fun hbr5 => ?_) (fun hbr5 => ?_)
          · refine lv_iconst (v := 0) S.1 S.2.1 d_R_gather_34 (by decide) ?_
            exact rw_z S hr hk rfl hS d_R_gather_35 ⟨rfl, hw⟩
          · refine lv_iload_n S.1 S.2.1 d_R_gather_25 rfl (lv_at hl 3 rfl) ?_
            refine lv_if_lt (tgt := 34) S.1 S.2.1 d_R_gather_26 (by decide) (fun hbr6 => ?_) (fun hbr6 => ?_)
            · refine lv_iconst (v := 0) S.1 S.2.1 d_R_gather_34 (by decide) ?_
              exact rw_z S hr hk rfl hS d_R_gather_35 ⟨rfl, hw⟩
            · refine lv_iload_n S.1 S.2.1 d_R_gather_29 rfl (lv_at hl 3 rfl) ?_
              refine lv_iconst (v := 3) S.1 S.2.1 d_R_gather_30 (by decide) ?_
              refine lv_icmp_le (tgt := 36) S.1 S.2.1 d_R_gather_31 (by decide) (fun hbr7 => ?_) (fun hbr7 => ?_)
              · exact absurd ⟨hbr1, hbr2, hbr3, hbr4, hbr5, hbr6, hbr7⟩ hno
              · refine lv_iconst (v := 0) S.1 S.2.1 d_R_gather_34 (by decide) ?_
                exact rw_z S hr hk rfl hS d_R_gather_35 ⟨rfl, hw⟩
set_option maxHeartbeats 4000000 in
set_option maxRecDepth 100000 in
theorem c_R_look (l : Launch) {K : KT} {ma : Nat → Nat} {n pl : Nat} {wt : Int32} {J : Nat → Nat → Int32} {X : Nat → Int64} {kd wh fi se : Nat → Nat} {lo hi : Nat → Int32} {f i : Nat} (hD : mD K ma) (hT : mT kd wh fi se lo hi J n) (hV : tabOk kd wh fi se lo hi n) (hn : n ≤ 12) (hf : f < n) (hi2 : i < pl) (hpl : pl ≤ 24) : Met l y_R_look (Cond.code y_R_look b_R_look 6 none :: WALL) { frames := 3, cells := 0, slots := 0, locals := 74 } (pc0 K [.ref (ma 0), .int (nI f), .int (nI i)] (fun H => mW K ma n wt pl J X H)) (va_Qv (fun H => ∃ z, (∀ b, b < 64 → tb z b = sat kd wh fi se lo hi (J 7) (J 8) X pl f i b) ∧ mW K ma n wt pl J (vp_updL X (24 * f + i) z) H) (fun u t => t.heap = u) (mA ma)) 0 0 (mA ma) := by
  refine met0 (own := "MetricLogMonitorModel") (by decide) rfl (Nat.le_of_ble_eq_true rfl) (fun p e s m below meth c ls S hr hk hnm hC hH hl => ?_)
  have hl : lv_has ls 6 [(0, .ref (ma 0)), (1, .int (nI f)), (2, .int (nI i))] := hl
  have hS : va_S (mA ma) s.heap s.heap [] := va_S.rf
  have hA : ∀ q, (mA ma) q → kz K ≤ q := fun q h => by obtain ⟨i, hi, rfl⟩ := h; exact hD.2 i hi
  have hw := hH
  refine lv_lconst (v := 0) S.1 S.2.1 d_R_look_0 (by decide) ?_
  refine lv_lstore_n S.1 S.2.1 d_R_look_1 rfl hl (by decide) rfl (fun ls hl => ?_)
  have hl : lv_has ls 6 [(3, .long 0), (0, .ref (ma 0)), (1, .int (nI f)), (2, .int (nI i))] := hl
  refine lv_iconst (v := 0) S.1 S.2.1 d_R_look_2 (by decide) ?_
  refine lv_istore S.1 S.2.1 d_R_look_3 hl (by decide) rfl (fun ls hl => ?_)
  have hl : lv_has ls 6 [(5, .int 0), (3, .long 0), (0, .ref (ma 0)), (1, .int (nI f)), (2, .int (nI i))] := hl
  have key5 : ∀ (d5 : Nat) (n2 : Nat) (x : Int64) (H : Heap) (locs : List Loc) (ls : Array Slot), n2 + d5 = 64 → (bld (sat kd wh fi se lo hi (J 7) (J 8) X pl f i) n2 x) → (mW K ma n wt pl J X H) → (va_S (mA ma) s.heap H locs) → lv_has ls 6 [(5, .int (nI n2)), (3, .long x), (0, .ref (ma 0)), (1, .int (nI f)), (2, .int (nI i))] → W p l e ({ frames := 3, cells := 0, slots := 0, locals := 74 } : Room) s m ([.ref (ma 0), .int (nI f), .int (nI i)] : List Value).toArray below meth c H locs 0 0 (MQ below (va_Qv (fun H => ∃ z, (∀ b, b < 64 → tb z b = sat kd wh fi se lo hi (J 7) (J 8) X pl f i b) ∧ mW K ma n wt pl J (vp_updL X (24 * f + i) z) H) (fun u t => t.heap = u) (mA ma)) ([.ref (ma 0), .int (nI f), .int (nI i)] : List Value).toArray s 0 0 (mA ma)) (F0 m 5 ls []) := by
    intro d5
    induction d5 with
    | zero =>
      intro n2 x H locs ls hd5 hI hw hS hl
      obtain rfl : n2 = 64 := by omega
      refine lv_iload S.1 S.2.1 d_R_look_5 (lv_at hl 0 rfl) ?_
      refine lv_bipush (v := 64) S.1 S.2.1 d_R_look_7 (by decide) ?_
      refine lv_icmp_ge (tgt := 40) S.1 S.2.1 d_R_look_9 (by decide) (fun _ => ?_) (fun hx9 => absurd (by decide) hx9)
      refine lv_aload_n S.1 S.2.1 d_R_look_40 rfl (lv_at hl 2 rfl) ?_
      refine o_get (v := .ref (ma 10)) S hC kf_R hw.1 rfl 12 (by decide) q_705 rfl d_R_look_41 ?_
      refine lv_bipush (v := 24) S.1 S.2.1 d_R_look_44 (by decide) ?_
      refine lv_iload_n S.1 S.2.1 d_R_look_46 rfl (lv_at hl 3 rfl) ?_
      refine lv_imul S.1 S.2.1 d_R_look_47 ?_
      refine lv_iload_n S.1 S.2.1 d_R_look_48 rfl (lv_at hl 4 rfl) ?_
      refine lv_iadd S.1 S.2.1 d_R_look_49 ?_
      refine lv_lload_n S.1 S.2.1 d_R_look_50 rfl (lv_at hl 1 rfl) ?_
      rw [ix24]
      refine m_last (i := 24 * f + i) (x := x) S hC hD hw hS (by omega) d_R_look_51 (fun H locs hw hS => ?_)
      exact rw_v S hr hk hS d_R_look_52 ⟨x, bld_64 hI, hw⟩
    | succ d5 ih5 =>
      intro n2 x H locs ls hd5 hI hw hS hl
      refine lv_iload S.1 S.2.1 d_R_look_5 (lv_at hl 0 rfl) ?_
      refine lv_bipush (v := 64) S.1 S.2.1 d_R_look_7 (by decide) ?_
      refine lv_icmp_ge (tgt := 40) S.1 S.2.1 d_R_look_9 (by decide) (fun hx9 => absurd hx9 (nI_ge (b := 64) (by omega) (by decide))) (fun _ => ?_)
      refine lv_aload_n S.1 S.2.1 d_R_look_12 rfl (lv_at hl 2 rfl) ?_
      refine lv_iload_n S.1 S.2.1 d_R_look_13 rfl (lv_at hl 3 rfl) ?_
      refine lv_iload_n S.1 S.2.1 d_R_look_14 rfl (lv_at hl 4 rfl) ?_
      refine lv_iload S.1 S.2.1 d_R_look_15 (lv_at hl 0 rfl) ?_
      refine kVi (rest := []) S (c_R_satisfies l (f := f) (i := i) (b := n2) hT hV hn hf (by omega) hi2 hpl) kc_R_satisfies ⟨q_844, q_846, qp_14⟩ rfl rfl ⟨Nat.le_of_ble_eq_true rfl, Nat.le_of_ble_eq_true rfl⟩ hC hS hA hw ⟨11, _, _, _, rfl, hw.1⟩ ⟨Nat.zero_le _, Nat.zero_le _⟩ hl.1 rfl rfl (Nat.le_of_ble_eq_true rfl) d_R_look_17 (fun r er => ?_)
      subst er
      refine lv_if_eq (tgt := 32) S.1 S.2.1 d_R_look_20 (by decide) (fun hbr1 => ?_) (fun hbr1 => ?_)
      · refine lv_lload_n S.1 S.2.1 d_R_look_32 rfl (lv_at hl 1 rfl) ?_
        refine lv_lstore_n S.1 S.2.1 d_R_look_33 rfl hl (by decide) rfl (fun ls hl => ?_)
        have hl : lv_has ls 6 [(3, .long x), (5, .int (nI n2)), (0, .ref (ma 0)), (1, .int (nI f)), (2, .int (nI i))] := hl
        refine lv_iinc (v := nI (n2 + 1)) S.1 S.2.1 d_R_look_34 hl (k := 1) rfl (nI_1 n2) (by decide) rfl (fun ls hl => ?_)
        have hl : lv_has ls 6 [(5, .int (nI (n2 + 1))), (3, .long x), (0, .ref (ma 0)), (1, .int (nI f)), (2, .int (nI i))] := hl
        refine lv_goto (tgt := 5) S.1 S.2.1 d_R_look_37 (by decide) ?_
        exact ih5 (n2 + 1) x _ _ ls (by omega) (bld_f hI (bI_0.mp hbr1)) hw hS (lv_sub hl [0, 1, 2, 3, 4] rfl)
      · refine lv_lload_n S.1 S.2.1 d_R_look_23 rfl (lv_at hl 1 rfl) ?_
        refine lv_lconst (v := 1) S.1 S.2.1 d_R_look_24 (by decide) ?_
        refine lv_iload S.1 S.2.1 d_R_look_25 (lv_at hl 0 rfl) ?_
        refine lv_lshl (v := ((1 : Int64) <<< ((nI n2 : Int32).toInt64 &&& 63))) S.1 S.2.1 d_R_look_27 rfl ?_
        refine lv_lor S.1 S.2.1 d_R_look_28 ?_
        refine lv_goto (tgt := 33) S.1 S.2.1 d_R_look_29 (by decide) ?_
        refine lv_lstore_n S.1 S.2.1 d_R_look_33 rfl hl (by decide) rfl (fun ls hl => ?_)
        have hl : lv_has ls 6 [(3, .long (x ||| ((1 : Int64) <<< ((nI n2 : Int32).toInt64 &&& 63)))), (5, .int (nI n2)), (0, .ref (ma 0)), (1, .int (nI f)), (2, .int (nI i))] := hl
        refine lv_iinc (v := nI (n2 + 1)) S.1 S.2.1 d_R_look_34 hl (k := 1) rfl (nI_1 n2) (by decide) rfl (fun ls hl => ?_)
        have hl : lv_has ls 6 [(5, .int (nI (n2 + 1))), (3, .long (x ||| ((1 : Int64) <<< ((nI n2 : Int32).toInt64 &&& 63)))), (0, .ref (ma 0)), (1, .int (nI f)), (2, .int (nI i))] := hl
        refine lv_goto (tgt := 5) S.1 S.2.1 d_R_look_37 (by decide) ?_
        exact ih5 (n2 + 1) _ _ _ ls (by omega) (bld_t (by omega) hI (bI_n hbr1)) hw hS (lv_sub hl [0, 1, 2, 3, 4] rfl)
  exact key5 64 0 0 _ _ ls rfl (bld_0 _) hw hS (lv_sub hl [0, 1, 2, 3, 4] rfl)
set_option maxHeartbeats 4000000 in
set_option maxRecDepth 100000 in
theorem c_R_place_n (l : Launch) {K : KT} {ma : Nat → Nat} {n pl : Nat} {wt : Int32} {J : Nat → Nat → Int32} {X : Nat → Int64} (hD : mD K ma) (t : Int32) (hpl : pl ≤ 24) (hno : ¬ (¬ wt = 0 ∧ ¬ t < 0 ∧ ¬ 1000000 < t ∧ ¬ 24 ≤ nI pl ∧ (nI pl ≤ 0 ∨ J 7 (pl - 1) ≤ t))) : Met l y_R_place (Cond.code y_R_place b_R_place 4 (some Jvm.ClassFile.FieldType.int) :: WALL) { frames := 0, cells := 0, slots := 0, locals := 0 } (pc0 K [.ref (ma 0), .int t] (fun H => mW K ma n wt pl J X H)) (va_Qi (fun q H => q = -1 ∧ mW K ma n wt pl J X H) (fun u t => t.heap = u) (mA ma)) 0 0 (mA ma) := by
  refine met0 (own := "MetricLogMonitorModel") (by decide) rfl (Nat.le_of_ble_eq_true rfl) (fun p e s m below meth c ls S hr hk hnm hC hH hl => ?_)
  have hl : lv_has ls 4 [(0, .ref (ma 0)), (1, .int t)] := hl
  have hS : va_S (mA ma) s.heap s.heap [] := va_S.rf
  have hA : ∀ q, (mA ma) q → kz K ≤ q := fun q h => by obtain ⟨i, hi, rfl⟩ := h; exact hD.2 i hi
  have hw := hH
  refine lv_aload_n S.1 S.2.1 d_R_place_0 rfl (lv_at hl 0 rfl) ?_
  refine o_get (v := .int wt) S hC kf_R hw.1 rfl 1 (by decide) q_700 rfl d_R_place_1 ?_
  refine lv_if_eq (tgt := 48) S.1 S.2.1 d_R_place_4 (by decide) (fun hbr1 => ?_) (fun hbr1 => ?_)
  · refine lv_iconst (v := (-1)) S.1 S.2.1 d_R_place_48 (by decide) ?_
    exact rw_i S hr hk hS d_R_place_49 ⟨rfl, hw⟩
  · refine lv_iload_n S.1 S.2.1 d_R_place_7 rfl (lv_at hl 1 rfl) ?_
    refine lv_if_lt (tgt := 48) S.1 S.2.1 d_R_place_8 (by decide) (fun hbr2 => ?_) (fun hbr2 => ?_)
    · refine lv_iconst (v := (-1)) S.1 S.2.1 d_R_place_48 (by decide) ?_
      exact rw_i S hr hk hS d_R_place_49 ⟨rfl, hw⟩
    · refine lv_iload_n S.1 S.2.1 d_R_place_11 rfl (lv_at hl 1 rfl) ?_
      refine lv_ldc (v := 1000000) S.1 S.2.1 S.2.2.2.1 (S.2.2.2.2 _ q_788) d_R_place_12 ?_
      refine lv_icmp_gt (tgt := 48) S.1 S.2.1 d_R_place_14 (by decide) (fun hbr3 => ?_) (fun hbr3 => ?_)
      · refine lv_iconst (v := (-1)) S.1 S.2.1 d_R_place_48 (by decide) ?_
        exact rw_i S hr hk hS d_R_place_49 ⟨rfl, hw⟩
      · refine lv_aload_n S.1 S.2.1 d_R_place_17 rfl (lv_at hl 0 rfl) ?_
        refine o_get (v := .int (nI pl)) S hC kf_R hw.1 rfl 2 (by decide) q_701 rfl d_R_place_18 ?_
        refine lv_bipush (v := 24) S.1 S.2.1 d_R_place_21 (by decide) ?_
        refine lv_icmp_ge (tgt := 48) S.1 S.2.1 d_R_place_23 (by decide) (fun hbr4 => ?_) (fun hbr4 => ?_)
        · refine lv_iconst (v := (-1)) S.1 S.2.1 d_R_place_48 (by decide) ?_
          exact rw_i S hr hk hS d_R_place_49 ⟨rfl, hw⟩
        · refine lv_aload_n S.1 S.2.1 d_R_place_26 rfl (lv_at hl 0 rfl) ?_
          refine o_get (v := .int (nI pl)) S hC kf_R hw.1 rfl 2 (by decide) q_701 rfl d_R_place_27 ?_
          refine lv_if_le (tgt := 50) S.1 S.2.1 d_R_place_30 (by decide) (fun hbr5 => ?_) (fun hbr5 => ?_)
          · exact absurd ⟨hbr1, hbr2, hbr3, hbr4, Or.inl hbr5⟩ hno
          · refine lv_iload_n S.1 S.2.1 d_R_place_33 rfl (lv_at hl 1 rfl) ?_
            refine lv_aload_n S.1 S.2.1 d_R_place_34 rfl (lv_at hl 0 rfl) ?_
            refine o_get (v := .ref (ma 7)) S hC kf_R hw.1 rfl 9 (by decide) q_702 rfl d_R_place_35 ?_
            refine lv_aload_n S.1 S.2.1 d_R_place_38 rfl (lv_at hl 0 rfl) ?_
            refine o_get (v := .int (nI pl)) S hC kf_R hw.1 rfl 2 (by decide) q_701 rfl d_R_place_39 ?_
            refine lv_iconst (v := 1) S.1 S.2.1 d_R_place_42 (by decide) ?_
            refine lv_isub S.1 S.2.1 d_R_place_43 ?_
            have hp1 := nI_gt0 hbr5
            refine tpi (y := nI (pl - 1)) (nI_m1 hp1) ?_
            refine o_iald (j := pl - 1) S hC (mi_7 hw) (by decide) (by omega) d_R_place_44 ?_
            refine lv_icmp_ge (tgt := 50) S.1 S.2.1 d_R_place_45 (by decide) (fun hbr6 => ?_) (fun hbr6 => ?_)
            · exact absurd ⟨hbr1, hbr2, hbr3, hbr4, Or.inr hbr6⟩ hno
            · refine lv_iconst (v := (-1)) S.1 S.2.1 d_R_place_48 (by decide) ?_
              exact rw_i S hr hk hS d_R_place_49 ⟨rfl, hw⟩
set_option maxHeartbeats 4000000 in
set_option maxRecDepth 100000 in
theorem c_R_place_y (l : Launch) {K : KT} {ma : Nat → Nat} {n pl : Nat} {wt : Int32} {J : Nat → Nat → Int32} {X : Nat → Int64} {kd wh fi se : Nat → Nat} {lo hi : Nat → Int32} (hD : mD K ma) (hT : mT kd wh fi se lo hi J n) (hV : tabOk kd wh fi se lo hi n) (hn : n ≤ 12) (t : Int32) (hp24 : pl < 24) (hyes : (¬ wt = 0 ∧ ¬ t < 0 ∧ ¬ 1000000 < t ∧ ¬ 24 ≤ nI pl ∧ (nI pl ≤ 0 ∨ J 7 (pl - 1) ≤ t))) : Met l y_R_place (Cond.code y_R_place b_R_place 4 (some Jvm.ClassFile.FieldType.int) :: WALL) { frames := 4, cells := 0, slots := 0, locals := 99 } (pc0 K [.ref (ma 0), .int t] (fun H => mW K ma n wt pl J X H)) (va_Qi (fun q H => q = nI pl ∧ ∃ J' X', (∀ p, p ≠ 7 → p ≠ 8 → p ≠ 9 → J' p = J p) ∧ J' 7 = upd (J 7) pl t ∧ (∀ r, r < 3 → J' 8 (24 * r + pl) = J 9 r) ∧ (∀ q, (∀ r, r < 3 → q ≠ 24 * r + pl) → J' 8 q = J 8 q) ∧ (∀ r, r < 3 → J' 9 r = 0) ∧ (∀ f i, f < n → i < pl + 1 → ∀ b, b < 64 → tb (X' (24 * f + i)) b = sat kd wh fi se lo hi (J' 7) (J' 8) X' (pl + 1) f i b) ∧ mW K ma n wt (pl + 1) J' X' H) (fun u t => t.heap = u) (mA ma)) 0 0 (mA ma) := by
  refine met0 (own := "MetricLogMonitorModel") (by decide) rfl (Nat.le_of_ble_eq_true rfl) (fun p e s m below meth c ls S hr hk hnm hC hH hl => ?_)
  have hl : lv_has ls 4 [(0, .ref (ma 0)), (1, .int t)] := hl
  have hS : va_S (mA ma) s.heap s.heap [] := va_S.rf
  have hA : ∀ q, (mA ma) q → kz K ≤ q := fun q h => by obtain ⟨i, hi, rfl⟩ := h; exact hD.2 i hi
  have hw := hH
  refine lv_aload_n S.1 S.2.1 d_R_place_0 rfl (lv_at hl 0 rfl) ?_
  refine o_get (v := .int wt) S hC kf_R hw.1 rfl 1 (by decide) q_700 rfl d_R_place_1 ?_
  refine lv_if_eq (tgt := 48) S.1 S.2.1 d_R_place_4 (by decide) (fun hx9 => absurd hx9 hyes.1) (fun _ => ?_)
  refine lv_iload_n S.1 S.2.1 d_R_place_7 rfl (lv_at hl 1 rfl) ?_
  refine lv_if_lt (tgt := 48) S.1 S.2.1 d_R_place_8 (by decide) (fun hx9 => absurd hx9 hyes.2.1) (fun _ => ?_)
  refine lv_iload_n S.1 S.2.1 d_R_place_11 rfl (lv_at hl 1 rfl) ?_
  refine lv_ldc (v := 1000000) S.1 S.2.1 S.2.2.2.1 (S.2.2.2.2 _ q_788) d_R_place_12 ?_
  refine lv_icmp_gt (tgt := 48) S.1 S.2.1 d_R_place_14 (by decide) (fun hx9 => absurd hx9 hyes.2.2.1) (fun _ => ?_)
  refine lv_aload_n S.1 S.2.1 d_R_place_17 rfl (lv_at hl 0 rfl) ?_
  refine o_get (v := .int (nI pl)) S hC kf_R hw.1 rfl 2 (by decide) q_701 rfl d_R_place_18 ?_
  refine lv_bipush (v := 24) S.1 S.2.1 d_R_place_21 (by decide) ?_
  refine lv_icmp_ge (tgt := 48) S.1 S.2.1 d_R_place_23 (by decide) (fun hx9 => absurd hx9 hyes.2.2.2.1) (fun _ => ?_)
  have key50 : W p l e ({ frames := 4, cells := 0, slots := 0, locals := 99 } : Room) s m ([.ref (ma 0), .int t] : List Value).toArray below meth c s.heap [] 0 0 (MQ below (va_Qi (fun q H => q = nI pl ∧ ∃ J' X', (∀ p, p ≠ 7 → p ≠ 8 → p ≠ 9 → J' p = J p) ∧ J' 7 = upd (J 7) pl t ∧ (∀ r, r < 3 → J' 8 (24 * r + pl) = J 9 r) ∧ (∀ q, (∀ r, r < 3 → q ≠ 24 * r + pl) → J' 8 q = J 8 q) ∧ (∀ r, r < 3 → J' 9 r = 0) ∧ (∀ f i, f < n → i < pl + 1 → ∀ b, b < 64 → tb (X' (24 * f + i)) b = sat kd wh fi se lo hi (J' 7) (J' 8) X' (pl + 1) f i b) ∧ mW K ma n wt (pl + 1) J' X' H) (fun u t => t.heap = u) (mA ma)) ([.ref (ma 0), .int t] : List Value).toArray s 0 0 (mA ma)) (F0 m 50 ls []) := by
    refine lv_aload_n S.1 S.2.1 d_R_place_50 rfl (lv_at hl 0 rfl) ?_
    refine o_get (v := .ref (ma 7)) S hC kf_R hw.1 rfl 9 (by decide) q_702 rfl d_R_place_51 ?_
    refine lv_aload_n S.1 S.2.1 d_R_place_54 rfl (lv_at hl 0 rfl) ?_
    refine o_get (v := .int (nI pl)) S hC kf_R hw.1 rfl 2 (by decide) q_701 rfl d_R_place_55 ?_
    refine lv_iload_n S.1 S.2.1 d_R_place_58 rfl (lv_at hl 1 rfl) ?_
    refine m_iast (i := pl) (x := t) 7 S hC hD hw hS (by decide) (by decide) (by decide) (by decide) (show pl < 24 by omega) d_R_place_59 (fun H locs J1 eJ1 oJ1 hw hS => ?_)
    have hT : mT kd wh fi se lo hi J1 n := hT.to (fun p hp => oJ1 p (by omega))
    refine lv_iconst (v := 0) S.1 S.2.1 d_R_place_60 (by decide) ?_
    refine lv_istore_n S.1 S.2.1 d_R_place_61 rfl hl (by decide) rfl (fun ls hl => ?_)
    have hl : lv_has ls 4 [(2, .int 0), (0, .ref (ma 0)), (1, .int t)] := hl
    have key62 : ∀ (d62 : Nat) (r : Nat) (g : Nat → Nat → Int32) (H : Heap) (locs : List Loc) (ls : Array Slot), r + d62 = 3 → (∀ p, p ≠ 8 → p ≠ 9 → g p = J1 p) → (∀ r2, r2 < r → g 8 (24 * r2 + pl) = J1 9 r2) → (∀ q, (∀ r2, r2 < r → q ≠ 24 * r2 + pl) → g 8 q = J1 8 q) → (∀ r2, r2 < r → g 9 r2 = 0) → (∀ r2, r ≤ r2 → g 9 r2 = J1 9 r2) → (mT kd wh fi se lo hi g n) → (mW K ma n wt pl g X H) → (va_S (mA ma) s.heap H locs) → lv_has ls 4 [(2, .int (nI r)), (0, .ref (ma 0)), (1, .int t)] → W p l e ({ frames := 4, cells := 0, slots := 0, locals := 99 } : Room) s m ([.ref (ma 0), .int t] : List Value).toArray below meth c H locs 0 0 (MQ below (va_Qi (fun q H => q = nI pl ∧ ∃ J' X', (∀ p, p ≠ 7 → p ≠ 8 → p ≠ 9 → J' p = J p) ∧ J' 7 = upd (J 7) pl t ∧ (∀ r, r < 3 → J' 8 (24 * r + pl) = J 9 r) ∧ (∀ q, (∀ r, r < 3 → q ≠ 24 * r + pl) → J' 8 q = J 8 q) ∧ (∀ r, r < 3 → J' 9 r = 0) ∧ (∀ f i, f < n → i < pl + 1 → ∀ b, b < 64 → tb (X' (24 * f + i)) b = sat kd wh fi se lo hi (J' 7) (J' 8) X' (pl + 1) f i b) ∧ mW K ma n wt (pl + 1) J' X' H) (fun u t => t.heap = u) (mA ma)) ([.ref (ma 0), .int t] : List Value).toArray s 0 0 (mA ma)) (F0 m 62 ls []) := by
      intro d62
      induction d62 with
      | zero =>
        intro r g H locs ls hd62 og hP hP2 hG1 hG2 hT hw hS hl
        refine lv_iload_n S.1 S.2.1 d_R_place_62 rfl (lv_at hl 0 rfl) ?_
        refine lv_iconst (v := 3) S.1 S.2.1 d_R_place_63 (by decide) ?_
        refine lv_icmp_ge (tgt := 100) S.1 S.2.1 d_R_place_64 (by decide) (fun _ => ?_) (fun hx9 => absurd (by rw [show r = 3 by omega]; decide) hx9)
        refine lv_aload_n S.1 S.2.1 d_R_place_100 rfl (lv_at hl 1 rfl) ?_
        refine lv_dup S.1 S.2.1 d_R_place_101 rfl ?_
        refine o_get (v := .int (nI pl)) S hC kf_R hw.1 rfl 2 (by decide) q_701 rfl d_R_place_102 ?_
        refine lv_iconst (v := 1) S.1 S.2.1 d_R_place_105 (by decide) ?_
        refine lv_iadd S.1 S.2.1 d_R_place_106 ?_
        refine tpi (y := nI (pl + 1)) (nI_1 pl) ?_
        refine m_putp (pl + 1) S hC hD hw hS q_701 d_R_place_107 (fun H locs hw hS => ?_)
        refine lv_iconst (v := 0) S.1 S.2.1 d_R_place_110 (by decide) ?_
        refine lv_istore_n S.1 S.2.1 d_R_place_111 rfl hl (by decide) rfl (fun ls hl => ?_)
        have hl : lv_has ls 4 [(2, .int 0), (0, .ref (ma 0)), (1, .int t)] := hl
        have key112 : ∀ (d112 : Nat) (f : Nat) (Z : Nat → Int64) (H : Heap) (locs : List Loc) (ls : Array Slot), f + d112 = n → (zOk kd wh fi se lo hi (g 7) (g 8) (pl + 1) f 0 Z) → (mW K ma n wt (pl + 1) g Z H) → (va_S (mA ma) s.heap H locs) → lv_has ls 4 [(2, .int (nI f)), (0, .ref (ma 0)), (1, .int t)] → W p l e ({ frames := 4, cells := 0, slots := 0, locals := 99 } : Room) s m ([.ref (ma 0), .int t] : List Value).toArray below meth c H locs 0 0 (MQ below (va_Qi (fun q H => q = nI pl ∧ ∃ J' X', (∀ p, p ≠ 7 → p ≠ 8 → p ≠ 9 → J' p = J p) ∧ J' 7 = upd (J 7) pl t ∧ (∀ r, r < 3 → J' 8 (24 * r + pl) = J 9 r) ∧ (∀ q, (∀ r, r < 3 → q ≠ 24 * r + pl) → J' 8 q = J 8 q) ∧ (∀ r, r < 3 → J' 9 r = 0) ∧ (∀ f i, f < n → i < pl + 1 → ∀ b, b < 64 → tb (X' (24 * f + i)) b = sat kd wh fi se lo hi (J' 7) (J' 8) X' (pl + 1) f i b) ∧ mW K ma n wt (pl + 1) J' X' H) (fun u t => t.heap = u) (mA ma)) ([.ref (ma 0), .int t] : List Value).toArray s 0 0 (mA ma)) (F0 m 112 ls []) := by
          intro d112
          induction d112 with
          | zero =>
            intro f Z H locs ls hd112 hK hw hS hl
            refine lv_iload_n S.1 S.2.1 d_R_place_112 rfl (lv_at hl 0 rfl) ?_
            refine lv_aload_n S.1 S.2.1 d_R_place_113 rfl (lv_at hl 1 rfl) ?_
            refine o_get (v := .int (nI n)) S hC kf_R hw.1 rfl 0 (by decide) q_693 rfl d_R_place_114 ?_
            refine lv_icmp_ge (tgt := 148) S.1 S.2.1 d_R_place_117 (by decide) (fun _ => ?_) (fun hx9 => absurd (nI_le (by omega) (by omega)) hx9)
            refine lv_aload_n S.1 S.2.1 d_R_place_148 rfl (lv_at hl 1 rfl) ?_
            refine o_get (v := .int (nI (pl + 1))) S hC kf_R hw.1 rfl 2 (by decide) q_701 rfl d_R_place_149 ?_
            refine lv_iconst (v := 1) S.1 S.2.1 d_R_place_152 (by decide) ?_
            refine lv_isub S.1 S.2.1 d_R_place_153 ?_
            refine tpi (y := nI pl) (nI_pred pl) ?_
            exact rw_i S hr hk hS d_R_place_154 ⟨rfl, g, Z, (fun p h7 h8 h9 => by rw [og p h8 h9, oJ1 p h7]), (by rw [og 7 (by decide) (by decide), eJ1]), (fun r2 h2 => by rw [hP r2 (by omega), oJ1 9 (by decide)]), (fun q hq => by rw [hP2 q (fun r2 h2 => hq r2 (by omega)), oJ1 8 (by decide)]), (fun r2 h2 => hG1 r2 (by omega)), (fun f2 i2 h1 h2 => hK f2 i2 (Or.inl ⟨by omega, h2⟩)), hw⟩
          | succ d112 ih112 =>
            intro f Z H locs ls hd112 hK hw hS hl
            refine lv_iload_n S.1 S.2.1 d_R_place_112 rfl (lv_at hl 0 rfl) ?_
            refine lv_aload_n S.1 S.2.1 d_R_place_113 rfl (lv_at hl 1 rfl) ?_
            refine o_get (v := .int (nI n)) S hC kf_R hw.1 rfl 0 (by decide) q_693 rfl d_R_place_114 ?_
            refine lv_icmp_ge (tgt := 148) S.1 S.2.1 d_R_place_117 (by decide) (fun hx9 => absurd hx9 (nI_ge (by omega) (by omega))) (fun _ => ?_)
            refine lv_iconst (v := 0) S.1 S.2.1 d_R_place_120 (by decide) ?_
            refine lv_istore_n S.1 S.2.1 d_R_place_121 rfl hl (by decide) rfl (fun ls hl => ?_)
            have hl : lv_has ls 4 [(3, .int 0), (2, .int (nI f)), (0, .ref (ma 0)), (1, .int t)] := hl
            have key122 : ∀ (d122 : Nat) (i : Nat) (Z : Nat → Int64) (H : Heap) (locs : List Loc) (ls : Array Slot), i + d122 = pl + 1 → (zOk kd wh fi se lo hi (g 7) (g 8) (pl + 1) f i Z) → (mW K ma n wt (pl + 1) g Z H) → (va_S (mA ma) s.heap H locs) → lv_has ls 4 [(3, .int (nI i)), (2, .int (nI f)), (0, .ref (ma 0)), (1, .int t)] → W p l e ({ frames := 4, cells := 0, slots := 0, locals := 99 } : Room) s m ([.ref (ma 0), .int t] : List Value).toArray below meth c H locs 0 0 (MQ below (va_Qi (fun q H => q = nI pl ∧ ∃ J' X', (∀ p, p ≠ 7 → p ≠ 8 → p ≠ 9 → J' p = J p) ∧ J' 7 = upd (J 7) pl t ∧ (∀ r, r < 3 → J' 8 (24 * r + pl) = J 9 r) ∧ (∀ q, (∀ r, r < 3 → q ≠ 24 * r + pl) → J' 8 q = J 8 q) ∧ (∀ r, r < 3 → J' 9 r = 0) ∧ (∀ f i, f < n → i < pl + 1 → ∀ b, b < 64 → tb (X' (24 * f + i)) b = sat kd wh fi se lo hi (J' 7) (J' 8) X' (pl + 1) f i b) ∧ mW K ma n wt (pl + 1) J' X' H) (fun u t => t.heap = u) (mA ma)) ([.ref (ma 0), .int t] : List Value).toArray s 0 0 (mA ma)) (F0 m 122 ls []) := by
              intro d122
              induction d122 with
              | zero =>
                intro i Z H locs ls hd122 hK hw hS hl
                rw [show i = pl + 1 by omega] at hK
                refine lv_iload_n S.1 S.2.1 d_R_place_122 rfl (lv_at hl 0 rfl) ?_
                refine lv_aload_n S.1 S.2.1 d_R_place_123 rfl (lv_at hl 2 rfl) ?_
                refine o_get (v := .int (nI (pl + 1))) S hC kf_R hw.1 rfl 2 (by decide) q_701 rfl d_R_place_124 ?_
                refine lv_icmp_ge (tgt := 142) S.1 S.2.1 d_R_place_127 (by decide) (fun _ => ?_) (fun hx9 => absurd (nI_le (by omega) (by omega)) hx9)
                refine lv_iinc (v := nI (f + 1)) S.1 S.2.1 d_R_place_142 hl (k := 1) rfl (nI_1 f) (by decide) rfl (fun ls hl => ?_)
                have hl : lv_has ls 4 [(2, .int (nI (f + 1))), (3, .int (nI i)), (0, .ref (ma 0)), (1, .int t)] := hl
                refine lv_goto (tgt := 112) S.1 S.2.1 d_R_place_145 (by decide) ?_
                exact ih112 (f + 1) Z _ _ ls (by omega) (zOk_n hK) hw hS (lv_sub hl [0, 2, 3] rfl)
              | succ d122 ih122 =>
                intro i Z H locs ls hd122 hK hw hS hl
                refine lv_iload_n S.1 S.2.1 d_R_place_122 rfl (lv_at hl 0 rfl) ?_
                refine lv_aload_n S.1 S.2.1 d_R_place_123 rfl (lv_at hl 2 rfl) ?_
                refine o_get (v := .int (nI (pl + 1))) S hC kf_R hw.1 rfl 2 (by decide) q_701 rfl d_R_place_124 ?_
                refine lv_icmp_ge (tgt := 142) S.1 S.2.1 d_R_place_127 (by decide) (fun hx9 => absurd hx9 (nI_ge (by omega) (by omega))) (fun _ => ?_)
                refine lv_aload_n S.1 S.2.1 d_R_place_130 rfl (lv_at hl 2 rfl) ?_
                refine lv_iload_n S.1 S.2.1 d_R_place_131 rfl (lv_at hl 1 rfl) ?_
                refine lv_iload_n S.1 S.2.1 d_R_place_132 rfl (lv_at hl 0 rfl) ?_
                refine kw_v (A := mA ma) (k_V (rest := []) S (c_R_look l (f := f) (i := i) hD hT hV hn (by omega) (by omega) (by omega)) kc_R_look ⟨q_840, q_842, qp_13⟩ rfl rfl ⟨Nat.le_of_ble_eq_true rfl, Nat.le_of_ble_eq_true rfl⟩ hC hS hA hw ⟨11, _, _, _, rfl, hw.1⟩ rfl hl.1 rfl (Nat.le_of_ble_eq_true rfl) ⟨Nat.zero_le _, Nat.zero_le _⟩ d_R_place_133) hS (fun q h => h) (fun H locs er hz hkp hS => ?_)
                obtain ⟨z, hz, hw⟩ := er
                refine lv_iinc (v := nI (i + 1)) S.1 S.2.1 d_R_place_136 hl (k := 0) rfl (nI_1 i) (by decide) rfl (fun ls hl => ?_)
                have hl : lv_has ls 4 [(3, .int (nI (i + 1))), (2, .int (nI f)), (0, .ref (ma 0)), (1, .int t)] := hl
                refine lv_goto (tgt := 122) S.1 S.2.1 d_R_place_139 (by decide) ?_
                exact ih122 (i + 1) _ _ _ ls (by omega) (zOk_s (f := f) (i := i) (N := pl + 1) hV (by omega) (by omega) (by omega) hK hz) hw hS (lv_sub hl [0, 1, 2, 3] rfl)
            exact key122 (pl + 1) 0 Z _ _ ls (by omega) hK hw hS (lv_sub hl [0, 1, 2, 3] rfl)
        exact key112 n 0 X _ _ ls (by omega) (fun f2 i2 hc => absurd hc (by omega)) hw hS (lv_sub hl [0, 1, 2] rfl)
      | succ d62 ih62 =>
        intro r g H locs ls hd62 og hP hP2 hG1 hG2 hT hw hS hl
        refine lv_iload_n S.1 S.2.1 d_R_place_62 rfl (lv_at hl 0 rfl) ?_
        refine lv_iconst (v := 3) S.1 S.2.1 d_R_place_63 (by decide) ?_
        refine lv_icmp_ge (tgt := 100) S.1 S.2.1 d_R_place_64 (by decide) (fun hx9 => absurd hx9 (nI_ge (b := 3) (by omega) (by decide))) (fun _ => ?_)
        refine lv_aload_n S.1 S.2.1 d_R_place_67 rfl (lv_at hl 1 rfl) ?_
        refine o_get (v := .ref (ma 8)) S hC kf_R hw.1 rfl 10 (by decide) q_703 rfl d_R_place_68 ?_
        refine lv_bipush (v := 24) S.1 S.2.1 d_R_place_71 (by decide) ?_
        refine lv_iload_n S.1 S.2.1 d_R_place_73 rfl (lv_at hl 0 rfl) ?_
        refine lv_imul S.1 S.2.1 d_R_place_74 ?_
        refine lv_aload_n S.1 S.2.1 d_R_place_75 rfl (lv_at hl 1 rfl) ?_
        refine o_get (v := .int (nI pl)) S hC kf_R hw.1 rfl 2 (by decide) q_701 rfl d_R_place_76 ?_
        refine lv_iadd S.1 S.2.1 d_R_place_79 ?_
        refine lv_aload_n S.1 S.2.1 d_R_place_80 rfl (lv_at hl 1 rfl) ?_
        refine o_get (v := .ref (ma 9)) S hC kf_R hw.1 rfl 11 (by decide) q_704 rfl d_R_place_81 ?_
        refine lv_iload_n S.1 S.2.1 d_R_place_84 rfl (lv_at hl 0 rfl) ?_
        refine o_iald (j := r) S hC (mi_9 hw) (by decide) (by omega) d_R_place_85 ?_
        rw [ix24]
        refine m_iast (i := 24 * r + pl) (x := (g 9 r)) 8 S hC hD hw hS (by decide) (by decide) (by decide) (by decide) (show 24 * r + pl < 72 by omega) d_R_place_86 (fun H locs J2 eJ2 oJ2 hw hS => ?_)
        have hT : mT kd wh fi se lo hi J2 n := hT.to (fun p hp => oJ2 p (by omega))
        refine lv_aload_n S.1 S.2.1 d_R_place_87 rfl (lv_at hl 1 rfl) ?_
        refine o_get (v := .ref (ma 9)) S hC kf_R hw.1 rfl 11 (by decide) q_704 rfl d_R_place_88 ?_
        refine lv_iload_n S.1 S.2.1 d_R_place_91 rfl (lv_at hl 0 rfl) ?_
        refine lv_iconst (v := 0) S.1 S.2.1 d_R_place_92 (by decide) ?_
        refine m_iast (i := r) (x := 0) 9 S hC hD hw hS (by decide) (by decide) (by decide) (by decide) (show r < 3 by omega) d_R_place_93 (fun H locs J3 eJ3 oJ3 hw hS => ?_)
        have hT : mT kd wh fi se lo hi J3 n := hT.to (fun p hp => oJ3 p (by omega))
        refine lv_iinc (v := nI (r + 1)) S.1 S.2.1 d_R_place_94 hl (k := 0) rfl (nI_1 r) (by decide) rfl (fun ls hl => ?_)
        have hl : lv_has ls 4 [(2, .int (nI (r + 1))), (0, .ref (ma 0)), (1, .int t)] := hl
        refine lv_goto (tgt := 62) S.1 S.2.1 d_R_place_97 (by decide) ?_
        exact ih62 (r + 1) _ _ _ ls (by omega) (fun p h8 h9 => by rw [oJ3 p h9, oJ2 p h8]; exact og p h8 h9) (fun r2 h2 => if e0 : r2 = r then by rw [e0, oJ3 8 (by decide), eJ2, pk_us]; exact hG2 r (Nat.le_refl _) else by rw [oJ3 8 (by decide), eJ2, pk_un (by omega)]; exact hP r2 (by omega)) (fun q hq => by rw [oJ3 8 (by decide), eJ2, pk_un (hq r (by omega))]; exact hP2 q (fun r2 h2 => hq r2 (by omega))) (fun r2 h2 => if e0 : r2 = r then by rw [e0, eJ3, pk_us] else by rw [eJ3, pk_un e0, oJ2 9 (by decide)]; exact hG1 r2 (by omega)) (fun r2 h2 => by rw [eJ3, pk_un (by omega), oJ2 9 (by decide)]; exact hG2 r2 (by omega)) hT hw hS (lv_sub hl [0, 1, 2] rfl)
    exact key62 3 0 J1 _ _ ls rfl (fun _ _ _ => rfl) (fun _ h => absurd h (by omega)) (fun _ _ => rfl) (fun _ h => absurd h (by omega)) (fun _ _ => rfl) hT hw hS (lv_sub hl [0, 1, 2] rfl)
  refine lv_aload_n S.1 S.2.1 d_R_place_26 rfl (lv_at hl 0 rfl) ?_
  refine o_get (v := .int (nI pl)) S hC kf_R hw.1 rfl 2 (by decide) q_701 rfl d_R_place_27 ?_
  refine lv_if_le (tgt := 50) S.1 S.2.1 d_R_place_30 (by decide) (fun hbr1 => ?_) (fun hbr1 => ?_)
  · exact key50
  · refine lv_iload_n S.1 S.2.1 d_R_place_33 rfl (lv_at hl 1 rfl) ?_
    refine lv_aload_n S.1 S.2.1 d_R_place_34 rfl (lv_at hl 0 rfl) ?_
    refine o_get (v := .ref (ma 7)) S hC kf_R hw.1 rfl 9 (by decide) q_702 rfl d_R_place_35 ?_
    refine lv_aload_n S.1 S.2.1 d_R_place_38 rfl (lv_at hl 0 rfl) ?_
    refine o_get (v := .int (nI pl)) S hC kf_R hw.1 rfl 2 (by decide) q_701 rfl d_R_place_39 ?_
    refine lv_iconst (v := 1) S.1 S.2.1 d_R_place_42 (by decide) ?_
    refine lv_isub S.1 S.2.1 d_R_place_43 ?_
    have hp1 := nI_gt0 hbr1
    refine tpi (y := nI (pl - 1)) (nI_m1 hp1) ?_
    refine o_iald (j := pl - 1) S hC (mi_7 hw) (by decide) (by omega) d_R_place_44 ?_
    refine lv_icmp_ge (tgt := 50) S.1 S.2.1 d_R_place_45 (by decide) (fun _ => ?_) (fun hx9 => absurd (hyes.2.2.2.2.resolve_left hbr1) hx9)
    exact key50
set_option maxHeartbeats 4000000 in
set_option maxRecDepth 100000 in
theorem c_R_isKnown_y1 (l : Launch) {K : KT} {ma : Nat → Nat} {n pl : Nat} {wt : Int32} {J : Nat → Nat → Int32} {X : Nat → Int64} {kd wh fi se : Nat → Nat} {lo hi : Nat → Int32} {rc : Nat → Nat} {f j : Nat} (hD : mD K ma) (hT : mT kd wh fi se lo hi J n) (hV : tabOk kd wh fi se lo hi n) (hn : n ≤ 12) (hf : f < n) (hrc : ∀ j, j < n → rc j = rch kd fi se hi (J 7) rc pl j) (hrl : ∀ j, j < n → rc j ≤ 24) (hpl : pl ≤ 24) (hj : j < rc f) : Met l y_R_isKnown (Cond.code y_R_isKnown b_R_isKnown 3 (some Jvm.ClassFile.FieldType.boolean) :: WALL) { frames := 2, cells := 0, slots := 0, locals := 49 } (pc0 K [.ref (ma 0), .int (nI f), .int (nI j)] (fun H => mW K ma n wt pl J X H)) (va_Qi (fun q H => q = 1 ∧ ∃ J', (∀ p, p ≠ 14 → J' p = J p) ∧ mW K ma n wt pl J' X H) (fun u t => t.heap = u) (mA ma)) 0 0 (mA ma) := by
  refine met0 (own := "MetricLogMonitorModel") (by decide) rfl (Nat.le_of_ble_eq_true rfl) (fun p e s m below meth c ls S hr hk hnm hC hH hl => ?_)
  have hl : lv_has ls 3 [(0, .ref (ma 0)), (1, .int (nI f)), (2, .int (nI j))] := hl
  have hS : va_S (mA ma) s.heap s.heap [] := va_S.rf
  have hA : ∀ q, (mA ma) q → kz K ≤ q := fun q h => by obtain ⟨i, hi, rfl⟩ := h; exact hD.2 i hi
  have hw := hH
  have hrf := hrl f hf
  refine lv_aload_n S.1 S.2.1 d_R_isKnown_0 rfl (lv_at hl 0 rfl) ?_
  refine lv_iload_n S.1 S.2.1 d_R_isKnown_1 rfl (lv_at hl 1 rfl) ?_
  refine kVi (rest := []) S (c_R_isFormula l (nI f)) kc_R_isFormula ⟨q_769, q_771, qp_8⟩ rfl rfl ⟨Nat.le_of_ble_eq_true rfl, Nat.le_of_ble_eq_true rfl⟩ hC hS hA hw ⟨11, _, _, _, rfl, hw.1⟩ ⟨Nat.zero_le _, Nat.zero_le _⟩ hl.1 rfl rfl (Nat.le_of_ble_eq_true rfl) d_R_isKnown_2 (fun r er => ?_)
  subst er
  refine lv_if_eq (tgt := 25) S.1 S.2.1 d_R_isKnown_5 (by decide) (fun hx9 => absurd hx9 (isF_y (by omega) hf)) (fun _ => ?_)
  refine lv_iload_n S.1 S.2.1 d_R_isKnown_8 rfl (lv_at hl 2 rfl) ?_
  refine lv_if_lt (tgt := 25) S.1 S.2.1 d_R_isKnown_9 (by decide) (fun hx9 => absurd hx9 (nI_pos (by omega))) (fun _ => ?_)
  refine lv_iload_n S.1 S.2.1 d_R_isKnown_12 rfl (lv_at hl 2 rfl) ?_
  refine lv_aload_n S.1 S.2.1 d_R_isKnown_13 rfl (lv_at hl 0 rfl) ?_
  refine lv_iload_n S.1 S.2.1 d_R_isKnown_14 rfl (lv_at hl 1 rfl) ?_
  refine kw_i (A := mA ma) (k_V (rest := [.int (nI j)]) S (c_R_progress_y l hD hT hV hn hf hrc hrl hpl) kc_R_progress ⟨q_895, q_876, q_877⟩ rfl rfl ⟨Nat.le_of_ble_eq_true rfl, Nat.le_of_ble_eq_true rfl⟩ hC hS hA hw ⟨11, _, _, _, rfl, hw.1⟩ rfl hl.1 rfl (Nat.le_of_ble_eq_true rfl) ⟨Nat.zero_le _, Nat.zero_le _⟩ d_R_isKnown_15) hS (fun q h => h) (fun r H locs er hz hkp hS => ?_)
  obtain ⟨er0, Ja, oJa, hw⟩ := er
  subst er0
  refine lv_icmp_ge (tgt := 25) S.1 S.2.1 d_R_isKnown_18 (by decide) (fun hx9 => absurd hx9 (nI_ge (by omega) (by omega))) (fun _ => ?_)
  refine lv_iconst (v := 1) S.1 S.2.1 d_R_isKnown_21 (by decide) ?_
  refine lv_goto (tgt := 26) S.1 S.2.1 d_R_isKnown_22 (by decide) ?_
  exact rw_z S hr hk rfl hS d_R_isKnown_26 ⟨rfl, Ja, oJa, hw⟩
set_option maxHeartbeats 4000000 in
set_option maxRecDepth 100000 in
theorem c_R_isKnown_y0 (l : Launch) {K : KT} {ma : Nat → Nat} {n pl : Nat} {wt : Int32} {J : Nat → Nat → Int32} {X : Nat → Int64} {kd wh fi se : Nat → Nat} {lo hi : Nat → Int32} {rc : Nat → Nat} {f : Nat} (hD : mD K ma) (hT : mT kd wh fi se lo hi J n) (hV : tabOk kd wh fi se lo hi n) (hn : n ≤ 12) (hf : f < n) (hrc : ∀ j, j < n → rc j = rch kd fi se hi (J 7) rc pl j) (hrl : ∀ j, j < n → rc j ≤ 24) (hpl : pl ≤ 24) (i : Int32) (hno2 : ∀ j, j < rc f → ¬ i = nI j) : Met l y_R_isKnown (Cond.code y_R_isKnown b_R_isKnown 3 (some Jvm.ClassFile.FieldType.boolean) :: WALL) { frames := 2, cells := 0, slots := 0, locals := 49 } (pc0 K [.ref (ma 0), .int (nI f), .int i] (fun H => mW K ma n wt pl J X H)) (va_Qi (fun q H => q = 0 ∧ ∃ J', (∀ p, p ≠ 14 → J' p = J p) ∧ mW K ma n wt pl J' X H) (fun u t => t.heap = u) (mA ma)) 0 0 (mA ma) := by
  refine met0 (own := "MetricLogMonitorModel") (by decide) rfl (Nat.le_of_ble_eq_true rfl) (fun p e s m below meth c ls S hr hk hnm hC hH hl => ?_)
  have hl : lv_has ls 3 [(0, .ref (ma 0)), (1, .int (nI f)), (2, .int i)] := hl
  have hS : va_S (mA ma) s.heap s.heap [] := va_S.rf
  have hA : ∀ q, (mA ma) q → kz K ≤ q := fun q h => by obtain ⟨i, hi, rfl⟩ := h; exact hD.2 i hi
  have hw := hH
  have hrf := hrl f hf
  refine lv_aload_n S.1 S.2.1 d_R_isKnown_0 rfl (lv_at hl 0 rfl) ?_
  refine lv_iload_n S.1 S.2.1 d_R_isKnown_1 rfl (lv_at hl 1 rfl) ?_
  refine kVi (rest := []) S (c_R_isFormula l (nI f)) kc_R_isFormula ⟨q_769, q_771, qp_8⟩ rfl rfl ⟨Nat.le_of_ble_eq_true rfl, Nat.le_of_ble_eq_true rfl⟩ hC hS hA hw ⟨11, _, _, _, rfl, hw.1⟩ ⟨Nat.zero_le _, Nat.zero_le _⟩ hl.1 rfl rfl (Nat.le_of_ble_eq_true rfl) d_R_isKnown_2 (fun r er => ?_)
  subst er
  refine lv_if_eq (tgt := 25) S.1 S.2.1 d_R_isKnown_5 (by decide) (fun hx9 => absurd hx9 (isF_y (by omega) hf)) (fun _ => ?_)
  refine lv_iload_n S.1 S.2.1 d_R_isKnown_8 rfl (lv_at hl 2 rfl) ?_
  refine lv_if_lt (tgt := 25) S.1 S.2.1 d_R_isKnown_9 (by decide) (fun hbr1 => ?_) (fun hbr1 => ?_)
  · refine lv_iconst (v := 0) S.1 S.2.1 d_R_isKnown_25 (by decide) ?_
    exact rw_z S hr hk rfl hS d_R_isKnown_26 ⟨rfl, J, (fun _ _ => rfl), hw⟩
  · refine lv_iload_n S.1 S.2.1 d_R_isKnown_12 rfl (lv_at hl 2 rfl) ?_
    refine lv_aload_n S.1 S.2.1 d_R_isKnown_13 rfl (lv_at hl 0 rfl) ?_
    refine lv_iload_n S.1 S.2.1 d_R_isKnown_14 rfl (lv_at hl 1 rfl) ?_
    refine kw_i (A := mA ma) (k_V (rest := [.int i]) S (c_R_progress_y l hD hT hV hn hf hrc hrl hpl) kc_R_progress ⟨q_895, q_876, q_877⟩ rfl rfl ⟨Nat.le_of_ble_eq_true rfl, Nat.le_of_ble_eq_true rfl⟩ hC hS hA hw ⟨11, _, _, _, rfl, hw.1⟩ rfl hl.1 rfl (Nat.le_of_ble_eq_true rfl) ⟨Nat.zero_le _, Nat.zero_le _⟩ d_R_isKnown_15) hS (fun q h => h) (fun r H locs er hz hkp hS => ?_)
    obtain ⟨er0, Ja, oJa, hw⟩ := er
    subst er0
    refine lv_icmp_ge (tgt := 25) S.1 S.2.1 d_R_isKnown_18 (by decide) (fun _ => ?_) (fun hx9 => absurd (known_ge (by omega) hbr1 hno2) hx9)
    refine lv_iconst (v := 0) S.1 S.2.1 d_R_isKnown_25 (by decide) ?_
    exact rw_z S hr hk rfl hS d_R_isKnown_26 ⟨rfl, Ja, oJa, hw⟩
set_option maxHeartbeats 4000000 in
set_option maxRecDepth 100000 in
theorem c_R_isKnown_n (l : Launch) {K : KT} {ma : Nat → Nat} {n pl : Nat} {wt : Int32} {J : Nat → Nat → Int32} {X : Nat → Int64} (hD : mD K ma) (hn : n ≤ 12) (f : Int32) (hno : ∀ k, k < n → ¬ f = nI k) (i : Int32) : Met l y_R_isKnown (Cond.code y_R_isKnown b_R_isKnown 3 (some Jvm.ClassFile.FieldType.boolean) :: WALL) { frames := 1, cells := 0, slots := 0, locals := 21 } (pc0 K [.ref (ma 0), .int f, .int i] (fun H => mW K ma n wt pl J X H)) (va_Qi (fun q H => q = 0 ∧ mW K ma n wt pl J X H) (fun u t => t.heap = u) (mA ma)) 0 0 (mA ma) := by
  refine met0 (own := "MetricLogMonitorModel") (by decide) rfl (Nat.le_of_ble_eq_true rfl) (fun p e s m below meth c ls S hr hk hnm hC hH hl => ?_)
  have hl : lv_has ls 3 [(0, .ref (ma 0)), (1, .int f), (2, .int i)] := hl
  have hS : va_S (mA ma) s.heap s.heap [] := va_S.rf
  have hA : ∀ q, (mA ma) q → kz K ≤ q := fun q h => by obtain ⟨i, hi, rfl⟩ := h; exact hD.2 i hi
  have hw := hH
  refine lv_aload_n S.1 S.2.1 d_R_isKnown_0 rfl (lv_at hl 0 rfl) ?_
  refine lv_iload_n S.1 S.2.1 d_R_isKnown_1 rfl (lv_at hl 1 rfl) ?_
  refine kVi (rest := []) S (c_R_isFormula l f) kc_R_isFormula ⟨q_769, q_771, qp_8⟩ rfl rfl ⟨Nat.le_of_ble_eq_true rfl, Nat.le_of_ble_eq_true rfl⟩ hC hS hA hw ⟨11, _, _, _, rfl, hw.1⟩ ⟨Nat.zero_le _, Nat.zero_le _⟩ hl.1 rfl rfl (Nat.le_of_ble_eq_true rfl) d_R_isKnown_2 (fun r er => ?_)
  subst er
  refine lv_if_eq (tgt := 25) S.1 S.2.1 d_R_isKnown_5 (by decide) (fun _ => ?_) (fun hx9 => absurd (isF_n (by omega) hno) hx9)
  refine lv_iconst (v := 0) S.1 S.2.1 d_R_isKnown_25 (by decide) ?_
  exact rw_z S hr hk rfl hS d_R_isKnown_26 ⟨rfl, hw⟩
set_option maxHeartbeats 4000000 in
set_option maxRecDepth 100000 in
theorem c_R_satisfied_y1 (l : Launch) {K : KT} {ma : Nat → Nat} {n pl : Nat} {wt : Int32} {J : Nat → Nat → Int32} {X : Nat → Int64} {kd wh fi se : Nat → Nat} {lo hi : Nat → Int32} {rc : Nat → Nat} {f j : Nat} (hD : mD K ma) (hT : mT kd wh fi se lo hi J n) (hV : tabOk kd wh fi se lo hi n) (hn : n ≤ 12) (hf : f < n) (hrc : ∀ j, j < n → rc j = rch kd fi se hi (J 7) rc pl j) (hrl : ∀ j, j < n → rc j ≤ 24) (hpl : pl ≤ 24) (hj : j < rc f) : Met l y_R_satisfied (Cond.code y_R_satisfied b_R_satisfied 3 (some Jvm.ClassFile.FieldType.long) :: WALL) { frames := 3, cells := 0, slots := 0, locals := 71 } (pc0 K [.ref (ma 0), .int (nI f), .int (nI j)] (fun H => mW K ma n wt pl J X H)) (va_Ql (fun q H => q = X (24 * f + j) ∧ ∃ J', (∀ p, p ≠ 14 → J' p = J p) ∧ mW K ma n wt pl J' X H) (fun u t => t.heap = u) (mA ma)) 0 0 (mA ma) := by
  refine met0 (own := "MetricLogMonitorModel") (by decide) rfl (Nat.le_of_ble_eq_true rfl) (fun p e s m below meth c ls S hr hk hnm hC hH hl => ?_)
  have hl : lv_has ls 3 [(0, .ref (ma 0)), (1, .int (nI f)), (2, .int (nI j))] := hl
  have hS : va_S (mA ma) s.heap s.heap [] := va_S.rf
  have hA : ∀ q, (mA ma) q → kz K ≤ q := fun q h => by obtain ⟨i, hi, rfl⟩ := h; exact hD.2 i hi
  have hw := hH
  have hrf := hrl f hf
  refine lv_aload_n S.1 S.2.1 d_R_satisfied_0 rfl (lv_at hl 0 rfl) ?_
  refine lv_iload_n S.1 S.2.1 d_R_satisfied_1 rfl (lv_at hl 1 rfl) ?_
  refine lv_iload_n S.1 S.2.1 d_R_satisfied_2 rfl (lv_at hl 2 rfl) ?_
  refine kw_i (A := mA ma) (k_V (rest := []) S (c_R_isKnown_y1 l hD hT hV hn hf hrc hrl hpl hj) kc_R_isKnown ⟨q_891, q_893, qp_22⟩ rfl rfl ⟨Nat.le_of_ble_eq_true rfl, Nat.le_of_ble_eq_true rfl⟩ hC hS hA hw ⟨11, _, _, _, rfl, hw.1⟩ rfl hl.1 rfl (Nat.le_of_ble_eq_true rfl) ⟨Nat.zero_le _, Nat.zero_le _⟩ d_R_satisfied_3) hS (fun q h => h) (fun r H locs er hz hkp hS => ?_)
  obtain ⟨er0, Jk, oJk, hw⟩ := er
  have hT : mT kd wh fi se lo hi Jk n := hT.to (fun p hp => oJk p (by omega))
  subst er0
  refine lv_if_eq (tgt := 23) S.1 S.2.1 d_R_satisfied_6 (by decide) (fun hx9 => absurd hx9 (by decide)) (fun _ => ?_)
  refine lv_aload_n S.1 S.2.1 d_R_satisfied_9 rfl (lv_at hl 0 rfl) ?_
  refine o_get (v := .ref (ma 10)) S hC kf_R hw.1 rfl 12 (by decide) q_705 rfl d_R_satisfied_10 ?_
  refine lv_bipush (v := 24) S.1 S.2.1 d_R_satisfied_13 (by decide) ?_
  refine lv_iload_n S.1 S.2.1 d_R_satisfied_15 rfl (lv_at hl 1 rfl) ?_
  refine lv_imul S.1 S.2.1 d_R_satisfied_16 ?_
  refine lv_iload_n S.1 S.2.1 d_R_satisfied_17 rfl (lv_at hl 2 rfl) ?_
  refine lv_iadd S.1 S.2.1 d_R_satisfied_18 ?_
  refine tpi (y := nI (24 * f + j)) (ix24 ..) ?_
  refine o_lald (j := 24 * f + j) S hC (mi_10 hw) (by decide) (by omega) d_R_satisfied_19 ?_
  refine lv_goto (tgt := 24) S.1 S.2.1 d_R_satisfied_20 (by decide) ?_
  exact rw_l S hr hk hS d_R_satisfied_24 ⟨rfl, Jk, oJk, hw⟩
set_option maxHeartbeats 4000000 in
set_option maxRecDepth 100000 in
theorem c_R_satisfied_y0 (l : Launch) {K : KT} {ma : Nat → Nat} {n pl : Nat} {wt : Int32} {J : Nat → Nat → Int32} {X : Nat → Int64} {kd wh fi se : Nat → Nat} {lo hi : Nat → Int32} {rc : Nat → Nat} {f : Nat} (hD : mD K ma) (hT : mT kd wh fi se lo hi J n) (hV : tabOk kd wh fi se lo hi n) (hn : n ≤ 12) (hf : f < n) (hrc : ∀ j, j < n → rc j = rch kd fi se hi (J 7) rc pl j) (hrl : ∀ j, j < n → rc j ≤ 24) (hpl : pl ≤ 24) (i : Int32) (hno2 : ∀ j, j < rc f → ¬ i = nI j) : Met l y_R_satisfied (Cond.code y_R_satisfied b_R_satisfied 3 (some Jvm.ClassFile.FieldType.long) :: WALL) { frames := 3, cells := 0, slots := 0, locals := 71 } (pc0 K [.ref (ma 0), .int (nI f), .int i] (fun H => mW K ma n wt pl J X H)) (va_Ql (fun q H => q = 0 ∧ ∃ J', (∀ p, p ≠ 14 → J' p = J p) ∧ mW K ma n wt pl J' X H) (fun u t => t.heap = u) (mA ma)) 0 0 (mA ma) := by
  refine met0 (own := "MetricLogMonitorModel") (by decide) rfl (Nat.le_of_ble_eq_true rfl) (fun p e s m below meth c ls S hr hk hnm hC hH hl => ?_)
  have hl : lv_has ls 3 [(0, .ref (ma 0)), (1, .int (nI f)), (2, .int i)] := hl
  have hS : va_S (mA ma) s.heap s.heap [] := va_S.rf
  have hA : ∀ q, (mA ma) q → kz K ≤ q := fun q h => by obtain ⟨i, hi, rfl⟩ := h; exact hD.2 i hi
  have hw := hH
  have hrf := hrl f hf
  refine lv_aload_n S.1 S.2.1 d_R_satisfied_0 rfl (lv_at hl 0 rfl) ?_
  refine lv_iload_n S.1 S.2.1 d_R_satisfied_1 rfl (lv_at hl 1 rfl) ?_
  refine lv_iload_n S.1 S.2.1 d_R_satisfied_2 rfl (lv_at hl 2 rfl) ?_
  refine kw_i (A := mA ma) (k_V (rest := []) S (c_R_isKnown_y0 l hD hT hV hn hf hrc hrl hpl i hno2) kc_R_isKnown ⟨q_891, q_893, qp_22⟩ rfl rfl ⟨Nat.le_of_ble_eq_true rfl, Nat.le_of_ble_eq_true rfl⟩ hC hS hA hw ⟨11, _, _, _, rfl, hw.1⟩ rfl hl.1 rfl (Nat.le_of_ble_eq_true rfl) ⟨Nat.zero_le _, Nat.zero_le _⟩ d_R_satisfied_3) hS (fun q h => h) (fun r H locs er hz hkp hS => ?_)
  obtain ⟨er0, Jk, oJk, hw⟩ := er
  have hT : mT kd wh fi se lo hi Jk n := hT.to (fun p hp => oJk p (by omega))
  subst er0
  refine lv_if_eq (tgt := 23) S.1 S.2.1 d_R_satisfied_6 (by decide) (fun _ => ?_) (fun hx9 => absurd rfl hx9)
  refine lv_lconst (v := 0) S.1 S.2.1 d_R_satisfied_23 (by decide) ?_
  exact rw_l S hr hk hS d_R_satisfied_24 ⟨rfl, Jk, oJk, hw⟩
set_option maxHeartbeats 4000000 in
set_option maxRecDepth 100000 in
theorem c_R_satisfied_n (l : Launch) {K : KT} {ma : Nat → Nat} {n pl : Nat} {wt : Int32} {J : Nat → Nat → Int32} {X : Nat → Int64} (hD : mD K ma) (hn : n ≤ 12) (f : Int32) (hno : ∀ k, k < n → ¬ f = nI k) (i : Int32) : Met l y_R_satisfied (Cond.code y_R_satisfied b_R_satisfied 3 (some Jvm.ClassFile.FieldType.long) :: WALL) { frames := 2, cells := 0, slots := 0, locals := 43 } (pc0 K [.ref (ma 0), .int f, .int i] (fun H => mW K ma n wt pl J X H)) (va_Ql (fun q H => q = 0 ∧ mW K ma n wt pl J X H) (fun u t => t.heap = u) (mA ma)) 0 0 (mA ma) := by
  refine met0 (own := "MetricLogMonitorModel") (by decide) rfl (Nat.le_of_ble_eq_true rfl) (fun p e s m below meth c ls S hr hk hnm hC hH hl => ?_)
  have hl : lv_has ls 3 [(0, .ref (ma 0)), (1, .int f), (2, .int i)] := hl
  have hS : va_S (mA ma) s.heap s.heap [] := va_S.rf
  have hA : ∀ q, (mA ma) q → kz K ≤ q := fun q h => by obtain ⟨i, hi, rfl⟩ := h; exact hD.2 i hi
  have hw := hH
  refine lv_aload_n S.1 S.2.1 d_R_satisfied_0 rfl (lv_at hl 0 rfl) ?_
  refine lv_iload_n S.1 S.2.1 d_R_satisfied_1 rfl (lv_at hl 1 rfl) ?_
  refine lv_iload_n S.1 S.2.1 d_R_satisfied_2 rfl (lv_at hl 2 rfl) ?_
  refine kw_i (A := mA ma) (k_V (rest := []) S (c_R_isKnown_n l hD hn f hno i) kc_R_isKnown ⟨q_891, q_893, qp_22⟩ rfl rfl ⟨Nat.le_of_ble_eq_true rfl, Nat.le_of_ble_eq_true rfl⟩ hC hS hA hw ⟨11, _, _, _, rfl, hw.1⟩ rfl hl.1 rfl (Nat.le_of_ble_eq_true rfl) ⟨Nat.zero_le _, Nat.zero_le _⟩ d_R_satisfied_3) hS (fun q h => h) (fun r H locs er hz hkp hS => ?_)
  obtain ⟨er0, hw⟩ := er
  subst er0
  refine lv_if_eq (tgt := 23) S.1 S.2.1 d_R_satisfied_6 (by decide) (fun _ => ?_) (fun hx9 => absurd rfl hx9)
  refine lv_lconst (v := 0) S.1 S.2.1 d_R_satisfied_23 (by decide) ?_
  exact rw_l S hr hk hS d_R_satisfied_24 ⟨rfl, hw⟩
theorem r_s0 {a : Bool} {q : Nat → Bool} {m : Nat} (h : bI (a && !anyb q m) = 0) : (0 : Int32) = bI (a && !anyb q (m + 1)) := by
  refine bI_f ?_
  have h := bI_0.mp h
  show (a && !(anyb q m || q m)) = false
  cases a
  · rfl
  · rw [Bool.true_and] at h ⊢
    rw [show anyb q m = true by cases hh : anyb q m; rw [hh] at h; exact absurd h (by decide); rfl]; rfl
theorem r_s1 {a : Bool} {q : Nat → Bool} {m : Nat} (h : ¬ bI (a && !anyb q m) = 0) (hq : q m = false) : (1 : Int32) = bI (a && !anyb q (m + 1)) := by
  refine bI_t ?_
  have h := bI_n h
  show (a && !(anyb q m || q m)) = true
  rw [hq, Bool.or_false]; exact h
theorem r_s2 {a : Bool} {q : Nat → Bool} {m : Nat} (hq : q m = true) : (0 : Int32) = bI (a && !anyb q (m + 1)) := by
  refine bI_f ?_
  show (a && !(anyb q m || q m)) = false
  rw [hq, Bool.or_true]; cases a <;> rfl
set_option maxHeartbeats 4000000 in
set_option maxRecDepth 100000 in
theorem c_R_rows_y1 (l : Launch) {K : KT} {ma : Nat → Nat} {n pl : Nat} {wt : Int32} {J : Nat → Nat → Int32} {X : Nat → Int64} {kd wh fi se : Nat → Nat} {lo hi : Nat → Int32} {rc : Nat → Nat} {fr : Nat → Int32} {f j : Nat} (hD : mD K ma) (hT : mT kd wh fi se lo hi J n) (hV : tabOk kd wh fi se lo hi n) (hn : n ≤ 12) (hf : f < n) (hrc : ∀ j, j < n → rc j = rch kd fi se hi (J 7) rc pl j) (hrl : ∀ j, j < n → rc j ≤ 24) (hpl : pl ≤ 24) (hj : j < rc f) (hfr : ∀ j, j < n → fr j = frE kd wh fi se fr j) : Met l y_R_rows (Cond.code y_R_rows b_R_rows 8 (some Jvm.ClassFile.FieldType.int) :: WALL) { frames := 3, cells := 0, slots := 0, locals := 71 } (pc0 K [.ref (ma 0), .int (nI f), .int (nI j)] (fun H => mW K ma n wt pl J X H)) (va_Qi (fun q H => q = nI (ct (first (tb (X (24 * f + j))) (cn (bt (fr f)) 3)) 64) ∧ ∃ J', (∀ p, p < 11 → J' p = J p) ∧ mW K ma n wt pl J' X H) (fun u t => t.heap = u) (mA ma)) 0 0 (mA ma) := by
  refine met0 (own := "MetricLogMonitorModel") (by decide) rfl (Nat.le_of_ble_eq_true rfl) (fun p e s m below meth c ls S hr hk hnm hC hH hl => ?_)
  have hl : lv_has ls 8 [(0, .ref (ma 0)), (1, .int (nI f)), (2, .int (nI j))] := hl
  have hS : va_S (mA ma) s.heap s.heap [] := va_S.rf
  have hA : ∀ q, (mA ma) q → kz K ≤ q := fun q h => by obtain ⟨i, hi, rfl⟩ := h; exact hD.2 i hi
  have hw := hH
  have hrf := hrl f hf
  refine lv_aload_n S.1 S.2.1 d_R_rows_0 rfl (lv_at hl 0 rfl) ?_
  refine lv_iload_n S.1 S.2.1 d_R_rows_1 rfl (lv_at hl 1 rfl) ?_
  refine lv_iload_n S.1 S.2.1 d_R_rows_2 rfl (lv_at hl 2 rfl) ?_
  refine kw_i (A := mA ma) (k_V (rest := []) S (c_R_isKnown_y1 l hD hT hV hn hf hrc hrl hpl hj) kc_R_isKnown ⟨q_891, q_893, qp_22⟩ rfl rfl ⟨Nat.le_of_ble_eq_true rfl, Nat.le_of_ble_eq_true rfl⟩ hC hS hA hw ⟨11, _, _, _, rfl, hw.1⟩ rfl hl.1 rfl (Nat.le_of_ble_eq_true rfl) ⟨Nat.zero_le _, Nat.zero_le _⟩ d_R_rows_3) hS (fun q h => h) (fun r H locs er hz hkp hS => ?_)
  obtain ⟨er0, Jk, oJk, hw⟩ := er
  have hT : mT kd wh fi se lo hi Jk n := hT.to (fun p hp => oJk p (by omega))
  subst er0
  refine lv_if_ne (tgt := 11) S.1 S.2.1 d_R_rows_6 (by decide) (fun _ => ?_) (fun hx9 => absurd hx9 (by decide))
  refine lv_aload_n S.1 S.2.1 d_R_rows_11 rfl (lv_at hl 0 rfl) ?_
  refine lv_iload_n S.1 S.2.1 d_R_rows_12 rfl (lv_at hl 1 rfl) ?_
  refine kw_i (A := mA ma) (k_V (rest := []) S (c_R_free_y l hD hT hV hn hf hfr) kc_R_free ⟨q_900, q_802, q_803⟩ rfl rfl ⟨Nat.le_of_ble_eq_true rfl, Nat.le_of_ble_eq_true rfl⟩ hC hS hA hw ⟨11, _, _, _, rfl, hw.1⟩ rfl hl.1 rfl (Nat.le_of_ble_eq_true rfl) ⟨Nat.zero_le _, Nat.zero_le _⟩ d_R_rows_13) hS (fun q h => h) (fun r H locs er hz hkp hS => ?_)
  obtain ⟨er0, Jf, oJf, -, hw⟩ := er
  subst er0
  refine lv_istore_n S.1 S.2.1 d_R_rows_16 rfl hl (by decide) rfl (fun ls hl => ?_)
  have hl : lv_has ls 8 [(3, .int (fr f)), (0, .ref (ma 0)), (1, .int (nI f)), (2, .int (nI j))] := hl
  refine lv_iconst (v := 0) S.1 S.2.1 d_R_rows_17 (by decide) ?_
  refine lv_istore S.1 S.2.1 d_R_rows_18 hl (by decide) rfl (fun ls hl => ?_)
  have hl : lv_has ls 8 [(4, .int 0), (3, .int (fr f)), (0, .ref (ma 0)), (1, .int (nI f)), (2, .int (nI j))] := hl
  refine lv_iconst (v := 0) S.1 S.2.1 d_R_rows_20 (by decide) ?_
  refine lv_istore S.1 S.2.1 d_R_rows_21 hl (by decide) rfl (fun ls hl => ?_)
  have hl : lv_has ls 8 [(5, .int 0), (4, .int 0), (3, .int (fr f)), (0, .ref (ma 0)), (1, .int (nI f)), (2, .int (nI j))] := hl
  have key23 : ∀ (d23 : Nat) (n2 : Nat) (y : Int32) (H : Heap) (locs : List Loc) (ls : Array Slot), n2 + d23 = 64 → (y = nI (ct (rfst (tb (X (24 * f + j))) (bt (fr f))) n2)) → (mW K ma n wt pl Jf X H) → (va_S (mA ma) s.heap H locs) → lv_has ls 8 [(5, .int (nI n2)), (4, .int y), (0, .ref (ma 0)), (1, .int (nI f)), (2, .int (nI j)), (3, .int (fr f))] → W p l e ({ frames := 3, cells := 0, slots := 0, locals := 71 } : Room) s m ([.ref (ma 0), .int (nI f), .int (nI j)] : List Value).toArray below meth c H locs 0 0 (MQ below (va_Qi (fun q H => q = nI (ct (first (tb (X (24 * f + j))) (cn (bt (fr f)) 3)) 64) ∧ ∃ J', (∀ p, p < 11 → J' p = J p) ∧ mW K ma n wt pl J' X H) (fun u t => t.heap = u) (mA ma)) ([.ref (ma 0), .int (nI f), .int (nI j)] : List Value).toArray s 0 0 (mA ma)) (F0 m 23 ls []) := by
    intro d23
    induction d23 with
    | zero =>
      intro n2 y H locs ls hd23 hy hw hS hl
      refine lv_iload S.1 S.2.1 d_R_rows_23 (lv_at hl 0 rfl) ?_
      refine lv_bipush (v := 64) S.1 S.2.1 d_R_rows_25 (by decide) ?_
      refine lv_icmp_ge (tgt := 112) S.1 S.2.1 d_R_rows_27 (by decide) (fun _ => ?_) (fun hx9 => absurd (by rw [show n2 = 64 by omega]; decide) hx9)
      refine lv_iload S.1 S.2.1 d_R_rows_112 (lv_at hl 1 rfl) ?_
      exact rw_i S hr hk hS d_R_rows_114 ⟨(by rw [hy, show n2 = 64 by omega]; exact congrArg nI (ct_congr (fun i hi => rfst_eq hi))), Jf, (fun p hp => by rw [oJf p (by omega), oJk p (by omega)]), hw⟩
    | succ d23 ih23 =>
      intro n2 y H locs ls hd23 hy hw hS hl
      refine lv_iload S.1 S.2.1 d_R_rows_23 (lv_at hl 0 rfl) ?_
      refine lv_bipush (v := 64) S.1 S.2.1 d_R_rows_25 (by decide) ?_
      refine lv_icmp_ge (tgt := 112) S.1 S.2.1 d_R_rows_27 (by decide) (fun hx9 => absurd hx9 (nI_ge (b := 64) (by omega) (by decide))) (fun _ => ?_)
      refine lv_aload_n S.1 S.2.1 d_R_rows_30 rfl (lv_at hl 2 rfl) ?_
      refine lv_iload_n S.1 S.2.1 d_R_rows_31 rfl (lv_at hl 3 rfl) ?_
      refine lv_iload_n S.1 S.2.1 d_R_rows_32 rfl (lv_at hl 4 rfl) ?_
      refine lv_iload S.1 S.2.1 d_R_rows_33 (lv_at hl 0 rfl) ?_
      refine kVi (rest := []) S (c_R_at l (f := f) (i := j) (b := n2) (by omega) (by omega)) kc_R_at ⟨q_851, q_853, qp_15⟩ rfl rfl ⟨Nat.le_of_ble_eq_true rfl, Nat.le_of_ble_eq_true rfl⟩ hC hS hA hw ⟨11, _, _, _, rfl, hw.1⟩ ⟨Nat.zero_le _, Nat.zero_le _⟩ hl.1 rfl rfl (Nat.le_of_ble_eq_true rfl) d_R_rows_35 (fun r er => ?_)
      subst er
      refine lv_istore S.1 S.2.1 d_R_rows_38 hl (by decide) rfl (fun ls hl => ?_)
      have hl : lv_has ls 8 [(6, .int (bI (tb (X (24 * f + j)) n2))), (5, .int (nI n2)), (4, .int y), (0, .ref (ma 0)), (1, .int (nI f)), (2, .int (nI j)), (3, .int (fr f))] := hl
      refine lv_iconst (v := 0) S.1 S.2.1 d_R_rows_40 (by decide) ?_
      refine lv_istore S.1 S.2.1 d_R_rows_41 hl (by decide) rfl (fun ls hl => ?_)
      have hl : lv_has ls 8 [(7, .int 0), (6, .int (bI (tb (X (24 * f + j)) n2))), (5, .int (nI n2)), (4, .int y), (0, .ref (ma 0)), (1, .int (nI f)), (2, .int (nI j)), (3, .int (fr f))] := hl
      have key43 : ∀ (d43 : Nat) (m2 : Nat) (x : Int32) (H : Heap) (locs : List Loc) (ls : Array Slot), m2 + d43 = n2 → (x = bI ((tb (X (24 * f + j))) n2 && !anyb (fun m2 => (tb (X (24 * f + j))) m2 && agr (bt (fr f)) n2 m2) m2)) → (mW K ma n wt pl Jf X H) → (va_S (mA ma) s.heap H locs) → lv_has ls 8 [(7, .int (nI m2)), (6, .int x), (5, .int (nI n2)), (4, .int y), (0, .ref (ma 0)), (1, .int (nI f)), (2, .int (nI j)), (3, .int (fr f))] → W p l e ({ frames := 3, cells := 0, slots := 0, locals := 71 } : Room) s m ([.ref (ma 0), .int (nI f), .int (nI j)] : List Value).toArray below meth c H locs 0 0 (MQ below (va_Qi (fun q H => q = nI (ct (first (tb (X (24 * f + j))) (cn (bt (fr f)) 3)) 64) ∧ ∃ J', (∀ p, p < 11 → J' p = J p) ∧ mW K ma n wt pl J' X H) (fun u t => t.heap = u) (mA ma)) ([.ref (ma 0), .int (nI f), .int (nI j)] : List Value).toArray s 0 0 (mA ma)) (F0 m 43 ls []) := by
        intro d43
        induction d43 with
        | zero =>
          intro m2 x H locs ls hd43 hx hw hS hl
          have hx2 : x = bI (rfst (tb (X (24 * f + j))) (bt (fr f)) n2) := by rw [hx, show m2 = n2 by omega]; rfl
          refine lv_iload S.1 S.2.1 d_R_rows_43 (lv_at hl 0 rfl) ?_
          refine lv_iload S.1 S.2.1 d_R_rows_45 (lv_at hl 2 rfl) ?_
          refine lv_icmp_ge (tgt := 90) S.1 S.2.1 d_R_rows_47 (by decide) (fun _ => ?_) (fun hx9 => absurd (nI_le (by omega) (by omega)) hx9)
          refine lv_iload S.1 S.2.1 d_R_rows_90 (lv_at hl 1 rfl) ?_
          refine lv_if_eq (tgt := 102) S.1 S.2.1 d_R_rows_92 (by decide) (fun hbr1 => ?_) (fun hbr1 => ?_)
          · refine lv_iload S.1 S.2.1 d_R_rows_102 (lv_at hl 3 rfl) ?_
            refine lv_istore S.1 S.2.1 d_R_rows_104 hl (by decide) rfl (fun ls hl => ?_)
            have hl : lv_has ls 8 [(4, .int y), (7, .int (nI m2)), (6, .int x), (5, .int (nI n2)), (0, .ref (ma 0)), (1, .int (nI f)), (2, .int (nI j)), (3, .int (fr f))] := hl
            refine lv_iinc (v := nI (n2 + 1)) S.1 S.2.1 d_R_rows_106 hl (k := 3) rfl (nI_1 n2) (by decide) rfl (fun ls hl => ?_)
            have hl : lv_has ls 8 [(5, .int (nI (n2 + 1))), (4, .int y), (7, .int (nI m2)), (6, .int x), (0, .ref (ma 0)), (1, .int (nI f)), (2, .int (nI j)), (3, .int (fr f))] := hl
            refine lv_goto (tgt := 23) S.1 S.2.1 d_R_rows_109 (by decide) ?_
            exact ih23 (n2 + 1) y _ _ ls (by omega) (by rw [hy]; exact congrArg nI (ct_s0 (bI_0.mp (hx2.symm.trans hbr1)))) hw hS (lv_sub hl [0, 1, 4, 5, 6, 7] rfl)
          · refine lv_iload S.1 S.2.1 d_R_rows_95 (lv_at hl 3 rfl) ?_
            refine lv_iconst (v := 1) S.1 S.2.1 d_R_rows_97 (by decide) ?_
            refine lv_iadd S.1 S.2.1 d_R_rows_98 ?_
            refine lv_goto (tgt := 104) S.1 S.2.1 d_R_rows_99 (by decide) ?_
            refine lv_istore S.1 S.2.1 d_R_rows_104 hl (by decide) rfl (fun ls hl => ?_)
            have hl : lv_has ls 8 [(4, .int (y + 1)), (7, .int (nI m2)), (6, .int x), (5, .int (nI n2)), (0, .ref (ma 0)), (1, .int (nI f)), (2, .int (nI j)), (3, .int (fr f))] := hl
            refine lv_iinc (v := nI (n2 + 1)) S.1 S.2.1 d_R_rows_106 hl (k := 3) rfl (nI_1 n2) (by decide) rfl (fun ls hl => ?_)
            have hl : lv_has ls 8 [(5, .int (nI (n2 + 1))), (4, .int (y + 1)), (7, .int (nI m2)), (6, .int x), (0, .ref (ma 0)), (1, .int (nI f)), (2, .int (nI j)), (3, .int (fr f))] := hl
            refine lv_goto (tgt := 23) S.1 S.2.1 d_R_rows_109 (by decide) ?_
            exact ih23 (n2 + 1) (y + 1) _ _ ls (by omega) (by rw [hy, nI_1]; exact congrArg nI (ct_s1 (bI_n (fun z => hbr1 (hx2.trans z))))) hw hS (lv_sub hl [0, 1, 4, 5, 6, 7] rfl)
        | succ d43 ih43 =>
          intro m2 x H locs ls hd43 hx hw hS hl
          refine lv_iload S.1 S.2.1 d_R_rows_43 (lv_at hl 0 rfl) ?_
          refine lv_iload S.1 S.2.1 d_R_rows_45 (lv_at hl 2 rfl) ?_
          refine lv_icmp_ge (tgt := 90) S.1 S.2.1 d_R_rows_47 (by decide) (fun hx9 => absurd hx9 (nI_ge (by omega) (by omega))) (fun _ => ?_)
          refine lv_iload S.1 S.2.1 d_R_rows_50 (lv_at hl 1 rfl) ?_
          refine lv_if_eq (tgt := 81) S.1 S.2.1 d_R_rows_52 (by decide) (fun hbr2 => ?_) (fun hbr2 => ?_)
          · refine lv_iconst (v := 0) S.1 S.2.1 d_R_rows_81 (by decide) ?_
            refine lv_istore S.1 S.2.1 d_R_rows_82 hl (by decide) rfl (fun ls hl => ?_)
            have hl : lv_has ls 8 [(6, .int 0), (7, .int (nI m2)), (5, .int (nI n2)), (4, .int y), (0, .ref (ma 0)), (1, .int (nI f)), (2, .int (nI j)), (3, .int (fr f))] := hl
            refine lv_iinc (v := nI (m2 + 1)) S.1 S.2.1 d_R_rows_84 hl (k := 1) rfl (nI_1 m2) (by decide) rfl (fun ls hl => ?_)
            have hl : lv_has ls 8 [(7, .int (nI (m2 + 1))), (6, .int 0), (5, .int (nI n2)), (4, .int y), (0, .ref (ma 0)), (1, .int (nI f)), (2, .int (nI j)), (3, .int (fr f))] := hl
            refine lv_goto (tgt := 43) S.1 S.2.1 d_R_rows_87 (by decide) ?_
            exact ih43 (m2 + 1) 0 _ _ ls (by omega) (r_s0 (hx.symm.trans hbr2)) hw hS (lv_sub hl [0, 1, 2, 3, 4, 5, 6, 7] rfl)
          · refine lv_aload_n S.1 S.2.1 d_R_rows_55 rfl (lv_at hl 4 rfl) ?_
            refine lv_iload_n S.1 S.2.1 d_R_rows_56 rfl (lv_at hl 5 rfl) ?_
            refine lv_iload_n S.1 S.2.1 d_R_rows_57 rfl (lv_at hl 6 rfl) ?_
            refine lv_iload S.1 S.2.1 d_R_rows_58 (lv_at hl 0 rfl) ?_
            refine kVi (rest := []) S (c_R_at l (f := f) (i := j) (b := m2) (by omega) (by omega)) kc_R_at ⟨q_851, q_853, qp_15⟩ rfl rfl ⟨Nat.le_of_ble_eq_true rfl, Nat.le_of_ble_eq_true rfl⟩ hC hS hA hw ⟨11, _, _, _, rfl, hw.1⟩ ⟨Nat.zero_le _, Nat.zero_le _⟩ hl.1 rfl rfl (Nat.le_of_ble_eq_true rfl) d_R_rows_60 (fun r er => ?_)
            subst er
            refine lv_if_eq (tgt := 77) S.1 S.2.1 d_R_rows_63 (by decide) (fun hbr3 => ?_) (fun hbr3 => ?_)
            · refine lv_iconst (v := 1) S.1 S.2.1 d_R_rows_77 (by decide) ?_
              refine lv_goto (tgt := 82) S.1 S.2.1 d_R_rows_78 (by decide) ?_
              refine lv_istore S.1 S.2.1 d_R_rows_82 hl (by decide) rfl (fun ls hl => ?_)
              have hl : lv_has ls 8 [(6, .int 1), (7, .int (nI m2)), (5, .int (nI n2)), (4, .int y), (0, .ref (ma 0)), (1, .int (nI f)), (2, .int (nI j)), (3, .int (fr f))] := hl
              refine lv_iinc (v := nI (m2 + 1)) S.1 S.2.1 d_R_rows_84 hl (k := 1) rfl (nI_1 m2) (by decide) rfl (fun ls hl => ?_)
              have hl : lv_has ls 8 [(7, .int (nI (m2 + 1))), (6, .int 1), (5, .int (nI n2)), (4, .int y), (0, .ref (ma 0)), (1, .int (nI f)), (2, .int (nI j)), (3, .int (fr f))] := hl
              refine lv_goto (tgt := 43) S.1 S.2.1 d_R_rows_87 (by decide) ?_
              exact ih43 (m2 + 1) 1 _ _ ls (by omega) (r_s1 (fun z => hbr2 (hx.trans z)) (by rw [bI_0.mp hbr3]; rfl)) hw hS (lv_sub hl [0, 1, 2, 3, 4, 5, 6, 7] rfl)
            · refine lv_iload S.1 S.2.1 d_R_rows_66 (lv_at hl 2 rfl) ?_
              refine lv_iload S.1 S.2.1 d_R_rows_68 (lv_at hl 0 rfl) ?_
              refine lv_iload_n S.1 S.2.1 d_R_rows_70 rfl (lv_at hl 7 rfl) ?_
              refine kSi (rest := []) S (c_R_agree l (n1 := n2) (n2 := m2) (z := fr f) (by omega) (by omega)) kc_R_agree ⟨q_901, q_902⟩ rfl rfl ⟨Nat.le_of_ble_eq_true rfl, Nat.le_of_ble_eq_true rfl⟩ hC hS hA trivial ⟨Nat.zero_le _, Nat.zero_le _⟩ hl.1 rfl rfl (Nat.le_of_ble_eq_true rfl) d_R_rows_71 (fun r er => ?_)
              subst er
              refine lv_if_ne (tgt := 81) S.1 S.2.1 d_R_rows_74 (by decide) (fun hbr4 => ?_) (fun hbr4 => ?_)
              · refine lv_iconst (v := 0) S.1 S.2.1 d_R_rows_81 (by decide) ?_
                refine lv_istore S.1 S.2.1 d_R_rows_82 hl (by decide) rfl (fun ls hl => ?_)
                have hl : lv_has ls 8 [(6, .int 0), (7, .int (nI m2)), (5, .int (nI n2)), (4, .int y), (0, .ref (ma 0)), (1, .int (nI f)), (2, .int (nI j)), (3, .int (fr f))] := hl
                refine lv_iinc (v := nI (m2 + 1)) S.1 S.2.1 d_R_rows_84 hl (k := 1) rfl (nI_1 m2) (by decide) rfl (fun ls hl => ?_)
                have hl : lv_has ls 8 [(7, .int (nI (m2 + 1))), (6, .int 0), (5, .int (nI n2)), (4, .int y), (0, .ref (ma 0)), (1, .int (nI f)), (2, .int (nI j)), (3, .int (fr f))] := hl
                refine lv_goto (tgt := 43) S.1 S.2.1 d_R_rows_87 (by decide) ?_
                exact ih43 (m2 + 1) 0 _ _ ls (by omega) (r_s2 (by rw [bI_n hbr3, bI_n hbr4]; rfl)) hw hS (lv_sub hl [0, 1, 2, 3, 4, 5, 6, 7] rfl)
              · refine lv_iconst (v := 1) S.1 S.2.1 d_R_rows_77 (by decide) ?_
                refine lv_goto (tgt := 82) S.1 S.2.1 d_R_rows_78 (by decide) ?_
                refine lv_istore S.1 S.2.1 d_R_rows_82 hl (by decide) rfl (fun ls hl => ?_)
                have hl : lv_has ls 8 [(6, .int 1), (7, .int (nI m2)), (5, .int (nI n2)), (4, .int y), (0, .ref (ma 0)), (1, .int (nI f)), (2, .int (nI j)), (3, .int (fr f))] := hl
                refine lv_iinc (v := nI (m2 + 1)) S.1 S.2.1 d_R_rows_84 hl (k := 1) rfl (nI_1 m2) (by decide) rfl (fun ls hl => ?_)
                have hl : lv_has ls 8 [(7, .int (nI (m2 + 1))), (6, .int 1), (5, .int (nI n2)), (4, .int y), (0, .ref (ma 0)), (1, .int (nI f)), (2, .int (nI j)), (3, .int (fr f))] := hl
                refine lv_goto (tgt := 43) S.1 S.2.1 d_R_rows_87 (by decide) ?_
                exact ih43 (m2 + 1) 1 _ _ ls (by omega) (r_s1 (fun z => hbr2 (hx.trans z)) (by rw [bI_0.mp hbr4, Bool.and_false])) hw hS (lv_sub hl [0, 1, 2, 3, 4, 5, 6, 7] rfl)
      exact key43 n2 0 (bI ((tb (X (24 * f + j))) n2)) _ _ ls (by omega) (by show _ = bI (_ && !false); rw [Bool.not_false, Bool.and_true]) hw hS (lv_sub hl [0, 1, 2, 3, 4, 5, 6, 7] rfl)
  exact key23 64 0 0 _ _ ls rfl rfl hw hS (lv_sub hl [0, 1, 3, 4, 5, 2] rfl)
set_option maxHeartbeats 4000000 in
set_option maxRecDepth 100000 in
theorem c_R_rows_y0 (l : Launch) {K : KT} {ma : Nat → Nat} {n pl : Nat} {wt : Int32} {J : Nat → Nat → Int32} {X : Nat → Int64} {kd wh fi se : Nat → Nat} {lo hi : Nat → Int32} {rc : Nat → Nat} {f : Nat} (hD : mD K ma) (hT : mT kd wh fi se lo hi J n) (hV : tabOk kd wh fi se lo hi n) (hn : n ≤ 12) (hf : f < n) (hrc : ∀ j, j < n → rc j = rch kd fi se hi (J 7) rc pl j) (hrl : ∀ j, j < n → rc j ≤ 24) (hpl : pl ≤ 24) (i : Int32) (hno2 : ∀ j, j < rc f → ¬ i = nI j) : Met l y_R_rows (Cond.code y_R_rows b_R_rows 8 (some Jvm.ClassFile.FieldType.int) :: WALL) { frames := 3, cells := 0, slots := 0, locals := 71 } (pc0 K [.ref (ma 0), .int (nI f), .int i] (fun H => mW K ma n wt pl J X H)) (va_Qi (fun q H => q = -1 ∧ ∃ J', (∀ p, p ≠ 14 → J' p = J p) ∧ mW K ma n wt pl J' X H) (fun u t => t.heap = u) (mA ma)) 0 0 (mA ma) := by
  refine met0 (own := "MetricLogMonitorModel") (by decide) rfl (Nat.le_of_ble_eq_true rfl) (fun p e s m below meth c ls S hr hk hnm hC hH hl => ?_)
  have hl : lv_has ls 8 [(0, .ref (ma 0)), (1, .int (nI f)), (2, .int i)] := hl
  have hS : va_S (mA ma) s.heap s.heap [] := va_S.rf
  have hA : ∀ q, (mA ma) q → kz K ≤ q := fun q h => by obtain ⟨i, hi, rfl⟩ := h; exact hD.2 i hi
  have hw := hH
  have hrf := hrl f hf
  refine lv_aload_n S.1 S.2.1 d_R_rows_0 rfl (lv_at hl 0 rfl) ?_
  refine lv_iload_n S.1 S.2.1 d_R_rows_1 rfl (lv_at hl 1 rfl) ?_
  refine lv_iload_n S.1 S.2.1 d_R_rows_2 rfl (lv_at hl 2 rfl) ?_
  refine kw_i (A := mA ma) (k_V (rest := []) S (c_R_isKnown_y0 l hD hT hV hn hf hrc hrl hpl i hno2) kc_R_isKnown ⟨q_891, q_893, qp_22⟩ rfl rfl ⟨Nat.le_of_ble_eq_true rfl, Nat.le_of_ble_eq_true rfl⟩ hC hS hA hw ⟨11, _, _, _, rfl, hw.1⟩ rfl hl.1 rfl (Nat.le_of_ble_eq_true rfl) ⟨Nat.zero_le _, Nat.zero_le _⟩ d_R_rows_3) hS (fun q h => h) (fun r H locs er hz hkp hS => ?_)
  obtain ⟨er0, Jk, oJk, hw⟩ := er
  have hT : mT kd wh fi se lo hi Jk n := hT.to (fun p hp => oJk p (by omega))
  subst er0
  refine lv_if_ne (tgt := 11) S.1 S.2.1 d_R_rows_6 (by decide) (fun hx9 => absurd rfl hx9) (fun _ => ?_)
  refine lv_iconst (v := (-1)) S.1 S.2.1 d_R_rows_9 (by decide) ?_
  exact rw_i S hr hk hS d_R_rows_10 ⟨rfl, Jk, oJk, hw⟩
set_option maxHeartbeats 4000000 in
set_option maxRecDepth 100000 in
theorem c_R_rows_n (l : Launch) {K : KT} {ma : Nat → Nat} {n pl : Nat} {wt : Int32} {J : Nat → Nat → Int32} {X : Nat → Int64} (hD : mD K ma) (hn : n ≤ 12) (f : Int32) (hno : ∀ k, k < n → ¬ f = nI k) (i : Int32) : Met l y_R_rows (Cond.code y_R_rows b_R_rows 8 (some Jvm.ClassFile.FieldType.int) :: WALL) { frames := 2, cells := 0, slots := 0, locals := 43 } (pc0 K [.ref (ma 0), .int f, .int i] (fun H => mW K ma n wt pl J X H)) (va_Qi (fun q H => q = -1 ∧ mW K ma n wt pl J X H) (fun u t => t.heap = u) (mA ma)) 0 0 (mA ma) := by
  refine met0 (own := "MetricLogMonitorModel") (by decide) rfl (Nat.le_of_ble_eq_true rfl) (fun p e s m below meth c ls S hr hk hnm hC hH hl => ?_)
  have hl : lv_has ls 8 [(0, .ref (ma 0)), (1, .int f), (2, .int i)] := hl
  have hS : va_S (mA ma) s.heap s.heap [] := va_S.rf
  have hA : ∀ q, (mA ma) q → kz K ≤ q := fun q h => by obtain ⟨i, hi, rfl⟩ := h; exact hD.2 i hi
  have hw := hH
  refine lv_aload_n S.1 S.2.1 d_R_rows_0 rfl (lv_at hl 0 rfl) ?_
  refine lv_iload_n S.1 S.2.1 d_R_rows_1 rfl (lv_at hl 1 rfl) ?_
  refine lv_iload_n S.1 S.2.1 d_R_rows_2 rfl (lv_at hl 2 rfl) ?_
  refine kw_i (A := mA ma) (k_V (rest := []) S (c_R_isKnown_n l hD hn f hno i) kc_R_isKnown ⟨q_891, q_893, qp_22⟩ rfl rfl ⟨Nat.le_of_ble_eq_true rfl, Nat.le_of_ble_eq_true rfl⟩ hC hS hA hw ⟨11, _, _, _, rfl, hw.1⟩ rfl hl.1 rfl (Nat.le_of_ble_eq_true rfl) ⟨Nat.zero_le _, Nat.zero_le _⟩ d_R_rows_3) hS (fun q h => h) (fun r H locs er hz hkp hS => ?_)
  obtain ⟨er0, hw⟩ := er
  subst er0
  refine lv_if_ne (tgt := 11) S.1 S.2.1 d_R_rows_6 (by decide) (fun hx9 => absurd rfl hx9) (fun _ => ?_)
  refine lv_iconst (v := (-1)) S.1 S.2.1 d_R_rows_9 (by decide) ?_
  exact rw_i S hr hk hS d_R_rows_10 ⟨rfl, hw⟩
