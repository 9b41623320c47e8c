/-! advance -/
section
variable {kd wh fi se : Nat → Nat} {lo hi fr rg er T P : Nat → Int32} {dc ad sa : Nat → Nat} {stt : Nat → Nat → Int64} {n N k i b : Nat} {f : Nat → Int64} {K : KT} {H : Heap}
theorem sat_own (hV : tabOk kd wh fi se lo hi n) (hk : k < n) (hN : N ≤ 24) (hiN : i < N) (hb : b < 64) : sat kd wh fi se lo hi T P (yv dc (va_up stt k f)) N k i b = sat kd wh fi se lo hi T P (yv dc stt) N k i b := by
  obtain ⟨v9, vw, vt, vp, vs, vh⟩ := hV k hk
  refine sat_congr hb vw hiN (fun h j hj x hx => ?_) (fun h j hj x hx => ?_)
  · rw [yv_sv (by omega), yv_sv (by omega), va_up_ne _ _ (by have := (vp h).1; omega)]
  · rw [yv_sv (by omega), yv_sv (by omega), va_up_ne _ _ (by have := (vp h).2; omega)]
theorem fm_le (h : ∀ j, j < k → fmk K kd wh fi se lo hi fr rg er dc ad sa stt H j) (h1 : va_at K.1 classes (ad k, fo kd wh fi se lo hi fr rg er dc ad sa k) H) (h2 : va_at K.1 classes (sa k, .inl (kJ K, 24, .inr (.inl f))) H) : ∀ j, j ≤ k → fmk K kd wh fi se lo hi fr rg er dc ad sa (va_up stt k f) H j := by
  intro j hj
  by_cases e : j = k
  · subst e
    exact ⟨h1, by rw [va_up_self]; exact h2⟩
  · have := h j (by omega)
    exact ⟨this.1, by rw [va_up_ne _ _ e]; exact this.2⟩
end
set_option maxHeartbeats 4000000 in
set_option maxRecDepth 100000 in
theorem c_Form_advance (l : Launch) {K : KT} {kd wh fi se : Nat → Nat} {lo hi fr rg er T P : Nat → Int32} {dc ad sa t : Nat → Nat} {stt : Nat → Nat → Int64} {n N k : Nat} {lg tm pr : Nat} {G : Int64} {Qp : Nat → Int64} (hV : tabOk kd wh fi se lo hi n) (hk2 : k < n) (hdc : ∀ j, j ≤ k → dc j ≤ 24) (hrN : rch kd fi se hi T dc N k ≤ N) (hT : tmOk T t N) (hN : N ≤ 24) (hN1 : 1 ≤ N) (hQP : ∀ i, i < N → ∀ r x y, r < 3 → x < 4 → y < 4 → tb (Qp i) (16 * r + 4 * x + y) = bt (P (24 * r + i)) (x + 4 * y)) (hne : ∀ j, j < k → ad j ≠ ad k ∧ ad j ≠ sa k ∧ sa j ≠ ad k ∧ sa j ≠ sa k) (hself : ad k ≠ sa k) (hlx : ∀ x, x = lg ∨ x = tm ∨ x = pr → x ≠ ad k ∧ x ≠ sa k) (hz1 : kz K ≤ ad k) (hz2 : kz K ≤ sa k) : Met l y_Form_advance (Cond.code y_Form_advance b_Form_advance 4 none :: WALL) { frames := 4, cells := 0, slots := 0, locals := 100 } (pc0 K [.ref (ad k), .ref lg] (fun H => (∀ j, j ≤ k → fmk K kd wh fi se lo hi fr rg er dc ad sa stt H j) ∧ va_at K.1 classes (lg, .inr (9, [.ref tm, .ref pr, .long G, .int (nI N)])) H ∧ va_at K.1 classes (tm, .inl (kI K, 24, .inl T)) H ∧ va_at K.1 classes (pr, .inl (kJ K, 24, .inr (.inl Qp))) H)) (va_Qv (fun H => ∃ f : Nat → Int64, (∀ x, x < dc k → f x = stt k x) ∧ (∀ x, dc k ≤ x → x < rch kd fi se hi T dc N k → ∀ b, b < 64 → tb (f x) b = sat kd wh fi se lo hi T P (yv dc stt) N k x b) ∧ va_at K.1 classes (ad k, fo kd wh fi se lo hi fr rg er (va_up dc k (rch kd fi se hi T dc N k)) ad sa k) H ∧ va_at K.1 classes (sa k, .inl (kJ K, 24, .inr (.inl f))) H) (fun u t => t.heap = u) (fun q => q = ad k ∨ q = sa k)) 0 0 (fun q => q = ad k ∨ q = sa k) := by
  refine met0 (own := "MetricLogMonitor$Formula") (by decide) rfl (Nat.le_of_ble_eq_true rfl) (fun p e s m below meth c ls S hr hk hnm hC hH hl => ?_)
  obtain ⟨hall, hg, ht, hq⟩ := hH
  have hl : lv_has ls 4 [(0, .ref (ad k)), (1, .ref lg)] := hl
  have hS : va_S (fun q => q = ad k ∨ q = sa k) s.heap s.heap [] := va_S.rf
  have hA : ∀ q, (fun q => q = ad k ∨ q = sa k) q → kz K ≤ q := fun q h => by rcases h with rfl | rfl <;> assumption
  have hb := (hall k (Nat.le_refl k)).1
  have hs := (hall k (Nat.le_refl k)).2
  have hfm : ∀ j, j < k → fmk K kd wh fi se lo hi fr rg er dc ad sa stt s.heap j := fun j hj => hall j (by omega)
  have hdk := hdc k (Nat.le_refl k)
  refine lv_aload_n S.1 S.2.1 d_Form_advance_0 rfl (lv_at hl 0 rfl) ?_
  refine lv_aload_n S.1 S.2.1 d_Form_advance_1 rfl (lv_at hl 1 rfl) ?_
  refine adv_reach (rest := []) S hC hS hA hV hk2 hall hdc hg ht hT hN hN1 ⟨Nat.le_of_ble_eq_true rfl, Nat.le_of_ble_eq_true rfl⟩ ⟨Nat.zero_le _, Nat.zero_le _⟩ hl.1 (Nat.le_of_ble_eq_true rfl) d_Form_advance_2 ?_
  refine lv_bipush (v := 24) S.1 S.2.1 d_Form_advance_5 (by decide) ?_
  refine va_mmin S.1 S.2.1 (by rw [S.2.2.1]; exact hl.1.symm) S.2.2.2.1 (S.2.2.2.2 _ q_563) (S.2.2.2.2 _ q_240) (S.2.2.2.2 _ q_10) (S.2.2.2.2 _ q_241) (Nat.le_of_ble_eq_true rfl) (Nat.le_of_ble_eq_true rfl) (Nat.zero_le _) (Nat.zero_le _) d_Form_advance_7 ?_
  refine tpi (y := nI (rch kd fi se hi T dc N k)) ((nI_min (a := rch kd fi se hi T dc N k) (b := 24) (by omega) (by decide)).trans (by rw [Nat.min_eq_left (by omega)])) ?_
  refine lv_istore_n S.1 S.2.1 d_Form_advance_10 rfl hl (by decide) rfl (fun ls hl => ?_)
  have hl : lv_has ls 4 [(2, .int (nI (rch kd fi se hi T dc N k))), (0, .ref (ad k)), (1, .ref lg)] := hl
  refine lv_aload_n S.1 S.2.1 d_Form_advance_11 rfl (lv_at hl 1 rfl) ?_
  refine fm_get (v := .int (nI (dc k))) S hC (cx_lt (kd k)) 3 (by decide) hb q_164  rfl d_Form_advance_12 ?_
  refine lv_istore_n S.1 S.2.1 d_Form_advance_15 rfl hl (by decide) rfl (fun ls hl => ?_)
  have hl : lv_has ls 4 [(3, .int (nI (dc k))), (2, .int (nI (rch kd fi se hi T dc N k))), (0, .ref (ad k)), (1, .ref lg)] := hl
  have key16 : ∀ (d16 : Nat) (i : Nat) (f : Nat → Int64) (H : Heap) (locs : List Loc) (ls : Array Slot), i + d16 = dc k + (rch kd fi se hi T dc N k - dc k) → (dc k ≤ i) → (∀ x, x < dc k → f x = stt k x) → (∀ x, dc k ≤ x → x < i → ∀ b, b < 64 → tb (f x) b = sat kd wh fi se lo hi T P (yv dc stt) N k x b) → (va_at K.1 classes (ad k, .inr (cx (kd k), .int (fr k) :: .int (rg k) :: .int (er k) :: .int (nI (dc k)) :: .ref (sa k) :: xt kd wh fi se lo hi ad k)) H) → (va_at K.1 classes (sa k, .inl (kJ K, 24, .inr (.inl f))) H) → (∀ j, j < k → fmk K kd wh fi se lo hi fr rg er dc ad sa stt H j) → (va_at K.1 classes (lg, .inr (9, [.ref tm, .ref pr, .long G, .int (nI N)])) H) → (va_at K.1 classes (tm, .inl (kI K, 24, .inl T)) H) → (va_at K.1 classes (pr, .inl (kJ K, 24, .inr (.inl Qp))) H) → (va_S (fun q => q = ad k ∨ q = sa k) s.heap H locs) → lv_has ls 4 [(3, .int (nI i)), (2, .int (nI (rch kd fi se hi T dc N k))), (0, .ref (ad k)), (1, .ref lg)] → W p l e ({ frames := 4, cells := 0, slots := 0, locals := 100 } : Room) s m ([.ref (ad k), .ref lg] : List Value).toArray below meth c H locs 0 0 (MQ below (va_Qv (fun H => ∃ f : Nat → Int64, (∀ x, x < dc k → f x = stt k x) ∧ (∀ x, dc k ≤ x → x < rch kd fi se hi T dc N k → ∀ b, b < 64 → tb (f x) b = sat kd wh fi se lo hi T P (yv dc stt) N k x b) ∧ va_at K.1 classes (ad k, fo kd wh fi se lo hi fr rg er (va_up dc k (rch kd fi se hi T dc N k)) ad sa k) H ∧ va_at K.1 classes (sa k, .inl (kJ K, 24, .inr (.inl f))) H) (fun u t => t.heap = u) (fun q => q = ad k ∨ q = sa k)) ([.ref (ad k), .ref lg] : List Value).toArray s 0 0 (fun q => q = ad k ∨ q = sa k)) (F0 m 16 ls []) := by
    intro d16
    induction d16 with
    | zero =>
      intro i f H locs ls hd16 hlo hf1 hf2 hb hs hfm hg ht hq hS hl
      refine lv_iload_n S.1 S.2.1 d_Form_advance_16 rfl (lv_at hl 0 rfl) ?_
      refine lv_iload_n S.1 S.2.1 d_Form_advance_17 rfl (lv_at hl 1 rfl) ?_
      refine lv_icmp_ge (tgt := 39) S.1 S.2.1 d_Form_advance_18 (by decide) (fun _ => ?_) (fun hx9 => absurd (nI_le (by omega) (by omega)) hx9)
      refine lv_aload_n S.1 S.2.1 d_Form_advance_39 rfl (lv_at hl 2 rfl) ?_
      refine lv_iload_n S.1 S.2.1 d_Form_advance_40 rfl (lv_at hl 1 rfl) ?_
      refine fm_put (A := fun q => q = ad k ∨ q = sa k) (x := nI (rch kd fi se hi T dc N k)) S hC (cx_lt (kd k)) hb (Or.inl rfl) hS q_164 (by simp) d_Form_advance_41 (fun H locs hb oq hz hS => ?_)
      have hb : va_at K.1 classes (ad k, .inr (cx (kd k), .int (fr k) :: .int (rg k) :: .int (er k) :: .int (nI (rch kd fi se hi T dc N k)) :: .ref (sa k) :: xt kd wh fi se lo hi ad k)) H := hb
      have hs := hs.sty oq hself.symm
      have hg := hg.sty oq (hlx lg (Or.inl rfl)).1
      have ht := ht.sty oq (hlx tm (Or.inr (Or.inl rfl))).1
      have hq := hq.sty oq (hlx pr (Or.inr (Or.inr rfl))).1
      have hfm := (show ∀ j, j < k → fmk K kd wh fi se lo hi fr rg er dc ad sa stt H j from fun j hj => ⟨(hfm j hj).1.sty oq (hne j hj).1, (hfm j hj).2.sty oq (hne j hj).2.2.1⟩)
      exact rw_v S hr hk hS d_Form_advance_44 ⟨f, hf1, fun x h1 h2 => hf2 x h1 (by omega), by unfold fo; rw [va_up_self]; exact hb, hs⟩
    | succ d16 ih16 =>
      intro i f H locs ls hd16 hlo hf1 hf2 hb hs hfm hg ht hq hS hl
      refine lv_iload_n S.1 S.2.1 d_Form_advance_16 rfl (lv_at hl 0 rfl) ?_
      refine lv_iload_n S.1 S.2.1 d_Form_advance_17 rfl (lv_at hl 1 rfl) ?_
      refine lv_icmp_ge (tgt := 39) S.1 S.2.1 d_Form_advance_18 (by decide) (fun hx9 => absurd hx9 (nI_ge (by omega) (by omega))) (fun _ => ?_)
      refine lv_aload_n S.1 S.2.1 d_Form_advance_21 rfl (lv_at hl 2 rfl) ?_
      refine fm_get (v := .ref (sa k)) S hC (cx_lt (kd k)) 4 (by decide) hb q_166  rfl d_Form_advance_22 ?_
      refine lv_iload_n S.1 S.2.1 d_Form_advance_25 rfl (lv_at hl 0 rfl) ?_
      refine lv_aload_n S.1 S.2.1 d_Form_advance_26 rfl (lv_at hl 2 rfl) ?_
      refine lv_aload_n S.1 S.2.1 d_Form_advance_27 rfl (lv_at hl 3 rfl) ?_
      refine lv_iload_n S.1 S.2.1 d_Form_advance_28 rfl (lv_at hl 0 rfl) ?_
      refine adv_eval (i := i) (P := P) (stt := va_up stt k f) (rest := [.int (nI i), .ref (sa k)]) S hC hS hA hV hk2 (fm_le hfm hb hs) hdc hg ht hT hN hN1 ⟨Nat.le_of_ble_eq_true rfl, Nat.le_of_ble_eq_true rfl⟩ ⟨Nat.zero_le _, Nat.zero_le _⟩ hl.1 (Nat.le_of_ble_eq_true rfl) hq (hQP i (by omega)) (by omega) d_Form_advance_29 (fun z hz0 => ?_)
      refine f_last (A := fun q => q = ad k ∨ q = sa k) (j := i) (x := z) S hC hs (Or.inr rfl) hS (by decide) (by omega) d_Form_advance_32 (fun H locs hs oq hz hS => ?_)
      have hb := hb.sty oq hself
      have hg := hg.sty oq (hlx lg (Or.inl rfl)).2
      have ht := ht.sty oq (hlx tm (Or.inr (Or.inl rfl))).2
      have hq := hq.sty oq (hlx pr (Or.inr (Or.inr rfl))).2
      have hfm := (show ∀ j, j < k → fmk K kd wh fi se lo hi fr rg er dc ad sa stt H j from fun j hj => ⟨(hfm j hj).1.sty oq (hne j hj).2.1, (hfm j hj).2.sty oq (hne j hj).2.2.2⟩)
      refine lv_iinc (v := nI (i + 1)) S.1 S.2.1 d_Form_advance_33 hl (k := 0) rfl (nI_1 i) (by decide) rfl (fun ls hl => ?_)
      have hl : lv_has ls 4 [(3, .int (nI (i + 1))), (2, .int (nI (rch kd fi se hi T dc N k))), (0, .ref (ad k)), (1, .ref lg)] := hl
      refine lv_goto (tgt := 16) S.1 S.2.1 d_Form_advance_36 (by decide) ?_
      exact ih16 (i + 1) _ _ _ ls (by omega) (by omega) (fun x hx => by rw [pk_uLn (by omega)]; exact hf1 x hx) (fun x h1 h2 b hb0 => if e0 : x = i then by rw [e0, pk_uLs, hz0 b hb0, sat_own hV hk2 hN (by omega) hb0] else by rw [pk_uLn e0]; exact hf2 x h1 (by omega) b hb0) hb hs hfm hg ht hq hS (lv_sub hl [0, 1, 2, 3] rfl)
  exact key16 (rch kd fi se hi T dc N k - dc k) (dc k) (stt k) _ _ ls rfl (Nat.le_refl _) (fun _ _ => rfl) (fun x h1 h2 => absurd h2 (by omega)) hb hs hfm hg ht hq hS (lv_sub hl [0, 1, 2, 3] rfl)
