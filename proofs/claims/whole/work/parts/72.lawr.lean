/-! the law's reading calls -/
section
variable {p : Program} {e : Env} {s : State} {m : MethodId} {below : List Frame} {meth : Method} {c : Code} {H : Heap} {locs : List Loc} {cells slots : Nat} {Q : State → Prop} {ls : Array Slot}
variable {K : KT} {mon lst lg tm pr b L i : Nat} {ma : Nat → Nat} {xs : Nat → Int32}
theorem s_ld {l : Launch} {R : Room} {args : Array Value} {cc : ByteArray} {pc nL j : Nat} {own : String} {rest : List Value} {A : Nat → Prop} (S : CallFix p m c cc nL s args WALL own) (hX : va_X b L xs s s.heap) (hbl : b < s.heap.size) (hbA : ¬ A b) (hS : va_S A s.heap H locs) (hj : j < L) (hL : L ≤ 2560) (hdg : decode cc pc = .ok (.iaload, 1))
    (kk : W p l e R s m args below meth c H locs cells slots Q (F0 m (pc + 1) ls (.int (xs j) :: rest))) : W p l e R s m args below meth c H locs cells slots Q (F0 m pc ls (.int (nI j) :: .ref b :: rest)) := by
  refine va_sld S.1 S.2.1 hX hbl hbA hS (vp_in_nI hj (by omega)) hdg ?_
  rw [clamp_nI hj (by omega)]
  exact kk
theorem bnd_eq {x y : Int32} {d : Bool} : (if f_Form_isBounded x y (bI d) = 0 then (0 : Int32) else 1) = bI (decide (x &&& (y ^^^ (-1)) = 0) && d) := by
  unfold f_Form_isBounded
  by_cases h : x &&& (y ^^^ (-1)) = 0
  · cases d <;> simp [h, bI]
  · rw [decide_eq_false h, if_neg h]
    cases d <;> decide
theorem dec_0 {x : Int32} {d : Nat} (hd : d < 2147483648) (hno : ∀ j, j < d → ¬ x = nI j) : f_Form_isDecidedAt (nI d) x = 0 := by
  unfold f_Form_isDecidedAt
  rcases pk_ix x hd with h | h | ⟨j, hj, e⟩
  · simp [h]
  · simp [h]
  · exact absurd e (hno j hj)
set_option maxHeartbeats 4000000 in
set_option maxRecDepth 100000 in
theorem law_8 (l : Launch) (S : CallFix p m c code 4 s #[Value.ref b] WALL "MetricLogMonitorLaw") (hC : CX K s) (hkz : kz K = s.heap.size) (hX : va_X b L xs s s.heap) (hbl : b < s.heap.size) (hL : L ≤ 2560) (hiL : i + 5 ≤ L) (hcc : cells + 3 ≤ room_1.cells) (hss : slots + 48 ≤ room_1.slots) (hv : inv K mon lst lg tm pr ma H) (hS : va_S (fun q : Nat => kz K ≤ q) s.heap H locs) (hl : lv_has ls 4 [(3, .int (nI i)), (2, .ref (ma 0)), (1, .ref mon), (0, .ref b)])
    (kk : ∀ (H' : Heap) (locs' : List Loc), inv K mon lst lg tm pr ma H' → va_S (fun q : Nat => kz K ≤ q) s.heap H' locs' → W p l e room_1 s m #[Value.ref b] below meth c H' locs' (cells + 3) (slots + 48) Q (F0 m 761 ls [])) : W p l e room_1 s m #[Value.ref b] below meth c H locs cells slots Q (F0 m 486 ls []) := by
  have hbA : ¬ (fun q : Nat => kz K ≤ q) b := fun z => absurd (show kz K ≤ b from z) (by omega)
  have hA : ∀ q, (fun q : Nat => kz K ≤ q) q → kz K ≤ q := fun _ h => h
  have hzH : kz K ≤ H.size := by have := hS.1; omega
  obtain ⟨els, wat, md, n, cap, fE, kd, wh, fi, se, lo, hi, fr, rg, xr, dc, ad, sa, stt, G, N, T, Qp, J, X, t, eb, hcw, hD, hcap, hw, hDm, hsep, htie⟩ := hv
  have htie0 := htie
  obtain ⟨hrcJ, hdcN⟩ := htie.rcJ
  obtain ⟨h12, h24, hwt, hw0, hV, hT, hfr, hrg, hxr, her, hrc, htm, hJ7, hQP, hGJ, hst, hXs⟩ := htie
  have hdc24 : ∀ j, j < n → dc j ≤ 24 := fun j hj => Nat.le_trans (hdcN j hj) h24
  by_cases hx : ∃ k, k < n ∧ xs (i + 1) = nI k
  · obtain ⟨k, hkn, ex⟩ := hx
    refine lv_aload_n S.1 S.2.1 d_Law_law_486 rfl (lv_at hl 2 rfl) ?_
    refine lv_aload_n S.1 S.2.1 d_Law_law_487 rfl (lv_at hl 3 rfl) ?_
    refine lv_iload_n S.1 S.2.1 d_Law_law_488 rfl (lv_at hl 0 rfl) ?_
    refine lv_iconst (v := 1) S.1 S.2.1 d_Law_law_489 (by decide) ?_
    refine lv_iadd S.1 S.2.1 d_Law_law_490 ?_
    refine tpi (y := nI (i + 1)) (nI_add i 1) ?_
    refine s_ld (j := i + 1) S hX hbl hbA hS (by omega) hL d_Law_law_491 ?_
    refine tpi (y := nI k) ex ?_
    refine kVi (rest := []) S (c_M_free_y l hkn) kc_M_free ⟨q_457, q_458, q_459⟩ rfl rfl ⟨Nat.le_of_ble_eq_true rfl, Nat.le_of_ble_eq_true rfl⟩ hC hS hA hcw ⟨8, _, _, _, rfl, hcw.1⟩ ⟨(by omega), (by omega)⟩ hl.1 rfl rfl (Nat.le_of_ble_eq_true rfl) d_Law_law_492 (fun r er => ?_)
    subst er
    refine lv_aload_n S.1 S.2.1 d_Law_law_495 rfl (lv_at hl 1 rfl) ?_
    refine lv_aload_n S.1 S.2.1 d_Law_law_496 rfl (lv_at hl 3 rfl) ?_
    refine lv_iload_n S.1 S.2.1 d_Law_law_497 rfl (lv_at hl 0 rfl) ?_
    refine lv_iconst (v := 1) S.1 S.2.1 d_Law_law_498 (by decide) ?_
    refine lv_iadd S.1 S.2.1 d_Law_law_499 ?_
    refine tpi (y := nI (i + 1)) (nI_add i 1) ?_
    refine s_ld (j := i + 1) S hX hbl hbA hS (by omega) hL d_Law_law_500 ?_
    refine tpi (y := nI k) ex ?_
    refine kw_i (A := (fun q : Nat => kz K ≤ q)) (k_V (rest := [.int (fr k)]) S (c_R_free_y l hDm hT hV h12 hkn hfr) kc_R_free ⟨q_801, q_802, q_803⟩ rfl rfl ⟨Nat.le_of_ble_eq_true rfl, Nat.le_of_ble_eq_true rfl⟩ hC hS hA hw ⟨11, _, _, _, rfl, hw.1⟩ rfl hl.1 rfl (Nat.le_of_ble_eq_true rfl) ⟨(by omega), (by omega)⟩ d_Law_law_501) hS (fun q h => by obtain ⟨j9, hj9, rfl⟩ := h; exact hDm.2 j9 hj9) (fun r H locs er hz hkp hS => ?_)
    obtain ⟨er0, J1, oJ, -, hw⟩ := er
    have hcw := hcw.cl hD hkp hsep
    subst er0
    refine lv_icmp_eq (tgt := 761) S.1 S.2.1 d_Law_law_504 (by decide) (fun _ => ?_) (fun hx9 => absurd rfl hx9)
    exact W.widen (k := cells + 3) (n := slots + 48) (by omega) (by omega) (kk _ _ ⟨els, wat, md, n, cap, fE, kd, wh, fi, se, lo, hi, fr, rg, xr, dc, ad, sa, stt, G, N, T, Qp, J1, X, t, eb, hcw, hD, hcap, hw, hDm, hsep, htie0.jj (fun p hp => oJ p (by omega))⟩ hS)
  · have hno : ∀ k, k < n → ¬ xs (i + 1) = nI k := fun k h z => hx ⟨k, h, z⟩
    refine lv_aload_n S.1 S.2.1 d_Law_law_486 rfl (lv_at hl 2 rfl) ?_
    refine lv_aload_n S.1 S.2.1 d_Law_law_487 rfl (lv_at hl 3 rfl) ?_
    refine lv_iload_n S.1 S.2.1 d_Law_law_488 rfl (lv_at hl 0 rfl) ?_
    refine lv_iconst (v := 1) S.1 S.2.1 d_Law_law_489 (by decide) ?_
    refine lv_iadd S.1 S.2.1 d_Law_law_490 ?_
    refine tpi (y := nI (i + 1)) (nI_add i 1) ?_
    refine s_ld (j := i + 1) S hX hbl hbA hS (by omega) hL d_Law_law_491 ?_
    refine kVi (rest := []) S (c_M_free_n l (xs (i + 1)) hno) kc_M_free ⟨q_457, q_458, q_459⟩ rfl rfl ⟨Nat.le_of_ble_eq_true rfl, Nat.le_of_ble_eq_true rfl⟩ hC hS hA hcw ⟨8, _, _, _, rfl, hcw.1⟩ ⟨(by omega), (by omega)⟩ hl.1 rfl rfl (Nat.le_of_ble_eq_true rfl) d_Law_law_492 (fun r er => ?_)
    subst er
    refine lv_aload_n S.1 S.2.1 d_Law_law_495 rfl (lv_at hl 1 rfl) ?_
    refine lv_aload_n S.1 S.2.1 d_Law_law_496 rfl (lv_at hl 3 rfl) ?_
    refine lv_iload_n S.1 S.2.1 d_Law_law_497 rfl (lv_at hl 0 rfl) ?_
    refine lv_iconst (v := 1) S.1 S.2.1 d_Law_law_498 (by decide) ?_
    refine lv_iadd S.1 S.2.1 d_Law_law_499 ?_
    refine tpi (y := nI (i + 1)) (nI_add i 1) ?_
    refine s_ld (j := i + 1) S hX hbl hbA hS (by omega) hL d_Law_law_500 ?_
    refine kw_i (A := (fun q : Nat => kz K ≤ q)) (k_V (rest := [.int (-1)]) S (c_R_free_n l hDm h12 (xs (i + 1)) hno) kc_R_free ⟨q_801, q_802, q_803⟩ rfl rfl ⟨Nat.le_of_ble_eq_true rfl, Nat.le_of_ble_eq_true rfl⟩ hC hS hA hw ⟨11, _, _, _, rfl, hw.1⟩ rfl hl.1 rfl (Nat.le_of_ble_eq_true rfl) ⟨(by omega), (by omega)⟩ d_Law_law_501) hS (fun q h => by obtain ⟨j9, hj9, rfl⟩ := h; exact hDm.2 j9 hj9) (fun r H locs er hz hkp hS => ?_)
    obtain ⟨er0, hw⟩ := er
    have hcw := hcw.cl hD hkp hsep
    subst er0
    refine lv_icmp_eq (tgt := 761) S.1 S.2.1 d_Law_law_504 (by decide) (fun _ => ?_) (fun hx9 => absurd rfl hx9)
    exact W.widen (k := cells + 3) (n := slots + 48) (by omega) (by omega) (kk _ _ ⟨els, wat, md, n, cap, fE, kd, wh, fi, se, lo, hi, fr, rg, xr, dc, ad, sa, stt, G, N, T, Qp, J, X, t, eb, hcw, hD, hcap, hw, hDm, hsep, htie0⟩ hS)
set_option maxHeartbeats 4000000 in
set_option maxRecDepth 100000 in
theorem law_9 (l : Launch) (S : CallFix p m c code 4 s #[Value.ref b] WALL "MetricLogMonitorLaw") (hC : CX K s) (hkz : kz K = s.heap.size) (hX : va_X b L xs s s.heap) (hbl : b < s.heap.size) (hL : L ≤ 2560) (hiL : i + 5 ≤ L) (hcc : cells + 3 ≤ room_1.cells) (hss : slots + 48 ≤ room_1.slots) (hv : inv K mon lst lg tm pr ma H) (hS : va_S (fun q : Nat => kz K ≤ q) s.heap H locs) (hl : lv_has ls 4 [(3, .int (nI i)), (2, .ref (ma 0)), (1, .ref mon), (0, .ref b)])
    (kk : ∀ (H' : Heap) (locs' : List Loc), inv K mon lst lg tm pr ma H' → va_S (fun q : Nat => kz K ≤ q) s.heap H' locs' → W p l e room_1 s m #[Value.ref b] below meth c H' locs' (cells + 3) (slots + 48) Q (F0 m 761 ls [])) : W p l e room_1 s m #[Value.ref b] below meth c H locs cells slots Q (F0 m 509 ls []) := by
  have hbA : ¬ (fun q : Nat => kz K ≤ q) b := fun z => absurd (show kz K ≤ b from z) (by omega)
  have hA : ∀ q, (fun q : Nat => kz K ≤ q) q → kz K ≤ q := fun _ h => h
  have hzH : kz K ≤ H.size := by have := hS.1; omega
  obtain ⟨els, wat, md, n, cap, fE, kd, wh, fi, se, lo, hi, fr, rg, xr, dc, ad, sa, stt, G, N, T, Qp, J, X, t, eb, hcw, hD, hcap, hw, hDm, hsep, htie⟩ := hv
  have htie0 := htie
  obtain ⟨hrcJ, hdcN⟩ := htie.rcJ
  obtain ⟨h12, h24, hwt, hw0, hV, hT, hfr, hrg, hxr, her, hrc, htm, hJ7, hQP, hGJ, hst, hXs⟩ := htie
  have hdc24 : ∀ j, j < n → dc j ≤ 24 := fun j hj => Nat.le_trans (hdcN j hj) h24
  by_cases hx : ∃ k, k < n ∧ xs (i + 1) = nI k
  · obtain ⟨k, hkn, ex⟩ := hx
    refine lv_aload_n S.1 S.2.1 d_Law_law_509 rfl (lv_at hl 2 rfl) ?_
    refine lv_aload_n S.1 S.2.1 d_Law_law_510 rfl (lv_at hl 3 rfl) ?_
    refine lv_iload_n S.1 S.2.1 d_Law_law_511 rfl (lv_at hl 0 rfl) ?_
    refine lv_iconst (v := 1) S.1 S.2.1 d_Law_law_512 (by decide) ?_
    refine lv_iadd S.1 S.2.1 d_Law_law_513 ?_
    refine tpi (y := nI (i + 1)) (nI_add i 1) ?_
    refine s_ld (j := i + 1) S hX hbl hbA hS (by omega) hL d_Law_law_514 ?_
    refine tpi (y := nI k) ex ?_
    refine kVi (rest := []) S (c_M_ranged_y l hkn) kc_M_ranged ⟨q_461, q_462, q_463⟩ rfl rfl ⟨Nat.le_of_ble_eq_true rfl, Nat.le_of_ble_eq_true rfl⟩ hC hS hA hcw ⟨8, _, _, _, rfl, hcw.1⟩ ⟨(by omega), (by omega)⟩ hl.1 rfl rfl (Nat.le_of_ble_eq_true rfl) d_Law_law_515 (fun r er => ?_)
    subst er
    refine lv_aload_n S.1 S.2.1 d_Law_law_518 rfl (lv_at hl 1 rfl) ?_
    refine lv_aload_n S.1 S.2.1 d_Law_law_519 rfl (lv_at hl 3 rfl) ?_
    refine lv_iload_n S.1 S.2.1 d_Law_law_520 rfl (lv_at hl 0 rfl) ?_
    refine lv_iconst (v := 1) S.1 S.2.1 d_Law_law_521 (by decide) ?_
    refine lv_iadd S.1 S.2.1 d_Law_law_522 ?_
    refine tpi (y := nI (i + 1)) (nI_add i 1) ?_
    refine s_ld (j := i + 1) S hX hbl hbA hS (by omega) hL d_Law_law_523 ?_
    refine tpi (y := nI k) ex ?_
    refine kw_i (A := (fun q : Nat => kz K ≤ q)) (k_V (rest := [.int (rg k)]) S (c_R_ranged_y l hDm hT hV h12 hkn hrg) kc_R_ranged ⟨q_812, q_813, q_814⟩ rfl rfl ⟨Nat.le_of_ble_eq_true rfl, Nat.le_of_ble_eq_true rfl⟩ hC hS hA hw ⟨11, _, _, _, rfl, hw.1⟩ rfl hl.1 rfl (Nat.le_of_ble_eq_true rfl) ⟨(by omega), (by omega)⟩ d_Law_law_524) hS (fun q h => by obtain ⟨j9, hj9, rfl⟩ := h; exact hDm.2 j9 hj9) (fun r H locs er hz hkp hS => ?_)
    obtain ⟨er0, J1, oJ, -, hw⟩ := er
    have hcw := hcw.cl hD hkp hsep
    subst er0
    refine lv_icmp_eq (tgt := 761) S.1 S.2.1 d_Law_law_527 (by decide) (fun _ => ?_) (fun hx9 => absurd rfl hx9)
    exact W.widen (k := cells + 3) (n := slots + 48) (by omega) (by omega) (kk _ _ ⟨els, wat, md, n, cap, fE, kd, wh, fi, se, lo, hi, fr, rg, xr, dc, ad, sa, stt, G, N, T, Qp, J1, X, t, eb, hcw, hD, hcap, hw, hDm, hsep, htie0.jj (fun p hp => oJ p (by omega))⟩ hS)
  · have hno : ∀ k, k < n → ¬ xs (i + 1) = nI k := fun k h z => hx ⟨k, h, z⟩
    refine lv_aload_n S.1 S.2.1 d_Law_law_509 rfl (lv_at hl 2 rfl) ?_
    refine lv_aload_n S.1 S.2.1 d_Law_law_510 rfl (lv_at hl 3 rfl) ?_
    refine lv_iload_n S.1 S.2.1 d_Law_law_511 rfl (lv_at hl 0 rfl) ?_
    refine lv_iconst (v := 1) S.1 S.2.1 d_Law_law_512 (by decide) ?_
    refine lv_iadd S.1 S.2.1 d_Law_law_513 ?_
    refine tpi (y := nI (i + 1)) (nI_add i 1) ?_
    refine s_ld (j := i + 1) S hX hbl hbA hS (by omega) hL d_Law_law_514 ?_
    refine kVi (rest := []) S (c_M_ranged_n l (xs (i + 1)) hno) kc_M_ranged ⟨q_461, q_462, q_463⟩ rfl rfl ⟨Nat.le_of_ble_eq_true rfl, Nat.le_of_ble_eq_true rfl⟩ hC hS hA hcw ⟨8, _, _, _, rfl, hcw.1⟩ ⟨(by omega), (by omega)⟩ hl.1 rfl rfl (Nat.le_of_ble_eq_true rfl) d_Law_law_515 (fun r er => ?_)
    subst er
    refine lv_aload_n S.1 S.2.1 d_Law_law_518 rfl (lv_at hl 1 rfl) ?_
    refine lv_aload_n S.1 S.2.1 d_Law_law_519 rfl (lv_at hl 3 rfl) ?_
    refine lv_iload_n S.1 S.2.1 d_Law_law_520 rfl (lv_at hl 0 rfl) ?_
    refine lv_iconst (v := 1) S.1 S.2.1 d_Law_law_521 (by decide) ?_
    refine lv_iadd S.1 S.2.1 d_Law_law_522 ?_
    refine tpi (y := nI (i + 1)) (nI_add i 1) ?_
    refine s_ld (j := i + 1) S hX hbl hbA hS (by omega) hL d_Law_law_523 ?_
    refine kw_i (A := (fun q : Nat => kz K ≤ q)) (k_V (rest := [.int (-1)]) S (c_R_ranged_n l hDm h12 (xs (i + 1)) hno) kc_R_ranged ⟨q_812, q_813, q_814⟩ rfl rfl ⟨Nat.le_of_ble_eq_true rfl, Nat.le_of_ble_eq_true rfl⟩ hC hS hA hw ⟨11, _, _, _, rfl, hw.1⟩ rfl hl.1 rfl (Nat.le_of_ble_eq_true rfl) ⟨(by omega), (by omega)⟩ d_Law_law_524) hS (fun q h => by obtain ⟨j9, hj9, rfl⟩ := h; exact hDm.2 j9 hj9) (fun r H locs er hz hkp hS => ?_)
    obtain ⟨er0, hw⟩ := er
    have hcw := hcw.cl hD hkp hsep
    subst er0
    refine lv_icmp_eq (tgt := 761) S.1 S.2.1 d_Law_law_527 (by decide) (fun _ => ?_) (fun hx9 => absurd rfl hx9)
    exact W.widen (k := cells + 3) (n := slots + 48) (by omega) (by omega) (kk _ _ ⟨els, wat, md, n, cap, fE, kd, wh, fi, se, lo, hi, fr, rg, xr, dc, ad, sa, stt, G, N, T, Qp, J, X, t, eb, hcw, hD, hcap, hw, hDm, hsep, htie0⟩ hS)
set_option maxHeartbeats 4000000 in
set_option maxRecDepth 100000 in
theorem law_10 (l : Launch) (S : CallFix p m c code 4 s #[Value.ref b] WALL "MetricLogMonitorLaw") (hC : CX K s) (hkz : kz K = s.heap.size) (hX : va_X b L xs s s.heap) (hbl : b < s.heap.size) (hL : L ≤ 2560) (hiL : i + 5 ≤ L) (hcc : cells + 3 ≤ room_1.cells) (hss : slots + 48 ≤ room_1.slots) (hv : inv K mon lst lg tm pr ma H) (hS : va_S (fun q : Nat => kz K ≤ q) s.heap H locs) (hl : lv_has ls 4 [(3, .int (nI i)), (2, .ref (ma 0)), (1, .ref mon), (0, .ref b)])
    (kk : ∀ (H' : Heap) (locs' : List Loc), inv K mon lst lg tm pr ma H' → va_S (fun q : Nat => kz K ≤ q) s.heap H' locs' → W p l e room_1 s m #[Value.ref b] below meth c H' locs' (cells + 3) (slots + 48) Q (F0 m 761 ls [])) : W p l e room_1 s m #[Value.ref b] below meth c H locs cells slots Q (F0 m 532 ls []) := by
  have hbA : ¬ (fun q : Nat => kz K ≤ q) b := fun z => absurd (show kz K ≤ b from z) (by omega)
  have hA : ∀ q, (fun q : Nat => kz K ≤ q) q → kz K ≤ q := fun _ h => h
  have hzH : kz K ≤ H.size := by have := hS.1; omega
  obtain ⟨els, wat, md, n, cap, fE, kd, wh, fi, se, lo, hi, fr, rg, xr, dc, ad, sa, stt, G, N, T, Qp, J, X, t, eb, hcw, hD, hcap, hw, hDm, hsep, htie⟩ := hv
  have htie0 := htie
  obtain ⟨hrcJ, hdcN⟩ := htie.rcJ
  obtain ⟨h12, h24, hwt, hw0, hV, hT, hfr, hrg, hxr, her, hrc, htm, hJ7, hQP, hGJ, hst, hXs⟩ := htie
  have hdc24 : ∀ j, j < n → dc j ≤ 24 := fun j hj => Nat.le_trans (hdcN j hj) h24
  by_cases hx : ∃ k, k < n ∧ xs (i + 1) = nI k
  · obtain ⟨k, hkn, ex⟩ := hx
    refine lv_aload_n S.1 S.2.1 d_Law_law_532 rfl (lv_at hl 2 rfl) ?_
    refine lv_aload_n S.1 S.2.1 d_Law_law_533 rfl (lv_at hl 3 rfl) ?_
    refine lv_iload_n S.1 S.2.1 d_Law_law_534 rfl (lv_at hl 0 rfl) ?_
    refine lv_iconst (v := 1) S.1 S.2.1 d_Law_law_535 (by decide) ?_
    refine lv_iadd S.1 S.2.1 d_Law_law_536 ?_
    refine tpi (y := nI (i + 1)) (nI_add i 1) ?_
    refine s_ld (j := i + 1) S hX hbl hbA hS (by omega) hL d_Law_law_537 ?_
    refine tpi (y := nI k) ex ?_
    refine kVi (rest := []) S (c_M_bounded_y l hkn) kc_M_bounded ⟨q_465, q_466, q_467⟩ rfl rfl ⟨Nat.le_of_ble_eq_true rfl, Nat.le_of_ble_eq_true rfl⟩ hC hS hA hcw ⟨8, _, _, _, rfl, hcw.1⟩ ⟨(by omega), (by omega)⟩ hl.1 rfl rfl (Nat.le_of_ble_eq_true rfl) d_Law_law_538 (fun r er => ?_)
    subst er
    refine lv_aload_n S.1 S.2.1 d_Law_law_541 rfl (lv_at hl 1 rfl) ?_
    refine lv_aload_n S.1 S.2.1 d_Law_law_542 rfl (lv_at hl 3 rfl) ?_
    refine lv_iload_n S.1 S.2.1 d_Law_law_543 rfl (lv_at hl 0 rfl) ?_
    refine lv_iconst (v := 1) S.1 S.2.1 d_Law_law_544 (by decide) ?_
    refine lv_iadd S.1 S.2.1 d_Law_law_545 ?_
    refine tpi (y := nI (i + 1)) (nI_add i 1) ?_
    refine s_ld (j := i + 1) S hX hbl hbA hS (by omega) hL d_Law_law_546 ?_
    refine tpi (y := nI k) ex ?_
    refine kw_i (A := (fun q : Nat => kz K ≤ q)) (k_V (rest := [.int (if f_Form_isBounded (fr k) (rg k) (xr k) = 0 then 0 else 1)]) S (c_R_bounded_y l hDm hT hV h12 hkn hfr hrg her) kc_R_bounded ⟨q_820, q_821, q_822⟩ rfl rfl ⟨Nat.le_of_ble_eq_true rfl, Nat.le_of_ble_eq_true rfl⟩ hC hS hA hw ⟨11, _, _, _, rfl, hw.1⟩ rfl hl.1 rfl (Nat.le_of_ble_eq_true rfl) ⟨(by omega), (by omega)⟩ d_Law_law_547) hS (fun q h => by obtain ⟨j9, hj9, rfl⟩ := h; exact hDm.2 j9 hj9) (fun r H locs er hz hkp hS => ?_)
    obtain ⟨er0, J1, oJ, hw⟩ := er
    have hcw := hcw.cl hD hkp hsep
    subst er0
    refine lv_icmp_eq (tgt := 761) S.1 S.2.1 d_Law_law_550 (by decide) (fun _ => ?_) (fun hx9 => absurd (by rw [hxr k hkn]; exact bnd_eq) hx9)
    exact W.widen (k := cells + 3) (n := slots + 48) (by omega) (by omega) (kk _ _ ⟨els, wat, md, n, cap, fE, kd, wh, fi, se, lo, hi, fr, rg, xr, dc, ad, sa, stt, G, N, T, Qp, J1, X, t, eb, hcw, hD, hcap, hw, hDm, hsep, htie0.jj (fun p hp => oJ p (by omega))⟩ hS)
  · have hno : ∀ k, k < n → ¬ xs (i + 1) = nI k := fun k h z => hx ⟨k, h, z⟩
    refine lv_aload_n S.1 S.2.1 d_Law_law_532 rfl (lv_at hl 2 rfl) ?_
    refine lv_aload_n S.1 S.2.1 d_Law_law_533 rfl (lv_at hl 3 rfl) ?_
    refine lv_iload_n S.1 S.2.1 d_Law_law_534 rfl (lv_at hl 0 rfl) ?_
    refine lv_iconst (v := 1) S.1 S.2.1 d_Law_law_535 (by decide) ?_
    refine lv_iadd S.1 S.2.1 d_Law_law_536 ?_
    refine tpi (y := nI (i + 1)) (nI_add i 1) ?_
    refine s_ld (j := i + 1) S hX hbl hbA hS (by omega) hL d_Law_law_537 ?_
    refine kVi (rest := []) S (c_M_bounded_n l (xs (i + 1)) hno) kc_M_bounded ⟨q_465, q_466, q_467⟩ rfl rfl ⟨Nat.le_of_ble_eq_true rfl, Nat.le_of_ble_eq_true rfl⟩ hC hS hA hcw ⟨8, _, _, _, rfl, hcw.1⟩ ⟨(by omega), (by omega)⟩ hl.1 rfl rfl (Nat.le_of_ble_eq_true rfl) d_Law_law_538 (fun r er => ?_)
    subst er
    refine lv_aload_n S.1 S.2.1 d_Law_law_541 rfl (lv_at hl 1 rfl) ?_
    refine lv_aload_n S.1 S.2.1 d_Law_law_542 rfl (lv_at hl 3 rfl) ?_
    refine lv_iload_n S.1 S.2.1 d_Law_law_543 rfl (lv_at hl 0 rfl) ?_
    refine lv_iconst (v := 1) S.1 S.2.1 d_Law_law_544 (by decide) ?_
    refine lv_iadd S.1 S.2.1 d_Law_law_545 ?_
    refine tpi (y := nI (i + 1)) (nI_add i 1) ?_
    refine s_ld (j := i + 1) S hX hbl hbA hS (by omega) hL d_Law_law_546 ?_
    refine kw_i (A := (fun q : Nat => kz K ≤ q)) (k_V (rest := [.int 0]) S (c_R_bounded_n l hDm h12 (xs (i + 1)) hno) kc_R_bounded ⟨q_820, q_821, q_822⟩ rfl rfl ⟨Nat.le_of_ble_eq_true rfl, Nat.le_of_ble_eq_true rfl⟩ hC hS hA hw ⟨11, _, _, _, rfl, hw.1⟩ rfl hl.1 rfl (Nat.le_of_ble_eq_true rfl) ⟨(by omega), (by omega)⟩ d_Law_law_547) hS (fun q h => by obtain ⟨j9, hj9, rfl⟩ := h; exact hDm.2 j9 hj9) (fun r H locs er hz hkp hS => ?_)
    obtain ⟨er0, hw⟩ := er
    have hcw := hcw.cl hD hkp hsep
    subst er0
    refine lv_icmp_eq (tgt := 761) S.1 S.2.1 d_Law_law_550 (by decide) (fun _ => ?_) (fun hx9 => absurd rfl hx9)
    exact W.widen (k := cells + 3) (n := slots + 48) (by omega) (by omega) (kk _ _ ⟨els, wat, md, n, cap, fE, kd, wh, fi, se, lo, hi, fr, rg, xr, dc, ad, sa, stt, G, N, T, Qp, J, X, t, eb, hcw, hD, hcap, hw, hDm, hsep, htie0⟩ hS)
set_option maxHeartbeats 4000000 in
set_option maxRecDepth 100000 in
theorem law_15 (l : Launch) (S : CallFix p m c code 4 s #[Value.ref b] WALL "MetricLogMonitorLaw") (hC : CX K s) (hkz : kz K = s.heap.size) (hX : va_X b L xs s s.heap) (hbl : b < s.heap.size) (hL : L ≤ 2560) (hiL : i + 5 ≤ L) (hcc : cells + 3 ≤ room_1.cells) (hss : slots + 48 ≤ room_1.slots) (hv : inv K mon lst lg tm pr ma H) (hS : va_S (fun q : Nat => kz K ≤ q) s.heap H locs) (hl : lv_has ls 4 [(3, .int (nI i)), (2, .ref (ma 0)), (1, .ref mon), (0, .ref b)])
    (kk : ∀ (H' : Heap) (locs' : List Loc), inv K mon lst lg tm pr ma H' → va_S (fun q : Nat => kz K ≤ q) s.heap H' locs' → W p l e room_1 s m #[Value.ref b] below meth c H' locs' (cells + 3) (slots + 48) Q (F0 m 761 ls [])) : W p l e room_1 s m #[Value.ref b] below meth c H locs cells slots Q (F0 m 671 ls []) := by
  have hbA : ¬ (fun q : Nat => kz K ≤ q) b := fun z => absurd (show kz K ≤ b from z) (by omega)
  have hA : ∀ q, (fun q : Nat => kz K ≤ q) q → kz K ≤ q := fun _ h => h
  have hzH : kz K ≤ H.size := by have := hS.1; omega
  obtain ⟨els, wat, md, n, cap, fE, kd, wh, fi, se, lo, hi, fr, rg, xr, dc, ad, sa, stt, G, N, T, Qp, J, X, t, eb, hcw, hD, hcap, hw, hDm, hsep, htie⟩ := hv
  have htie0 := htie
  obtain ⟨hrcJ, hdcN⟩ := htie.rcJ
  obtain ⟨h12, h24, hwt, hw0, hV, hT, hfr, hrg, hxr, her, hrc, htm, hJ7, hQP, hGJ, hst, hXs⟩ := htie
  have hdc24 : ∀ j, j < n → dc j ≤ 24 := fun j hj => Nat.le_trans (hdcN j hj) h24
  by_cases hx : ∃ k, k < n ∧ xs (i + 1) = nI k
  · obtain ⟨k, hkn, ex⟩ := hx
    refine lv_aload_n S.1 S.2.1 d_Law_law_671 rfl (lv_at hl 2 rfl) ?_
    refine lv_aload_n S.1 S.2.1 d_Law_law_672 rfl (lv_at hl 3 rfl) ?_
    refine lv_iload_n S.1 S.2.1 d_Law_law_673 rfl (lv_at hl 0 rfl) ?_
    refine lv_iconst (v := 1) S.1 S.2.1 d_Law_law_674 (by decide) ?_
    refine lv_iadd S.1 S.2.1 d_Law_law_675 ?_
    refine tpi (y := nI (i + 1)) (nI_add i 1) ?_
    refine s_ld (j := i + 1) S hX hbl hbA hS (by omega) hL d_Law_law_676 ?_
    refine tpi (y := nI k) ex ?_
    refine kVi (rest := []) S (c_M_progress_y l hkn) kc_M_progress ⟨q_666, q_667, q_668⟩ rfl rfl ⟨Nat.le_of_ble_eq_true rfl, Nat.le_of_ble_eq_true rfl⟩ hC hS hA hcw ⟨8, _, _, _, rfl, hcw.1⟩ ⟨(by omega), (by omega)⟩ hl.1 rfl rfl (Nat.le_of_ble_eq_true rfl) d_Law_law_677 (fun r er => ?_)
    subst er
    refine lv_aload_n S.1 S.2.1 d_Law_law_680 rfl (lv_at hl 1 rfl) ?_
    refine lv_aload_n S.1 S.2.1 d_Law_law_681 rfl (lv_at hl 3 rfl) ?_
    refine lv_iload_n S.1 S.2.1 d_Law_law_682 rfl (lv_at hl 0 rfl) ?_
    refine lv_iconst (v := 1) S.1 S.2.1 d_Law_law_683 (by decide) ?_
    refine lv_iadd S.1 S.2.1 d_Law_law_684 ?_
    refine tpi (y := nI (i + 1)) (nI_add i 1) ?_
    refine s_ld (j := i + 1) S hX hbl hbA hS (by omega) hL d_Law_law_685 ?_
    refine tpi (y := nI k) ex ?_
    refine kw_i (A := (fun q : Nat => kz K ≤ q)) (k_V (rest := [.int (nI (dc k))]) S (c_R_progress_y l hDm hT hV h12 hkn hrcJ hdc24 h24) kc_R_progress ⟨q_875, q_876, q_877⟩ rfl rfl ⟨Nat.le_of_ble_eq_true rfl, Nat.le_of_ble_eq_true rfl⟩ hC hS hA hw ⟨11, _, _, _, rfl, hw.1⟩ rfl hl.1 rfl (Nat.le_of_ble_eq_true rfl) ⟨(by omega), (by omega)⟩ d_Law_law_686) hS (fun q h => by obtain ⟨j9, hj9, rfl⟩ := h; exact hDm.2 j9 hj9) (fun r H locs er hz hkp hS => ?_)
    obtain ⟨er0, J1, oJ, hw⟩ := er
    have hcw := hcw.cl hD hkp hsep
    subst er0
    refine lv_icmp_eq (tgt := 761) S.1 S.2.1 d_Law_law_689 (by decide) (fun _ => ?_) (fun hx9 => absurd rfl hx9)
    exact W.widen (k := cells + 3) (n := slots + 48) (by omega) (by omega) (kk _ _ ⟨els, wat, md, n, cap, fE, kd, wh, fi, se, lo, hi, fr, rg, xr, dc, ad, sa, stt, G, N, T, Qp, J1, X, t, eb, hcw, hD, hcap, hw, hDm, hsep, htie0.jj (fun p hp => oJ p (by omega))⟩ hS)
  · have hno : ∀ k, k < n → ¬ xs (i + 1) = nI k := fun k h z => hx ⟨k, h, z⟩
    refine lv_aload_n S.1 S.2.1 d_Law_law_671 rfl (lv_at hl 2 rfl) ?_
    refine lv_aload_n S.1 S.2.1 d_Law_law_672 rfl (lv_at hl 3 rfl) ?_
    refine lv_iload_n S.1 S.2.1 d_Law_law_673 rfl (lv_at hl 0 rfl) ?_
    refine lv_iconst (v := 1) S.1 S.2.1 d_Law_law_674 (by decide) ?_
    refine lv_iadd S.1 S.2.1 d_Law_law_675 ?_
    refine tpi (y := nI (i + 1)) (nI_add i 1) ?_
    refine s_ld (j := i + 1) S hX hbl hbA hS (by omega) hL d_Law_law_676 ?_
    refine kVi (rest := []) S (c_M_progress_n l (xs (i + 1)) hno) kc_M_progress ⟨q_666, q_667, q_668⟩ rfl rfl ⟨Nat.le_of_ble_eq_true rfl, Nat.le_of_ble_eq_true rfl⟩ hC hS hA hcw ⟨8, _, _, _, rfl, hcw.1⟩ ⟨(by omega), (by omega)⟩ hl.1 rfl rfl (Nat.le_of_ble_eq_true rfl) d_Law_law_677 (fun r er => ?_)
    subst er
    refine lv_aload_n S.1 S.2.1 d_Law_law_680 rfl (lv_at hl 1 rfl) ?_
    refine lv_aload_n S.1 S.2.1 d_Law_law_681 rfl (lv_at hl 3 rfl) ?_
    refine lv_iload_n S.1 S.2.1 d_Law_law_682 rfl (lv_at hl 0 rfl) ?_
    refine lv_iconst (v := 1) S.1 S.2.1 d_Law_law_683 (by decide) ?_
    refine lv_iadd S.1 S.2.1 d_Law_law_684 ?_
    refine tpi (y := nI (i + 1)) (nI_add i 1) ?_
    refine s_ld (j := i + 1) S hX hbl hbA hS (by omega) hL d_Law_law_685 ?_
    refine kw_i (A := (fun q : Nat => kz K ≤ q)) (k_V (rest := [.int (-1)]) S (c_R_progress_n l hDm h12 (xs (i + 1)) hno) kc_R_progress ⟨q_875, q_876, q_877⟩ rfl rfl ⟨Nat.le_of_ble_eq_true rfl, Nat.le_of_ble_eq_true rfl⟩ hC hS hA hw ⟨11, _, _, _, rfl, hw.1⟩ rfl hl.1 rfl (Nat.le_of_ble_eq_true rfl) ⟨(by omega), (by omega)⟩ d_Law_law_686) hS (fun q h => by obtain ⟨j9, hj9, rfl⟩ := h; exact hDm.2 j9 hj9) (fun r H locs er hz hkp hS => ?_)
    obtain ⟨er0, hw⟩ := er
    have hcw := hcw.cl hD hkp hsep
    subst er0
    refine lv_icmp_eq (tgt := 761) S.1 S.2.1 d_Law_law_689 (by decide) (fun _ => ?_) (fun hx9 => absurd rfl hx9)
    exact W.widen (k := cells + 3) (n := slots + 48) (by omega) (by omega) (kk _ _ ⟨els, wat, md, n, cap, fE, kd, wh, fi, se, lo, hi, fr, rg, xr, dc, ad, sa, stt, G, N, T, Qp, J, X, t, eb, hcw, hD, hcap, hw, hDm, hsep, htie0⟩ hS)
set_option maxHeartbeats 4000000 in
set_option maxRecDepth 100000 in
theorem law_16 (l : Launch) (S : CallFix p m c code 4 s #[Value.ref b] WALL "MetricLogMonitorLaw") (hC : CX K s) (hkz : kz K = s.heap.size) (hX : va_X b L xs s s.heap) (hbl : b < s.heap.size) (hL : L ≤ 2560) (hiL : i + 5 ≤ L) (hcc : cells + 3 ≤ room_1.cells) (hss : slots + 48 ≤ room_1.slots) (hv : inv K mon lst lg tm pr ma H) (hS : va_S (fun q : Nat => kz K ≤ q) s.heap H locs) (hl : lv_has ls 4 [(3, .int (nI i)), (2, .ref (ma 0)), (1, .ref mon), (0, .ref b)])
    (kk : ∀ (H' : Heap) (locs' : List Loc), inv K mon lst lg tm pr ma H' → va_S (fun q : Nat => kz K ≤ q) s.heap H' locs' → W p l e room_1 s m #[Value.ref b] below meth c H' locs' (cells + 3) (slots + 48) Q (F0 m 761 ls [])) : W p l e room_1 s m #[Value.ref b] below meth c H locs cells slots Q (F0 m 694 ls []) := by
  have hbA : ¬ (fun q : Nat => kz K ≤ q) b := fun z => absurd (show kz K ≤ b from z) (by omega)
  have hA : ∀ q, (fun q : Nat => kz K ≤ q) q → kz K ≤ q := fun _ h => h
  have hzH : kz K ≤ H.size := by have := hS.1; omega
  obtain ⟨els, wat, md, n, cap, fE, kd, wh, fi, se, lo, hi, fr, rg, xr, dc, ad, sa, stt, G, N, T, Qp, J, X, t, eb, hcw, hD, hcap, hw, hDm, hsep, htie⟩ := hv
  have htie0 := htie
  obtain ⟨hrcJ, hdcN⟩ := htie.rcJ
  obtain ⟨h12, h24, hwt, hw0, hV, hT, hfr, hrg, hxr, her, hrc, htm, hJ7, hQP, hGJ, hst, hXs⟩ := htie
  have hdc24 : ∀ j, j < n → dc j ≤ 24 := fun j hj => Nat.le_trans (hdcN j hj) h24
  by_cases hx : ∃ k, k < n ∧ xs (i + 1) = nI k
  · obtain ⟨k, hkn, ex⟩ := hx
    by_cases hx2 : ∃ j, j < dc k ∧ xs (i + 2) = nI j
    · obtain ⟨j, hj, ex2⟩ := hx2
      refine lv_aload_n S.1 S.2.1 d_Law_law_694 rfl (lv_at hl 2 rfl) ?_
      refine lv_aload_n S.1 S.2.1 d_Law_law_695 rfl (lv_at hl 3 rfl) ?_
      refine lv_iload_n S.1 S.2.1 d_Law_law_696 rfl (lv_at hl 0 rfl) ?_
      refine lv_iconst (v := 1) S.1 S.2.1 d_Law_law_697 (by decide) ?_
      refine lv_iadd S.1 S.2.1 d_Law_law_698 ?_
      refine tpi (y := nI (i + 1)) (nI_add i 1) ?_
      refine s_ld (j := i + 1) S hX hbl hbA hS (by omega) hL d_Law_law_699 ?_
      refine tpi (y := nI k) ex ?_
      refine lv_aload_n S.1 S.2.1 d_Law_law_700 rfl (lv_at hl 3 rfl) ?_
      refine lv_iload_n S.1 S.2.1 d_Law_law_701 rfl (lv_at hl 0 rfl) ?_
      refine lv_iconst (v := 2) S.1 S.2.1 d_Law_law_702 (by decide) ?_
      refine lv_iadd S.1 S.2.1 d_Law_law_703 ?_
      refine tpi (y := nI (i + 2)) (nI_add i 2) ?_
      refine s_ld (j := i + 2) S hX hbl hbA hS (by omega) hL d_Law_law_704 ?_
      refine tpi (y := nI j) ex2 ?_
      refine kVl (rest := []) S (c_M_satisfied_y l hkn hdc24 (nI j)) kc_M_satisfied ⟨q_670, q_671, q_672⟩ rfl rfl ⟨Nat.le_of_ble_eq_true rfl, Nat.le_of_ble_eq_true rfl⟩ hC hS hA hcw ⟨8, _, _, _, rfl, hcw.1⟩ ⟨(by omega), (by omega)⟩ hl.1 rfl rfl (Nat.le_of_ble_eq_true rfl) d_Law_law_705 (fun r er => ?_)
      have er := er.2 j hj rfl
      subst er
      refine lv_aload_n S.1 S.2.1 d_Law_law_708 rfl (lv_at hl 1 rfl) ?_
      refine lv_aload_n S.1 S.2.1 d_Law_law_709 rfl (lv_at hl 3 rfl) ?_
      refine lv_iload_n S.1 S.2.1 d_Law_law_710 rfl (lv_at hl 0 rfl) ?_
      refine lv_iconst (v := 1) S.1 S.2.1 d_Law_law_711 (by decide) ?_
      refine lv_iadd S.1 S.2.1 d_Law_law_712 ?_
      refine tpi (y := nI (i + 1)) (nI_add i 1) ?_
      refine s_ld (j := i + 1) S hX hbl hbA hS (by omega) hL d_Law_law_713 ?_
      refine tpi (y := nI k) ex ?_
      refine lv_aload_n S.1 S.2.1 d_Law_law_714 rfl (lv_at hl 3 rfl) ?_
      refine lv_iload_n S.1 S.2.1 d_Law_law_715 rfl (lv_at hl 0 rfl) ?_
      refine lv_iconst (v := 2) S.1 S.2.1 d_Law_law_716 (by decide) ?_
      refine lv_iadd S.1 S.2.1 d_Law_law_717 ?_
      refine tpi (y := nI (i + 2)) (nI_add i 2) ?_
      refine s_ld (j := i + 2) S hX hbl hbA hS (by omega) hL d_Law_law_718 ?_
      refine tpi (y := nI j) ex2 ?_
      refine kw_l (A := (fun q : Nat => kz K ≤ q)) (k_V (rest := [.long (stt k j)]) S (c_R_satisfied_y1 l hDm hT hV h12 hkn hrcJ hdc24 h24 hj) kc_R_satisfied ⟨q_887, q_888, q_889⟩ rfl rfl ⟨Nat.le_of_ble_eq_true rfl, Nat.le_of_ble_eq_true rfl⟩ hC hS hA hw ⟨11, _, _, _, rfl, hw.1⟩ rfl hl.1 rfl (Nat.le_of_ble_eq_true rfl) ⟨(by omega), (by omega)⟩ d_Law_law_719) hS (fun q h => by obtain ⟨j9, hj9, rfl⟩ := h; exact hDm.2 j9 hj9) (fun r H locs er hz hkp hS => ?_)
      obtain ⟨er0, J1, oJ, hw⟩ := er
      have hcw := hcw.cl hD hkp hsep
      subst er0
      refine W.lcmp S.1 S.2.1 d_Law_law_722 ?_
      refine lv_if_eq (tgt := 761) S.1 S.2.1 d_Law_law_723 (by decide) (fun _ => ?_) (fun hx9 => absurd ((lg_cmp0 _ _).mpr (tb_ext (fun b9 hb9 => hst k hkn j hj b9 hb9))) hx9)
      exact W.widen (k := cells + 3) (n := slots + 48) (by omega) (by omega) (kk _ _ ⟨els, wat, md, n, cap, fE, kd, wh, fi, se, lo, hi, fr, rg, xr, dc, ad, sa, stt, G, N, T, Qp, J1, X, t, eb, hcw, hD, hcap, hw, hDm, hsep, htie0.jj (fun p hp => oJ p (by omega))⟩ hS)
    · have hno2 : ∀ j, j < dc k → ¬ xs (i + 2) = nI j := fun j h z => hx2 ⟨j, h, z⟩
      refine lv_aload_n S.1 S.2.1 d_Law_law_694 rfl (lv_at hl 2 rfl) ?_
      refine lv_aload_n S.1 S.2.1 d_Law_law_695 rfl (lv_at hl 3 rfl) ?_
      refine lv_iload_n S.1 S.2.1 d_Law_law_696 rfl (lv_at hl 0 rfl) ?_
      refine lv_iconst (v := 1) S.1 S.2.1 d_Law_law_697 (by decide) ?_
      refine lv_iadd S.1 S.2.1 d_Law_law_698 ?_
      refine tpi (y := nI (i + 1)) (nI_add i 1) ?_
      refine s_ld (j := i + 1) S hX hbl hbA hS (by omega) hL d_Law_law_699 ?_
      refine tpi (y := nI k) ex ?_
      refine lv_aload_n S.1 S.2.1 d_Law_law_700 rfl (lv_at hl 3 rfl) ?_
      refine lv_iload_n S.1 S.2.1 d_Law_law_701 rfl (lv_at hl 0 rfl) ?_
      refine lv_iconst (v := 2) S.1 S.2.1 d_Law_law_702 (by decide) ?_
      refine lv_iadd S.1 S.2.1 d_Law_law_703 ?_
      refine tpi (y := nI (i + 2)) (nI_add i 2) ?_
      refine s_ld (j := i + 2) S hX hbl hbA hS (by omega) hL d_Law_law_704 ?_
      refine kVl (rest := []) S (c_M_satisfied_y l hkn hdc24 (xs (i + 2))) kc_M_satisfied ⟨q_670, q_671, q_672⟩ rfl rfl ⟨Nat.le_of_ble_eq_true rfl, Nat.le_of_ble_eq_true rfl⟩ hC hS hA hcw ⟨8, _, _, _, rfl, hcw.1⟩ ⟨(by omega), (by omega)⟩ hl.1 rfl rfl (Nat.le_of_ble_eq_true rfl) d_Law_law_705 (fun r er => ?_)
      have er := er.1 (dec_0 (by have := hdc24 k hkn; omega) hno2)
      subst er
      refine lv_aload_n S.1 S.2.1 d_Law_law_708 rfl (lv_at hl 1 rfl) ?_
      refine lv_aload_n S.1 S.2.1 d_Law_law_709 rfl (lv_at hl 3 rfl) ?_
      refine lv_iload_n S.1 S.2.1 d_Law_law_710 rfl (lv_at hl 0 rfl) ?_
      refine lv_iconst (v := 1) S.1 S.2.1 d_Law_law_711 (by decide) ?_
      refine lv_iadd S.1 S.2.1 d_Law_law_712 ?_
      refine tpi (y := nI (i + 1)) (nI_add i 1) ?_
      refine s_ld (j := i + 1) S hX hbl hbA hS (by omega) hL d_Law_law_713 ?_
      refine tpi (y := nI k) ex ?_
      refine lv_aload_n S.1 S.2.1 d_Law_law_714 rfl (lv_at hl 3 rfl) ?_
      refine lv_iload_n S.1 S.2.1 d_Law_law_715 rfl (lv_at hl 0 rfl) ?_
      refine lv_iconst (v := 2) S.1 S.2.1 d_Law_law_716 (by decide) ?_
      refine lv_iadd S.1 S.2.1 d_Law_law_717 ?_
      refine tpi (y := nI (i + 2)) (nI_add i 2) ?_
      refine s_ld (j := i + 2) S hX hbl hbA hS (by omega) hL d_Law_law_718 ?_
      refine kw_l (A := (fun q : Nat => kz K ≤ q)) (k_V (rest := [.long 0]) S (c_R_satisfied_y0 l hDm hT hV h12 hkn hrcJ hdc24 h24 (xs (i + 2)) hno2) kc_R_satisfied ⟨q_887, q_888, q_889⟩ rfl rfl ⟨Nat.le_of_ble_eq_true rfl, Nat.le_of_ble_eq_true rfl⟩ hC hS hA hw ⟨11, _, _, _, rfl, hw.1⟩ rfl hl.1 rfl (Nat.le_of_ble_eq_true rfl) ⟨(by omega), (by omega)⟩ d_Law_law_719) hS (fun q h => by obtain ⟨j9, hj9, rfl⟩ := h; exact hDm.2 j9 hj9) (fun r H locs er hz hkp hS => ?_)
      obtain ⟨er0, J1, oJ, hw⟩ := er
      have hcw := hcw.cl hD hkp hsep
      subst er0
      refine W.lcmp S.1 S.2.1 d_Law_law_722 ?_
      refine lv_if_eq (tgt := 761) S.1 S.2.1 d_Law_law_723 (by decide) (fun _ => ?_) (fun hx9 => absurd (by decide) hx9)
      exact W.widen (k := cells + 3) (n := slots + 48) (by omega) (by omega) (kk _ _ ⟨els, wat, md, n, cap, fE, kd, wh, fi, se, lo, hi, fr, rg, xr, dc, ad, sa, stt, G, N, T, Qp, J1, X, t, eb, hcw, hD, hcap, hw, hDm, hsep, htie0.jj (fun p hp => oJ p (by omega))⟩ hS)
  · have hno : ∀ k, k < n → ¬ xs (i + 1) = nI k := fun k h z => hx ⟨k, h, z⟩
    refine lv_aload_n S.1 S.2.1 d_Law_law_694 rfl (lv_at hl 2 rfl) ?_
    refine lv_aload_n S.1 S.2.1 d_Law_law_695 rfl (lv_at hl 3 rfl) ?_
    refine lv_iload_n S.1 S.2.1 d_Law_law_696 rfl (lv_at hl 0 rfl) ?_
    refine lv_iconst (v := 1) S.1 S.2.1 d_Law_law_697 (by decide) ?_
    refine lv_iadd S.1 S.2.1 d_Law_law_698 ?_
    refine tpi (y := nI (i + 1)) (nI_add i 1) ?_
    refine s_ld (j := i + 1) S hX hbl hbA hS (by omega) hL d_Law_law_699 ?_
    refine lv_aload_n S.1 S.2.1 d_Law_law_700 rfl (lv_at hl 3 rfl) ?_
    refine lv_iload_n S.1 S.2.1 d_Law_law_701 rfl (lv_at hl 0 rfl) ?_
    refine lv_iconst (v := 2) S.1 S.2.1 d_Law_law_702 (by decide) ?_
    refine lv_iadd S.1 S.2.1 d_Law_law_703 ?_
    refine tpi (y := nI (i + 2)) (nI_add i 2) ?_
    refine s_ld (j := i + 2) S hX hbl hbA hS (by omega) hL d_Law_law_704 ?_
    refine kVl (rest := []) S (c_M_satisfied_n l (xs (i + 1)) hno (xs (i + 2))) kc_M_satisfied ⟨q_670, q_671, q_672⟩ rfl rfl ⟨Nat.le_of_ble_eq_true rfl, Nat.le_of_ble_eq_true rfl⟩ hC hS hA hcw ⟨8, _, _, _, rfl, hcw.1⟩ ⟨(by omega), (by omega)⟩ hl.1 rfl rfl (Nat.le_of_ble_eq_true rfl) d_Law_law_705 (fun r er => ?_)
    subst er
    refine lv_aload_n S.1 S.2.1 d_Law_law_708 rfl (lv_at hl 1 rfl) ?_
    refine lv_aload_n S.1 S.2.1 d_Law_law_709 rfl (lv_at hl 3 rfl) ?_
    refine lv_iload_n S.1 S.2.1 d_Law_law_710 rfl (lv_at hl 0 rfl) ?_
    refine lv_iconst (v := 1) S.1 S.2.1 d_Law_law_711 (by decide) ?_
    refine lv_iadd S.1 S.2.1 d_Law_law_712 ?_
    refine tpi (y := nI (i + 1)) (nI_add i 1) ?_
    refine s_ld (j := i + 1) S hX hbl hbA hS (by omega) hL d_Law_law_713 ?_
    refine lv_aload_n S.1 S.2.1 d_Law_law_714 rfl (lv_at hl 3 rfl) ?_
    refine lv_iload_n S.1 S.2.1 d_Law_law_715 rfl (lv_at hl 0 rfl) ?_
    refine lv_iconst (v := 2) S.1 S.2.1 d_Law_law_716 (by decide) ?_
    refine lv_iadd S.1 S.2.1 d_Law_law_717 ?_
    refine tpi (y := nI (i + 2)) (nI_add i 2) ?_
    refine s_ld (j := i + 2) S hX hbl hbA hS (by omega) hL d_Law_law_718 ?_
    refine kw_l (A := (fun q : Nat => kz K ≤ q)) (k_V (rest := [.long 0]) S (c_R_satisfied_n l hDm h12 (xs (i + 1)) hno (xs (i + 2))) kc_R_satisfied ⟨q_887, q_888, q_889⟩ rfl rfl ⟨Nat.le_of_ble_eq_true rfl, Nat.le_of_ble_eq_true rfl⟩ hC hS hA hw ⟨11, _, _, _, rfl, hw.1⟩ rfl hl.1 rfl (Nat.le_of_ble_eq_true rfl) ⟨(by omega), (by omega)⟩ d_Law_law_719) hS (fun q h => by obtain ⟨j9, hj9, rfl⟩ := h; exact hDm.2 j9 hj9) (fun r H locs er hz hkp hS => ?_)
    obtain ⟨er0, hw⟩ := er
    have hcw := hcw.cl hD hkp hsep
    subst er0
    refine W.lcmp S.1 S.2.1 d_Law_law_722 ?_
    refine lv_if_eq (tgt := 761) S.1 S.2.1 d_Law_law_723 (by decide) (fun _ => ?_) (fun hx9 => absurd (by decide) hx9)
    exact W.widen (k := cells + 3) (n := slots + 48) (by omega) (by omega) (kk _ _ ⟨els, wat, md, n, cap, fE, kd, wh, fi, se, lo, hi, fr, rg, xr, dc, ad, sa, stt, G, N, T, Qp, J, X, t, eb, hcw, hD, hcap, hw, hDm, hsep, htie0⟩ hS)
set_option maxHeartbeats 4000000 in
set_option maxRecDepth 100000 in
theorem law_17 (l : Launch) (S : CallFix p m c code 4 s #[Value.ref b] WALL "MetricLogMonitorLaw") (hC : CX K s) (hkz : kz K = s.heap.size) (hX : va_X b L xs s s.heap) (hbl : b < s.heap.size) (hL : L ≤ 2560) (hiL : i + 5 ≤ L) (hcc : cells + 3 ≤ room_1.cells) (hss : slots + 48 ≤ room_1.slots) (hv : inv K mon lst lg tm pr ma H) (hS : va_S (fun q : Nat => kz K ≤ q) s.heap H locs) (hl : lv_has ls 4 [(3, .int (nI i)), (2, .ref (ma 0)), (1, .ref mon), (0, .ref b)])
    (kk : ∀ (H' : Heap) (locs' : List Loc), inv K mon lst lg tm pr ma H' → va_S (fun q : Nat => kz K ≤ q) s.heap H' locs' → W p l e room_1 s m #[Value.ref b] below meth c H' locs' (cells + 3) (slots + 48) Q (F0 m 761 ls [])) : W p l e room_1 s m #[Value.ref b] below meth c H locs cells slots Q (F0 m 728 ls []) := by
  have hbA : ¬ (fun q : Nat => kz K ≤ q) b := fun z => absurd (show kz K ≤ b from z) (by omega)
  have hA : ∀ q, (fun q : Nat => kz K ≤ q) q → kz K ≤ q := fun _ h => h
  have hzH : kz K ≤ H.size := by have := hS.1; omega
  obtain ⟨els, wat, md, n, cap, fE, kd, wh, fi, se, lo, hi, fr, rg, xr, dc, ad, sa, stt, G, N, T, Qp, J, X, t, eb, hcw, hD, hcap, hw, hDm, hsep, htie⟩ := hv
  have htie0 := htie
  obtain ⟨hrcJ, hdcN⟩ := htie.rcJ
  obtain ⟨h12, h24, hwt, hw0, hV, hT, hfr, hrg, hxr, her, hrc, htm, hJ7, hQP, hGJ, hst, hXs⟩ := htie
  have hdc24 : ∀ j, j < n → dc j ≤ 24 := fun j hj => Nat.le_trans (hdcN j hj) h24
  by_cases hx : ∃ k, k < n ∧ xs (i + 1) = nI k
  · obtain ⟨k, hkn, ex⟩ := hx
    by_cases hx2 : ∃ j, j < dc k ∧ xs (i + 2) = nI j
    · obtain ⟨j, hj, ex2⟩ := hx2
      refine lv_aload_n S.1 S.2.1 d_Law_law_728 rfl (lv_at hl 2 rfl) ?_
      refine lv_aload_n S.1 S.2.1 d_Law_law_729 rfl (lv_at hl 3 rfl) ?_
      refine lv_iload_n S.1 S.2.1 d_Law_law_730 rfl (lv_at hl 0 rfl) ?_
      refine lv_iconst (v := 1) S.1 S.2.1 d_Law_law_731 (by decide) ?_
      refine lv_iadd S.1 S.2.1 d_Law_law_732 ?_
      refine tpi (y := nI (i + 1)) (nI_add i 1) ?_
      refine s_ld (j := i + 1) S hX hbl hbA hS (by omega) hL d_Law_law_733 ?_
      refine tpi (y := nI k) ex ?_
      refine lv_aload_n S.1 S.2.1 d_Law_law_734 rfl (lv_at hl 3 rfl) ?_
      refine lv_iload_n S.1 S.2.1 d_Law_law_735 rfl (lv_at hl 0 rfl) ?_
      refine lv_iconst (v := 2) S.1 S.2.1 d_Law_law_736 (by decide) ?_
      refine lv_iadd S.1 S.2.1 d_Law_law_737 ?_
      refine tpi (y := nI (i + 2)) (nI_add i 2) ?_
      refine s_ld (j := i + 2) S hX hbl hbA hS (by omega) hL d_Law_law_738 ?_
      refine tpi (y := nI j) ex2 ?_
      refine kVi (rest := []) S (c_M_rows_y l hkn hdc24 (nI j)) kc_M_rows ⟨q_675, q_676, q_677⟩ rfl rfl ⟨Nat.le_of_ble_eq_true rfl, Nat.le_of_ble_eq_true rfl⟩ hC hS hA hcw ⟨8, _, _, _, rfl, hcw.1⟩ ⟨(by omega), (by omega)⟩ hl.1 rfl rfl (Nat.le_of_ble_eq_true rfl) d_Law_law_739 (fun r er => ?_)
      have er := er.2 j hj rfl
      subst er
      refine lv_aload_n S.1 S.2.1 d_Law_law_742 rfl (lv_at hl 1 rfl) ?_
      refine lv_aload_n S.1 S.2.1 d_Law_law_743 rfl (lv_at hl 3 rfl) ?_
      refine lv_iload_n S.1 S.2.1 d_Law_law_744 rfl (lv_at hl 0 rfl) ?_
      refine lv_iconst (v := 1) S.1 S.2.1 d_Law_law_745 (by decide) ?_
      refine lv_iadd S.1 S.2.1 d_Law_law_746 ?_
      refine tpi (y := nI (i + 1)) (nI_add i 1) ?_
      refine s_ld (j := i + 1) S hX hbl hbA hS (by omega) hL d_Law_law_747 ?_
      refine tpi (y := nI k) ex ?_
      refine lv_aload_n S.1 S.2.1 d_Law_law_748 rfl (lv_at hl 3 rfl) ?_
      refine lv_iload_n S.1 S.2.1 d_Law_law_749 rfl (lv_at hl 0 rfl) ?_
      refine lv_iconst (v := 2) S.1 S.2.1 d_Law_law_750 (by decide) ?_
      refine lv_iadd S.1 S.2.1 d_Law_law_751 ?_
      refine tpi (y := nI (i + 2)) (nI_add i 2) ?_
      refine s_ld (j := i + 2) S hX hbl hbA hS (by omega) hL d_Law_law_752 ?_
      refine tpi (y := nI j) ex2 ?_
      refine kw_i (A := (fun q : Nat => kz K ≤ q)) (k_V (rest := [.int (nI (ct (tb (fd (fun v => bt (fr k) v) (stt k j) 3)) 64))]) S (c_R_rows_y1 l hDm hT hV h12 hkn hrcJ hdc24 h24 hj hfr) kc_R_rows ⟨q_896, q_897, q_898⟩ rfl rfl ⟨Nat.le_of_ble_eq_true rfl, Nat.le_of_ble_eq_true rfl⟩ hC hS hA hw ⟨11, _, _, _, rfl, hw.1⟩ rfl hl.1 rfl (Nat.le_of_ble_eq_true rfl) ⟨(by omega), (by omega)⟩ d_Law_law_753) hS (fun q h => by obtain ⟨j9, hj9, rfl⟩ := h; exact hDm.2 j9 hj9) (fun r H locs er hz hkp hS => ?_)
      obtain ⟨er0, J1, oJ, hw⟩ := er
      have hcw := hcw.cl hD hkp hsep
      subst er0
      refine lv_icmp_eq (tgt := 761) S.1 S.2.1 d_Law_law_756 (by decide) (fun _ => ?_) (fun hx9 => absurd (by rw [← show stt k j = X (24 * k + j) from (tb_ext (fun b9 hb9 => hst k hkn j hj b9 hb9))]; exact congrArg nI (rows_eq _ _)) hx9)
      exact W.widen (k := cells + 3) (n := slots + 48) (by omega) (by omega) (kk _ _ ⟨els, wat, md, n, cap, fE, kd, wh, fi, se, lo, hi, fr, rg, xr, dc, ad, sa, stt, G, N, T, Qp, J1, X, t, eb, hcw, hD, hcap, hw, hDm, hsep, htie0.jj (fun p hp => oJ p (by omega))⟩ hS)
    · have hno2 : ∀ j, j < dc k → ¬ xs (i + 2) = nI j := fun j h z => hx2 ⟨j, h, z⟩
      refine lv_aload_n S.1 S.2.1 d_Law_law_728 rfl (lv_at hl 2 rfl) ?_
      refine lv_aload_n S.1 S.2.1 d_Law_law_729 rfl (lv_at hl 3 rfl) ?_
      refine lv_iload_n S.1 S.2.1 d_Law_law_730 rfl (lv_at hl 0 rfl) ?_
      refine lv_iconst (v := 1) S.1 S.2.1 d_Law_law_731 (by decide) ?_
      refine lv_iadd S.1 S.2.1 d_Law_law_732 ?_
      refine tpi (y := nI (i + 1)) (nI_add i 1) ?_
      refine s_ld (j := i + 1) S hX hbl hbA hS (by omega) hL d_Law_law_733 ?_
      refine tpi (y := nI k) ex ?_
      refine lv_aload_n S.1 S.2.1 d_Law_law_734 rfl (lv_at hl 3 rfl) ?_
      refine lv_iload_n S.1 S.2.1 d_Law_law_735 rfl (lv_at hl 0 rfl) ?_
      refine lv_iconst (v := 2) S.1 S.2.1 d_Law_law_736 (by decide) ?_
      refine lv_iadd S.1 S.2.1 d_Law_law_737 ?_
      refine tpi (y := nI (i + 2)) (nI_add i 2) ?_
      refine s_ld (j := i + 2) S hX hbl hbA hS (by omega) hL d_Law_law_738 ?_
      refine kVi (rest := []) S (c_M_rows_y l hkn hdc24 (xs (i + 2))) kc_M_rows ⟨q_675, q_676, q_677⟩ rfl rfl ⟨Nat.le_of_ble_eq_true rfl, Nat.le_of_ble_eq_true rfl⟩ hC hS hA hcw ⟨8, _, _, _, rfl, hcw.1⟩ ⟨(by omega), (by omega)⟩ hl.1 rfl rfl (Nat.le_of_ble_eq_true rfl) d_Law_law_739 (fun r er => ?_)
      have er := er.1 (dec_0 (by have := hdc24 k hkn; omega) hno2)
      subst er
      refine lv_aload_n S.1 S.2.1 d_Law_law_742 rfl (lv_at hl 1 rfl) ?_
      refine lv_aload_n S.1 S.2.1 d_Law_law_743 rfl (lv_at hl 3 rfl) ?_
      refine lv_iload_n S.1 S.2.1 d_Law_law_744 rfl (lv_at hl 0 rfl) ?_
      refine lv_iconst (v := 1) S.1 S.2.1 d_Law_law_745 (by decide) ?_
      refine lv_iadd S.1 S.2.1 d_Law_law_746 ?_
      refine tpi (y := nI (i + 1)) (nI_add i 1) ?_
      refine s_ld (j := i + 1) S hX hbl hbA hS (by omega) hL d_Law_law_747 ?_
      refine tpi (y := nI k) ex ?_
      refine lv_aload_n S.1 S.2.1 d_Law_law_748 rfl (lv_at hl 3 rfl) ?_
      refine lv_iload_n S.1 S.2.1 d_Law_law_749 rfl (lv_at hl 0 rfl) ?_
      refine lv_iconst (v := 2) S.1 S.2.1 d_Law_law_750 (by decide) ?_
      refine lv_iadd S.1 S.2.1 d_Law_law_751 ?_
      refine tpi (y := nI (i + 2)) (nI_add i 2) ?_
      refine s_ld (j := i + 2) S hX hbl hbA hS (by omega) hL d_Law_law_752 ?_
      refine kw_i (A := (fun q : Nat => kz K ≤ q)) (k_V (rest := [.int (-1)]) S (c_R_rows_y0 l hDm hT hV h12 hkn hrcJ hdc24 h24 (xs (i + 2)) hno2) kc_R_rows ⟨q_896, q_897, q_898⟩ rfl rfl ⟨Nat.le_of_ble_eq_true rfl, Nat.le_of_ble_eq_true rfl⟩ hC hS hA hw ⟨11, _, _, _, rfl, hw.1⟩ rfl hl.1 rfl (Nat.le_of_ble_eq_true rfl) ⟨(by omega), (by omega)⟩ d_Law_law_753) hS (fun q h => by obtain ⟨j9, hj9, rfl⟩ := h; exact hDm.2 j9 hj9) (fun r H locs er hz hkp hS => ?_)
      obtain ⟨er0, J1, oJ, hw⟩ := er
      have hcw := hcw.cl hD hkp hsep
      subst er0
      refine lv_icmp_eq (tgt := 761) S.1 S.2.1 d_Law_law_756 (by decide) (fun _ => ?_) (fun hx9 => absurd (by decide) hx9)
      exact W.widen (k := cells + 3) (n := slots + 48) (by omega) (by omega) (kk _ _ ⟨els, wat, md, n, cap, fE, kd, wh, fi, se, lo, hi, fr, rg, xr, dc, ad, sa, stt, G, N, T, Qp, J1, X, t, eb, hcw, hD, hcap, hw, hDm, hsep, htie0.jj (fun p hp => oJ p (by omega))⟩ hS)
  · have hno : ∀ k, k < n → ¬ xs (i + 1) = nI k := fun k h z => hx ⟨k, h, z⟩
    refine lv_aload_n S.1 S.2.1 d_Law_law_728 rfl (lv_at hl 2 rfl) ?_
    refine lv_aload_n S.1 S.2.1 d_Law_law_729 rfl (lv_at hl 3 rfl) ?_
    refine lv_iload_n S.1 S.2.1 d_Law_law_730 rfl (lv_at hl 0 rfl) ?_
    refine lv_iconst (v := 1) S.1 S.2.1 d_Law_law_731 (by decide) ?_
    refine lv_iadd S.1 S.2.1 d_Law_law_732 ?_
    refine tpi (y := nI (i + 1)) (nI_add i 1) ?_
    refine s_ld (j := i + 1) S hX hbl hbA hS (by omega) hL d_Law_law_733 ?_
    refine lv_aload_n S.1 S.2.1 d_Law_law_734 rfl (lv_at hl 3 rfl) ?_
    refine lv_iload_n S.1 S.2.1 d_Law_law_735 rfl (lv_at hl 0 rfl) ?_
    refine lv_iconst (v := 2) S.1 S.2.1 d_Law_law_736 (by decide) ?_
    refine lv_iadd S.1 S.2.1 d_Law_law_737 ?_
    refine tpi (y := nI (i + 2)) (nI_add i 2) ?_
    refine s_ld (j := i + 2) S hX hbl hbA hS (by omega) hL d_Law_law_738 ?_
    refine kVi (rest := []) S (c_M_rows_n l (xs (i + 1)) hno (xs (i + 2))) kc_M_rows ⟨q_675, q_676, q_677⟩ rfl rfl ⟨Nat.le_of_ble_eq_true rfl, Nat.le_of_ble_eq_true rfl⟩ hC hS hA hcw ⟨8, _, _, _, rfl, hcw.1⟩ ⟨(by omega), (by omega)⟩ hl.1 rfl rfl (Nat.le_of_ble_eq_true rfl) d_Law_law_739 (fun r er => ?_)
    subst er
    refine lv_aload_n S.1 S.2.1 d_Law_law_742 rfl (lv_at hl 1 rfl) ?_
    refine lv_aload_n S.1 S.2.1 d_Law_law_743 rfl (lv_at hl 3 rfl) ?_
    refine lv_iload_n S.1 S.2.1 d_Law_law_744 rfl (lv_at hl 0 rfl) ?_
    refine lv_iconst (v := 1) S.1 S.2.1 d_Law_law_745 (by decide) ?_
    refine lv_iadd S.1 S.2.1 d_Law_law_746 ?_
    refine tpi (y := nI (i + 1)) (nI_add i 1) ?_
    refine s_ld (j := i + 1) S hX hbl hbA hS (by omega) hL d_Law_law_747 ?_
    refine lv_aload_n S.1 S.2.1 d_Law_law_748 rfl (lv_at hl 3 rfl) ?_
    refine lv_iload_n S.1 S.2.1 d_Law_law_749 rfl (lv_at hl 0 rfl) ?_
    refine lv_iconst (v := 2) S.1 S.2.1 d_Law_law_750 (by decide) ?_
    refine lv_iadd S.1 S.2.1 d_Law_law_751 ?_
    refine tpi (y := nI (i + 2)) (nI_add i 2) ?_
    refine s_ld (j := i + 2) S hX hbl hbA hS (by omega) hL d_Law_law_752 ?_
    refine kw_i (A := (fun q : Nat => kz K ≤ q)) (k_V (rest := [.int (-1)]) S (c_R_rows_n l hDm h12 (xs (i + 1)) hno (xs (i + 2))) kc_R_rows ⟨q_896, q_897, q_898⟩ rfl rfl ⟨Nat.le_of_ble_eq_true rfl, Nat.le_of_ble_eq_true rfl⟩ hC hS hA hw ⟨11, _, _, _, rfl, hw.1⟩ rfl hl.1 rfl (Nat.le_of_ble_eq_true rfl) ⟨(by omega), (by omega)⟩ d_Law_law_753) hS (fun q h => by obtain ⟨j9, hj9, rfl⟩ := h; exact hDm.2 j9 hj9) (fun r H locs er hz hkp hS => ?_)
    obtain ⟨er0, hw⟩ := er
    have hcw := hcw.cl hD hkp hsep
    subst er0
    refine lv_icmp_eq (tgt := 761) S.1 S.2.1 d_Law_law_756 (by decide) (fun _ => ?_) (fun hx9 => absurd (by decide) hx9)
    exact W.widen (k := cells + 3) (n := slots + 48) (by omega) (by omega) (kk _ _ ⟨els, wat, md, n, cap, fE, kd, wh, fi, se, lo, hi, fr, rg, xr, dc, ad, sa, stt, G, N, T, Qp, J, X, t, eb, hcw, hD, hcap, hw, hDm, hsep, htie0⟩ hS)
end
