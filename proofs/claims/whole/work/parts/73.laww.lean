/-! the law's watching calls -/
section
variable {wat : Int32} {n N : Nat} {kd wh fi se : Nat → Nat} {lo hi fr rg xr T : Nat → Int32} {dc dc' t t' : Nat → Nat} {stt stt' : Nat → Nat → Int64} {G : Int64} {Qp X X' : Nat → Int64} {J J' : Nat → Nat → Int32} {er : Nat → Bool} {x time : Int32}
theorem emp_0 : f_AL_isEmpty n = 0 ↔ ¬ nI n = 0 := by
  unfold f_AL_isEmpty
  by_cases h : nI n = 0
  · simp [h]
  · simp [h]
theorem rel_y : ∀ r, r < 3 → ¬ f_M_isRelation (nI r) = 0 := by decide
theorem val_y : ∀ r, r < 4 → ¬ f_M_isValue (nI r) = 0 := by decide
theorem rel_of (h : ¬ f_M_isRelation x = 0) : ∃ r, r < 3 ∧ x = nI r := by
  unfold f_M_isRelation at h
  rcases pk_ix x (n := 3) (by decide) with c | c | ⟨j, hj, e⟩
  · simp [c] at h
  · simp [show (3 : Int32) ≤ x from c] at h
  · exact ⟨j, hj, e⟩
theorem val_of (h : ¬ f_M_isValue x = 0) : ∃ r, r < 4 ∧ x = nI r := by
  unfold f_M_isValue at h
  rcases pk_ix x (n := 4) (by decide) with c | c | ⟨j, hj, e⟩
  · simp [c] at h
  · simp [show (4 : Int32) ≤ x from c] at h
  · exact ⟨j, hj, e⟩
theorem r2_of (h1 : ¬ x < 0) (h2 : ¬ 2 < x) : ∃ r, r < 3 ∧ x = nI r := by
  obtain ⟨j, hj, e⟩ := nI_of2 (n := 2) (M := 2) (by decide) h1 (Int32.not_lt.mp h2)
  exact ⟨j, by omega, e⟩
theorem r3_of (h1 : ¬ x < 0) (h2 : x ≤ 3) : ∃ r, r < 4 ∧ x = nI r := by
  obtain ⟨j, hj, e⟩ := nI_of2 (n := 3) (M := 3) (by decide) h1 h2
  exact ⟨j, by omega, e⟩
theorem gat_eq {g : Int32} {k q : Nat} (hk : k < 64) (h : tb G k = bt g q) : (if lg_cmp (G &&& ((1 : Int64) <<< ((nI k).toInt64 &&& 63))) 0 = 0 then (1 : Int32) else 0) = bI (!bt g q) := by
  by_cases hc : G &&& ((1 : Int64) <<< ((nI k).toInt64 &&& 63)) = 0
  · rw [if_pos ((lg_cmp0 _ _).mpr hc), ← h, (tb_andbit G hk).mp hc]; rfl
  · rw [if_neg (fun z => hc ((lg_cmp0 _ _).mp z)), ← h, bnf (fun z => hc ((tb_andbit G hk).mpr z))]; rfl
theorem tie.ga {r a b : Nat} (h : tie wat n kd wh fi se lo hi fr rg xr dc stt G N T Qp J X t er) (hr : r < 3) (ha : a < 4) (hb : b < 4) (hwt1 : ¬ wat = 0) (e : ∀ p, p ≠ 9 → J' p = J p) (e9 : J' 9 = upd (J 9) r (J 9 r ||| ((1 : Int32) <<< ((nI (a + 4 * b) : Int32) &&& 31)))) : tie wat n kd wh fi se lo hi fr rg xr dc stt (G ||| f_M_pairBit (nI r) (nI a) (nI b)) N T Qp J' X t er := by
  obtain ⟨h12, h24, hwt, hw0, hV, hT, hfr, hrg, hxr, her, hrc, htm, hJ7, hQP, hGJ, hst, hXs⟩ := h
  refine ⟨h12, h24, hwt, fun z => absurd z hwt1, hV, hT.to (fun p hp => e p (by omega)), hfr, hrg, hxr, her, hrc, htm, by rw [e 7 (by decide)]; exact hJ7, by rw [e 8 (by decide)]; exact hQP, fun r2 x y h2 hx hy => ?_, hst, by rw [e 7 (by decide), e 8 (by decide)]; exact hXs⟩
  rw [pairBit_eq, tb_orbit _ (by omega) (by omega), hGJ r2 x y h2 hx hy, e9]
  by_cases e0 : r2 = r
  · subst e0
    rw [pk_us, b_orbit _ (by omega) (by omega)]
    congr 1
    rw [decide_eq_decide]
    omega
  · rw [pk_un e0, decide_eq_false (by omega), Bool.or_false]
theorem acc_iff (h24 : N ≤ 24) : ¬ f_Log_accepts T N time = 0 ↔ (¬ time < 0 ∧ ¬ 1000000 < time ∧ ¬ 24 ≤ nI N ∧ (nI N ≤ 0 ∨ T (N - 1) ≤ time)) := by
  unfold f_Log_accepts f_M_isTime
  have hle : nI N ≤ 0 ↔ nI N = 0 := by
    have h1 := nI_leI (a := N) (b := 0) (by omega) (by decide)
    have h2 := nI_eq (a := N) (b := 0) (by omega) (by decide)
    rw [show (0 : Int32) = nI 0 from rfl, h1, h2]; omega
  rw [hle]
  by_cases c1 : time < 0
  · simp [c1]
  · by_cases c2 : 1000000 < time
    · simp [c1, c2]
    · by_cases c3 : 24 ≤ nI N
      · simp [c1, c2, c3]
      · by_cases c4 : nI N = 0
        · simp [c1, c2, c3, c4]
        · by_cases c5 : time < T (N - 1)
          · simp [c1, c2, c3, c4, c5, Int32.not_le.mpr c5]
          · simp [c1, c2, c3, c4, c5, Int32.not_lt.mp c5]
theorem tm_new {tt : Nat} (h : tmOk T t N) (ht : tt ≤ 1000000) (hl : nI N ≤ 0 ∨ T (N - 1) ≤ nI tt) (h24 : N ≤ 24) : tmOk (upd T N (nI tt)) (va_up t N tt) (N + 1) := by
  have hlast : ∀ i, i < N → t i ≤ tt := by
    intro i hi
    rcases hl with z | z
    · exact absurd z (nI_nle (by omega) (by omega))
    · rw [(h.1 (N - 1) (by omega)).1, nI_leI (by have := (h.1 (N - 1) (by omega)).2; omega) (by omega)] at z
      have := h.2 i (N - 1) (by omega) (by omega)
      omega
  refine ⟨fun i hi => ?_, fun i j hij hj => ?_⟩
  · by_cases e : i = N
    · subst e; rw [pk_us, va_up_self]; exact ⟨rfl, ht⟩
    · rw [pk_un e, va_up_ne _ _ e]; exact h.1 i (by omega)
  · by_cases e : j = N
    · subst e
      rw [va_up_self]
      by_cases e2 : i = j
      · subst e2; rw [va_up_self]; exact Nat.le_refl _
      · rw [va_up_ne _ _ e2]; exact hlast i (by omega)
    · rw [va_up_ne _ _ e, va_up_ne _ _ (by omega)]
      exact h.2 i j hij (by omega)
/-- the pairs of all places, with the gathered ones at N -/
def pN (J : Nat → Nat → Int32) (N q : Nat) : Int32 := if q = N then J 9 0 else if q = 24 + N then J 9 1 else if q = 48 + N then J 9 2 else J 8 q
theorem pN_at {r i : Nat} (hr : r < 3) (hi : i < 24) (hN : N < 24) : pN J N (24 * r + i) = if i = N then J 9 r else J 8 (24 * r + i) := by
  unfold pN
  rcases (show r = 0 ∨ r = 1 ∨ r = 2 by omega) with rfl | rfl | rfl
  · by_cases e : i = N
    · rw [if_pos (by omega), if_pos e]
    · rw [if_neg (by omega), if_neg (by omega), if_neg (by omega), if_neg e]
  · by_cases e : i = N
    · rw [if_neg (by omega), if_pos (by omega), if_pos e]
    · rw [if_neg (by omega), if_neg (by omega), if_neg (by omega), if_neg e]
  · by_cases e : i = N
    · rw [if_neg (by omega), if_neg (by omega), if_pos (by omega), if_pos e]
    · rw [if_neg (by omega), if_neg (by omega), if_neg (by omega), if_neg e]
theorem pN_eq (h1 : ∀ r, r < 3 → J' 8 (24 * r + N) = J 9 r) (h2 : ∀ q, (∀ r, r < 3 → q ≠ 24 * r + N) → J' 8 q = J 8 q) : J' 8 = pN J N := by
  funext q
  unfold pN
  by_cases e0 : q = N
  · rw [if_pos e0, e0, ← h1 0 (by decide)]; congr 1; omega
  · by_cases e1 : q = 24 + N
    · rw [if_neg e0, if_pos e1, e1, ← h1 1 (by decide)]
    · by_cases e2 : q = 48 + N
      · rw [if_neg e0, if_neg e1, if_pos e2, e2, ← h1 2 (by decide)]
      · rw [if_neg e0, if_neg e1, if_neg e2]
        exact h2 q (fun r hr => by rcases (show r = 0 ∨ r = 1 ∨ r = 2 by omega) with rfl | rfl | rfl <;> omega)
theorem pN_Q (h24 : N < 24) (hQP : ∀ i, i < N → ∀ r x y, r < 3 → x < 4 → y < 4 → tb (Qp i) (16 * r + 4 * x + y) = bt (J 8 (24 * r + i)) (x + 4 * y)) (hGJ : ∀ r x y, r < 3 → x < 4 → y < 4 → tb G (16 * r + 4 * x + y) = bt (J 9 r) (x + 4 * y)) : ∀ i, i < N + 1 → ∀ r x y, r < 3 → x < 4 → y < 4 → tb ((vp_updL Qp N G) i) (16 * r + 4 * x + y) = bt (pN J N (24 * r + i)) (x + 4 * y) := by
  intro i hi r x y hr hx hy
  rw [pN_at hr (by omega) h24]
  by_cases e : i = N
  · rw [if_pos e, e, pk_uLs]; exact hGJ r x y hr hx hy
  · rw [if_neg e, pk_uLn e]; exact hQP i (by omega) r x y hr hx hy
theorem tie.pl {tt : Nat} (h : tie wat n kd wh fi se lo hi fr rg xr dc stt G N T Qp J X t er) (hwt1 : ¬ wat = 0) (h24 : N < 24) (htm2 : tmOk (upd T N time) t' (N + 1)) (hp : plc kd wh fi se lo hi (upd T N time) (pN J N) dc stt (N + 1) n dc' stt' n) (e : ∀ p, p ≠ 7 → p ≠ 8 → p ≠ 9 → J' p = J p) (e7 : J' 7 = upd (J 7) N time) (h1 : ∀ r, r < 3 → J' 8 (24 * r + N) = J 9 r) (h2 : ∀ q, (∀ r, r < 3 → q ≠ 24 * r + N) → J' 8 q = J 8 q) (h9 : ∀ r, r < 3 → J' 9 r = 0) (hX2 : ∀ f i, f < n → i < N + 1 → ∀ b, b < 64 → tb (X' (24 * f + i)) b = sat kd wh fi se lo hi (J' 7) (J' 8) X' (N + 1) f i b) : tie wat n kd wh fi se lo hi fr rg xr dc' stt' 0 (N + 1) (upd T N time) (vp_updL Qp N G) J' X' t' er := by
  obtain ⟨h12, -, hwt, hw0, hV, hT, hfr, hrg, hxr, her, hrc, htm, hJ7, hQP, hGJ, hst, hXs⟩ := h
  have e8 := pN_eq h1 h2
  rw [hJ7] at e7
  rw [e7, e8] at hX2
  rw [hJ7] at hXs
  refine ⟨h12, by omega, hwt, fun z => absurd z hwt1, hV, hT.to (fun p hp => e p (by omega) (by omega) (by omega)), hfr, hrg, hxr, her, hp.1, htm2, e7, by rw [e8]; exact pN_Q h24 hQP hGJ, fun r x y hr hx hy => by rw [tb_0, h9 r hr, b_0], ?_, fun k hk i hi b hb => by rw [e7, e8]; exact hX2 k i hk hi b hb⟩
  exact newOk hV (by omega) htm2 (fun i hi => pk_un (by omega)) (fun r i hr hi => by rw [pN_at hr (by omega) h24, if_neg (by omega)]) hXs (fun k hk i hi b hb => hX2 k i hk hi b hb) hrc hp.1 hst hp.2.2.1 hp.2.2.2.1
end
section
variable {p : Program} {e : Env} {s : State} {m : MethodId} {below : List Frame} {meth : Method} {c : Code} {H : Heap} {locs : List Loc} {cells slots : Nat} {Q : State → Prop} {ls : Array Slot}
variable {K : KT} {mon lst lg tm pr b L i : Nat} {ma : Nat → Nat} {xs : Nat → Int32}
set_option maxHeartbeats 4000000 in
set_option maxRecDepth 100000 in
theorem law_11 (l : Launch) (S : CallFix p m c code 4 s #[Value.ref b] WALL "MetricLogMonitorLaw") (hC : CX K s) (hkz : kz K = s.heap.size) (hX : va_X b L xs s s.heap) (hbl : b < s.heap.size) (hL : L ≤ 2560) (hiL : i + 5 ≤ L) (hcc : cells + 3 ≤ room_1.cells) (hss : slots + 48 ≤ room_1.slots) (hv : inv K mon lst lg tm pr ma H) (hS : va_S (fun q : Nat => kz K ≤ q) s.heap H locs) (hl : lv_has ls 4 [(3, .int (nI i)), (2, .ref (ma 0)), (1, .ref mon), (0, .ref b)])
    (kk : ∀ (H' : Heap) (locs' : List Loc), inv K mon lst lg tm pr ma H' → va_S (fun q : Nat => kz K ≤ q) s.heap H' locs' → W p l e room_1 s m #[Value.ref b] below meth c H' locs' (cells + 3) (slots + 48) Q (F0 m 761 ls [])) : W p l e room_1 s m #[Value.ref b] below meth c H locs cells slots Q (F0 m 555 ls []) := by
  have hbA : ¬ (fun q : Nat => kz K ≤ q) b := fun z => absurd (show kz K ≤ b from z) (by omega)
  have hA : ∀ q, (fun q : Nat => kz K ≤ q) q → kz K ≤ q := fun _ h => h
  have hzH : kz K ≤ H.size := by have := hS.1; omega
  obtain ⟨els, wat, md, n, cap, fE, kd, wh, fi, se, lo, hi, fr, rg, xr, dc, ad, sa, stt, G, N, T, Qp, J, X, t, eb, hcw, hD, hcap, hw, hDm, hsep, htie⟩ := hv
  have htie0 := htie
  obtain ⟨hrcJ, hdcN⟩ := htie.rcJ
  obtain ⟨h12, h24, hwt, hw0, hV, hT, hfr, hrg, hxr, her, hrc, htm, hJ7, hQP, hGJ, hst, hXs⟩ := htie
  have hdc24 : ∀ j, j < n → dc j ≤ 24 := fun j hj => Nat.le_trans (hdcN j hj) h24
  by_cases hc : wat = 0 ∧ ¬ nI n = 0
  · obtain ⟨hN0, hG0⟩ := hw0 hc.1
    subst hN0
    subst hG0
    refine lv_aload_n S.1 S.2.1 d_Law_law_555 rfl (lv_at hl 2 rfl) ?_
    refine kw_i (A := (fun q : Nat => kz K ≤ q)) (k_V (rest := []) S (c_M_watch l (fun z => absurd z (hD.fix (i := 1) (j := 0) (by omega) (by omega) (by omega))) (hD.2.1 0 (by omega) (by omega))) kc_M_watch ⟨q_481, q_482, q_483⟩ rfl rfl ⟨Nat.le_of_ble_eq_true rfl, Nat.le_of_ble_eq_true rfl⟩ hC hS hA ⟨hcw.1, hcw.2.1.1⟩ ⟨8, _, _, _, rfl, hcw.1⟩ rfl hl.1 rfl (Nat.le_of_ble_eq_true rfl) ⟨(by omega), (by omega)⟩ d_Law_law_556) hS (fun q h => by rw [h]; exact hD.2.1 0 (by omega) (by omega)) (fun r H locs er hz hkp hS => ?_)
    obtain ⟨er0, hm9⟩ := er.1 ⟨hc.1, emp_0.mpr hc.2⟩
    have hcw := cw_mon hcw hD hm9 hkp
    have hw := hw.cl hkp (fun j9 hj9 z => hsep _ (ac_fix hD (i := 0) (by omega) (by omega)) ⟨j9, hj9, z.symm⟩)
    clear er
    subst er0
    refine lv_aload_n S.1 S.2.1 d_Law_law_559 rfl (lv_at hl 1 rfl) ?_
    refine kw_i (A := (fun q : Nat => kz K ≤ q)) (k_V (rest := [.int 1]) S (c_R_watch l hDm) kc_R_watch ⟨q_824, q_825, q_826⟩ rfl rfl ⟨Nat.le_of_ble_eq_true rfl, Nat.le_of_ble_eq_true rfl⟩ hC hS hA hw ⟨11, _, _, _, rfl, hw.1⟩ rfl hl.1 rfl (Nat.le_of_ble_eq_true rfl) ⟨(by omega), (by omega)⟩ d_Law_law_560) hS (fun q h => by obtain ⟨j9, hj9, rfl⟩ := h; exact hDm.2 j9 hj9) (fun r H locs er hz hkp hS => ?_)
    have er1 := er
    obtain ⟨er0, J1, oJ, e9, hw⟩ := er1.1 hc
    clear er1
    have hcw := hcw.cl hD hkp hsep
    subst er0
    refine lv_icmp_eq (tgt := 761) S.1 S.2.1 d_Law_law_563 (by decide) (fun _ => ?_) (fun hx9 => absurd rfl hx9)
    exact W.widen (k := cells + 3) (n := slots + 48) (by omega) (by omega) (kk _ _ ⟨els, 1, md, n, cap, fE, kd, wh, fi, se, lo, hi, fr, rg, xr, dc, ad, sa, stt, 0, 0, T, Qp, J1, X, t, eb, hcw, hD, hcap, hw, hDm, hsep, htie0.st oJ e9 (fun k9 hk9 => by have := hdcN k9 hk9; omega) (Or.inr rfl)⟩ hS)
  · have hc2 : ¬ (wat = 0 ∧ f_AL_isEmpty n = 0) := fun z => hc ⟨z.1, emp_0.mp z.2⟩
    refine lv_aload_n S.1 S.2.1 d_Law_law_555 rfl (lv_at hl 2 rfl) ?_
    refine kw_i (A := (fun q : Nat => kz K ≤ q)) (k_V (rest := []) S (c_M_watch l (fun z => absurd z (hD.fix (i := 1) (j := 0) (by omega) (by omega) (by omega))) (hD.2.1 0 (by omega) (by omega))) kc_M_watch ⟨q_481, q_482, q_483⟩ rfl rfl ⟨Nat.le_of_ble_eq_true rfl, Nat.le_of_ble_eq_true rfl⟩ hC hS hA ⟨hcw.1, hcw.2.1.1⟩ ⟨8, _, _, _, rfl, hcw.1⟩ rfl hl.1 rfl (Nat.le_of_ble_eq_true rfl) ⟨(by omega), (by omega)⟩ d_Law_law_556) hS (fun q h => by rw [h]; exact hD.2.1 0 (by omega) (by omega)) (fun r H locs er hz hkp hS => ?_)
    obtain ⟨er0, hm9⟩ := er.2 hc2
    have hcw := cw_mon hcw hD hm9 hkp
    have hw := hw.cl hkp (fun j9 hj9 z => hsep _ (ac_fix hD (i := 0) (by omega) (by omega)) ⟨j9, hj9, z.symm⟩)
    clear er
    subst er0
    refine lv_aload_n S.1 S.2.1 d_Law_law_559 rfl (lv_at hl 1 rfl) ?_
    refine kw_i (A := (fun q : Nat => kz K ≤ q)) (k_V (rest := [.int 0]) S (c_R_watch l hDm) kc_R_watch ⟨q_824, q_825, q_826⟩ rfl rfl ⟨Nat.le_of_ble_eq_true rfl, Nat.le_of_ble_eq_true rfl⟩ hC hS hA hw ⟨11, _, _, _, rfl, hw.1⟩ rfl hl.1 rfl (Nat.le_of_ble_eq_true rfl) ⟨(by omega), (by omega)⟩ d_Law_law_560) hS (fun q h => by obtain ⟨j9, hj9, rfl⟩ := h; exact hDm.2 j9 hj9) (fun r H locs er hz hkp hS => ?_)
    have er1 := er
    obtain ⟨er0, hw⟩ := er1.2 hc
    clear er1
    have hcw := hcw.cl hD hkp hsep
    subst er0
    refine lv_icmp_eq (tgt := 761) S.1 S.2.1 d_Law_law_563 (by decide) (fun _ => ?_) (fun hx9 => absurd rfl hx9)
    exact W.widen (k := cells + 3) (n := slots + 48) (by omega) (by omega) (kk _ _ ⟨els, wat, md, n, cap, fE, kd, wh, fi, se, lo, hi, fr, rg, xr, dc, ad, sa, stt, G, N, T, Qp, J, X, t, eb, hcw, hD, hcap, hw, hDm, hsep, htie0⟩ hS)
set_option maxHeartbeats 4000000 in
set_option maxRecDepth 100000 in
theorem law_12 (l : Launch) (S : CallFix p m c code 4 s #[Value.ref b] WALL "MetricLogMonitorLaw") (hC : CX K s) (hkz : kz K = s.heap.size) (hX : va_X b L xs s s.heap) (hbl : b < s.heap.size) (hL : L ≤ 2560) (hiL : i + 5 ≤ L) (hcc : cells + 3 ≤ room_1.cells) (hss : slots + 48 ≤ room_1.slots) (hv : inv K mon lst lg tm pr ma H) (hS : va_S (fun q : Nat => kz K ≤ q) s.heap H locs) (hl : lv_has ls 4 [(3, .int (nI i)), (2, .ref (ma 0)), (1, .ref mon), (0, .ref b)])
    (kk : ∀ (H' : Heap) (locs' : List Loc), inv K mon lst lg tm pr ma H' → va_S (fun q : Nat => kz K ≤ q) s.heap H' locs' → W p l e room_1 s m #[Value.ref b] below meth c H' locs' (cells + 3) (slots + 48) Q (F0 m 761 ls [])) : W p l e room_1 s m #[Value.ref b] below meth c H locs cells slots Q (F0 m 568 ls []) := by
  have hbA : ¬ (fun q : Nat => kz K ≤ q) b := fun z => absurd (show kz K ≤ b from z) (by omega)
  have hA : ∀ q, (fun q : Nat => kz K ≤ q) q → kz K ≤ q := fun _ h => h
  have hzH : kz K ≤ H.size := by have := hS.1; omega
  obtain ⟨els, wat, md, n, cap, fE, kd, wh, fi, se, lo, hi, fr, rg, xr, dc, ad, sa, stt, G, N, T, Qp, J, X, t, eb, hcw, hD, hcap, hw, hDm, hsep, htie⟩ := hv
  have htie0 := htie
  obtain ⟨hrcJ, hdcN⟩ := htie.rcJ
  obtain ⟨h12, h24, hwt, hw0, hV, hT, hfr, hrg, hxr, her, hrc, htm, hJ7, hQP, hGJ, hst, hXs⟩ := htie
  have hdc24 : ∀ j, j < n → dc j ≤ 24 := fun j hj => Nat.le_trans (hdcN j hj) h24
  by_cases hc : ¬ wat = 0 ∧ ∃ r a b2, r < 3 ∧ a < 4 ∧ b2 < 4 ∧ xs (i + 1) = nI r ∧ xs (i + 2) = nI a ∧ xs (i + 3) = nI b2
  · obtain ⟨hwn, r9, a, b2, hr3, ha4, hb4, ex1, ex2, ex3⟩ := hc
    refine lv_aload_n S.1 S.2.1 d_Law_law_568 rfl (lv_at hl 2 rfl) ?_
    refine lv_aload_n S.1 S.2.1 d_Law_law_569 rfl (lv_at hl 3 rfl) ?_
    refine lv_iload_n S.1 S.2.1 d_Law_law_570 rfl (lv_at hl 0 rfl) ?_
    refine lv_iconst (v := 1) S.1 S.2.1 d_Law_law_571 (by decide) ?_
    refine lv_iadd S.1 S.2.1 d_Law_law_572 ?_
    refine tpi (y := nI (i + 1)) (nI_add i 1) ?_
    refine s_ld (j := i + 1) S hX hbl hbA hS (by omega) hL d_Law_law_573 ?_
    refine tpi (y := nI r9) ex1 ?_
    refine lv_aload_n S.1 S.2.1 d_Law_law_574 rfl (lv_at hl 3 rfl) ?_
    refine lv_iload_n S.1 S.2.1 d_Law_law_575 rfl (lv_at hl 0 rfl) ?_
    refine lv_iconst (v := 2) S.1 S.2.1 d_Law_law_576 (by decide) ?_
    refine lv_iadd S.1 S.2.1 d_Law_law_577 ?_
    refine tpi (y := nI (i + 2)) (nI_add i 2) ?_
    refine s_ld (j := i + 2) S hX hbl hbA hS (by omega) hL d_Law_law_578 ?_
    refine tpi (y := nI a) ex2 ?_
    refine lv_aload_n S.1 S.2.1 d_Law_law_579 rfl (lv_at hl 3 rfl) ?_
    refine lv_iload_n S.1 S.2.1 d_Law_law_580 rfl (lv_at hl 0 rfl) ?_
    refine lv_iconst (v := 3) S.1 S.2.1 d_Law_law_581 (by decide) ?_
    refine lv_iadd S.1 S.2.1 d_Law_law_582 ?_
    refine tpi (y := nI (i + 3)) (nI_add i 3) ?_
    refine s_ld (j := i + 3) S hX hbl hbA hS (by omega) hL d_Law_law_583 ?_
    refine tpi (y := nI b2) ex3 ?_
    refine kw_i (A := (fun q : Nat => kz K ≤ q)) (k_V (rest := []) S (c_M_gather l (nI r9) (nI a) (nI b2) (hD.2.1 3 (by omega) (by omega))) kc_M_gather ⟨q_489, q_490, q_491⟩ rfl rfl ⟨Nat.le_of_ble_eq_true rfl, Nat.le_of_ble_eq_true rfl⟩ hC hS hA ⟨hcw.1, hcw.2.2.1⟩ ⟨8, _, _, _, rfl, hcw.1⟩ rfl hl.1 rfl (Nat.le_of_ble_eq_true rfl) ⟨(by omega), (by omega)⟩ d_Law_law_584) hS (fun q h => by rw [h]; exact hD.2.1 3 (by omega) (by omega)) (fun r H locs er hz hkp hS => ?_)
    obtain ⟨er0, hg9⟩ := er.1 ⟨hwn, rel_y r9 hr3, val_y a ha4, val_y b2 hb4⟩
    have hcw := cw_log hcw hD hg9 (hcw.2.2.2.1.cl hkp (fun z => hD.fix (i := 4) (j := 3) (by omega) (by omega) (by omega) z)) (hcw.2.2.2.2.1.cl hkp (fun z => hD.fix (i := 5) (j := 3) (by omega) (by omega) (by omega) z)) (fun q h1 h2 => hkp q h1 (fun z => h2 (Or.inl z)))
    have hw := hw.cl hkp (fun j9 hj9 z => hsep _ (ac_fix hD (i := 3) (by omega) (by omega)) ⟨j9, hj9, z.symm⟩)
    clear er
    subst er0
    refine lv_aload_n S.1 S.2.1 d_Law_law_587 rfl (lv_at hl 1 rfl) ?_
    refine lv_aload_n S.1 S.2.1 d_Law_law_588 rfl (lv_at hl 3 rfl) ?_
    refine lv_iload_n S.1 S.2.1 d_Law_law_589 rfl (lv_at hl 0 rfl) ?_
    refine lv_iconst (v := 1) S.1 S.2.1 d_Law_law_590 (by decide) ?_
    refine lv_iadd S.1 S.2.1 d_Law_law_591 ?_
    refine tpi (y := nI (i + 1)) (nI_add i 1) ?_
    refine s_ld (j := i + 1) S hX hbl hbA hS (by omega) hL d_Law_law_592 ?_
    refine tpi (y := nI r9) ex1 ?_
    refine lv_aload_n S.1 S.2.1 d_Law_law_593 rfl (lv_at hl 3 rfl) ?_
    refine lv_iload_n S.1 S.2.1 d_Law_law_594 rfl (lv_at hl 0 rfl) ?_
    refine lv_iconst (v := 2) S.1 S.2.1 d_Law_law_595 (by decide) ?_
    refine lv_iadd S.1 S.2.1 d_Law_law_596 ?_
    refine tpi (y := nI (i + 2)) (nI_add i 2) ?_
    refine s_ld (j := i + 2) S hX hbl hbA hS (by omega) hL d_Law_law_597 ?_
    refine tpi (y := nI a) ex2 ?_
    refine lv_aload_n S.1 S.2.1 d_Law_law_598 rfl (lv_at hl 3 rfl) ?_
    refine lv_iload_n S.1 S.2.1 d_Law_law_599 rfl (lv_at hl 0 rfl) ?_
    refine lv_iconst (v := 3) S.1 S.2.1 d_Law_law_600 (by decide) ?_
    refine lv_iadd S.1 S.2.1 d_Law_law_601 ?_
    refine tpi (y := nI (i + 3)) (nI_add i 3) ?_
    refine s_ld (j := i + 3) S hX hbl hbA hS (by omega) hL d_Law_law_602 ?_
    refine tpi (y := nI b2) ex3 ?_
    refine kw_i (A := (fun q : Nat => kz K ≤ q)) (k_V (rest := [.int (if lg_cmp (G &&& f_M_pairBit (nI r9) (nI a) (nI b2)) 0 = 0 then 1 else 0)]) S (c_R_gather_y l hDm hwn hr3 ha4 hb4) kc_R_gather ⟨q_832, q_833, q_834⟩ rfl rfl ⟨Nat.le_of_ble_eq_true rfl, Nat.le_of_ble_eq_true rfl⟩ hC hS hA hw ⟨11, _, _, _, rfl, hw.1⟩ rfl hl.1 rfl (Nat.le_of_ble_eq_true rfl) ⟨(by omega), (by omega)⟩ d_Law_law_603) hS (fun q h => by obtain ⟨j9, hj9, rfl⟩ := h; exact hDm.2 j9 hj9) (fun r H locs er hz hkp hS => ?_)
    obtain ⟨er0, J1, oJ, e9, hw⟩ := er
    have hcw := hcw.cl hD hkp hsep
    subst er0
    refine lv_icmp_eq (tgt := 761) S.1 S.2.1 d_Law_law_606 (by decide) (fun _ => ?_) (fun hx9 => absurd (by rw [pairBit_eq]; exact gat_eq (by omega) (hGJ r9 a b2 hr3 ha4 hb4)) hx9)
    exact W.widen (k := cells + 3) (n := slots + 48) (by omega) (by omega) (kk _ _ ⟨els, wat, md, n, cap, fE, kd, wh, fi, se, lo, hi, fr, rg, xr, dc, ad, sa, stt, (G ||| f_M_pairBit (nI r9) (nI a) (nI b2)), N, T, Qp, J1, X, t, eb, hcw, hD, hcap, hw, hDm, hsep, htie0.ga hr3 ha4 hb4 hwn oJ e9⟩ hS)
  · have hno1 : ¬ (¬ wat = 0 ∧ ¬ f_M_isRelation (xs (i + 1)) = 0 ∧ ¬ f_M_isValue (xs (i + 2)) = 0 ∧ ¬ f_M_isValue (xs (i + 3)) = 0) := by
      rintro ⟨z0, z1, z2, z3⟩
      obtain ⟨r9, hr3, ex1⟩ := rel_of z1
      obtain ⟨a, ha4, ex2⟩ := val_of z2
      obtain ⟨b2, hb4, ex3⟩ := val_of z3
      exact hc ⟨z0, r9, a, b2, hr3, ha4, hb4, ex1, ex2, ex3⟩
    have hno2 : ¬ (¬ wat = 0 ∧ ¬ xs (i + 1) < 0 ∧ ¬ 2 < xs (i + 1) ∧ ¬ xs (i + 2) < 0 ∧ ¬ 3 < xs (i + 2) ∧ ¬ xs (i + 3) < 0 ∧ xs (i + 3) ≤ 3) := by
      rintro ⟨z0, z1, z2, z3, z4, z5, z6⟩
      obtain ⟨r9, hr3, ex1⟩ := r2_of z1 z2
      obtain ⟨a, ha4, ex2⟩ := r3_of z3 (Int32.not_lt.mp z4)
      obtain ⟨b2, hb4, ex3⟩ := r3_of z5 z6
      exact hc ⟨z0, r9, a, b2, hr3, ha4, hb4, ex1, ex2, ex3⟩
    refine lv_aload_n S.1 S.2.1 d_Law_law_568 rfl (lv_at hl 2 rfl) ?_
    refine lv_aload_n S.1 S.2.1 d_Law_law_569 rfl (lv_at hl 3 rfl) ?_
    refine lv_iload_n S.1 S.2.1 d_Law_law_570 rfl (lv_at hl 0 rfl) ?_
    refine lv_iconst (v := 1) S.1 S.2.1 d_Law_law_571 (by decide) ?_
    refine lv_iadd S.1 S.2.1 d_Law_law_572 ?_
    refine tpi (y := nI (i + 1)) (nI_add i 1) ?_
    refine s_ld (j := i + 1) S hX hbl hbA hS (by omega) hL d_Law_law_573 ?_
    refine lv_aload_n S.1 S.2.1 d_Law_law_574 rfl (lv_at hl 3 rfl) ?_
    refine lv_iload_n S.1 S.2.1 d_Law_law_575 rfl (lv_at hl 0 rfl) ?_
    refine lv_iconst (v := 2) S.1 S.2.1 d_Law_law_576 (by decide) ?_
    refine lv_iadd S.1 S.2.1 d_Law_law_577 ?_
    refine tpi (y := nI (i + 2)) (nI_add i 2) ?_
    refine s_ld (j := i + 2) S hX hbl hbA hS (by omega) hL d_Law_law_578 ?_
    refine lv_aload_n S.1 S.2.1 d_Law_law_579 rfl (lv_at hl 3 rfl) ?_
    refine lv_iload_n S.1 S.2.1 d_Law_law_580 rfl (lv_at hl 0 rfl) ?_
    refine lv_iconst (v := 3) S.1 S.2.1 d_Law_law_581 (by decide) ?_
    refine lv_iadd S.1 S.2.1 d_Law_law_582 ?_
    refine tpi (y := nI (i + 3)) (nI_add i 3) ?_
    refine s_ld (j := i + 3) S hX hbl hbA hS (by omega) hL d_Law_law_583 ?_
    refine kw_i (A := (fun q : Nat => kz K ≤ q)) (k_V (rest := []) S (c_M_gather l (xs (i + 1)) (xs (i + 2)) (xs (i + 3)) (hD.2.1 3 (by omega) (by omega))) kc_M_gather ⟨q_489, q_490, q_491⟩ rfl rfl ⟨Nat.le_of_ble_eq_true rfl, Nat.le_of_ble_eq_true rfl⟩ hC hS hA ⟨hcw.1, hcw.2.2.1⟩ ⟨8, _, _, _, rfl, hcw.1⟩ rfl hl.1 rfl (Nat.le_of_ble_eq_true rfl) ⟨(by omega), (by omega)⟩ d_Law_law_584) hS (fun q h => by rw [h]; exact hD.2.1 3 (by omega) (by omega)) (fun r H locs er hz hkp hS => ?_)
    obtain ⟨er0, hg9⟩ := er.2 hno1
    have hcw := cw_log hcw hD hg9 (hcw.2.2.2.1.cl hkp (fun z => hD.fix (i := 4) (j := 3) (by omega) (by omega) (by omega) z)) (hcw.2.2.2.2.1.cl hkp (fun z => hD.fix (i := 5) (j := 3) (by omega) (by omega) (by omega) z)) (fun q h1 h2 => hkp q h1 (fun z => h2 (Or.inl z)))
    have hw := hw.cl hkp (fun j9 hj9 z => hsep _ (ac_fix hD (i := 3) (by omega) (by omega)) ⟨j9, hj9, z.symm⟩)
    clear er
    subst er0
    refine lv_aload_n S.1 S.2.1 d_Law_law_587 rfl (lv_at hl 1 rfl) ?_
    refine lv_aload_n S.1 S.2.1 d_Law_law_588 rfl (lv_at hl 3 rfl) ?_
    refine lv_iload_n S.1 S.2.1 d_Law_law_589 rfl (lv_at hl 0 rfl) ?_
    refine lv_iconst (v := 1) S.1 S.2.1 d_Law_law_590 (by decide) ?_
    refine lv_iadd S.1 S.2.1 d_Law_law_591 ?_
    refine tpi (y := nI (i + 1)) (nI_add i 1) ?_
    refine s_ld (j := i + 1) S hX hbl hbA hS (by omega) hL d_Law_law_592 ?_
    refine lv_aload_n S.1 S.2.1 d_Law_law_593 rfl (lv_at hl 3 rfl) ?_
    refine lv_iload_n S.1 S.2.1 d_Law_law_594 rfl (lv_at hl 0 rfl) ?_
    refine lv_iconst (v := 2) S.1 S.2.1 d_Law_law_595 (by decide) ?_
    refine lv_iadd S.1 S.2.1 d_Law_law_596 ?_
    refine tpi (y := nI (i + 2)) (nI_add i 2) ?_
    refine s_ld (j := i + 2) S hX hbl hbA hS (by omega) hL d_Law_law_597 ?_
    refine lv_aload_n S.1 S.2.1 d_Law_law_598 rfl (lv_at hl 3 rfl) ?_
    refine lv_iload_n S.1 S.2.1 d_Law_law_599 rfl (lv_at hl 0 rfl) ?_
    refine lv_iconst (v := 3) S.1 S.2.1 d_Law_law_600 (by decide) ?_
    refine lv_iadd S.1 S.2.1 d_Law_law_601 ?_
    refine tpi (y := nI (i + 3)) (nI_add i 3) ?_
    refine s_ld (j := i + 3) S hX hbl hbA hS (by omega) hL d_Law_law_602 ?_
    refine kw_i (A := (fun q : Nat => kz K ≤ q)) (k_V (rest := [.int 0]) S (c_R_gather_n l hDm (xs (i + 1)) (xs (i + 2)) (xs (i + 3)) hno2) kc_R_gather ⟨q_832, q_833, q_834⟩ rfl rfl ⟨Nat.le_of_ble_eq_true rfl, Nat.le_of_ble_eq_true rfl⟩ hC hS hA hw ⟨11, _, _, _, rfl, hw.1⟩ rfl hl.1 rfl (Nat.le_of_ble_eq_true rfl) ⟨(by omega), (by omega)⟩ d_Law_law_603) hS (fun q h => by obtain ⟨j9, hj9, rfl⟩ := h; exact hDm.2 j9 hj9) (fun r H locs er hz hkp hS => ?_)
    obtain ⟨er0, hw⟩ := er
    have hcw := hcw.cl hD hkp hsep
    subst er0
    refine lv_icmp_eq (tgt := 761) S.1 S.2.1 d_Law_law_606 (by decide) (fun _ => ?_) (fun hx9 => absurd rfl hx9)
    exact W.widen (k := cells + 3) (n := slots + 48) (by omega) (by omega) (kk _ _ ⟨els, wat, md, n, cap, fE, kd, wh, fi, se, lo, hi, fr, rg, xr, dc, ad, sa, stt, G, N, T, Qp, J, X, t, eb, hcw, hD, hcap, hw, hDm, hsep, htie0⟩ hS)
set_option maxHeartbeats 4000000 in
set_option maxRecDepth 100000 in
theorem law_13 (l : Launch) (S : CallFix p m c code 4 s #[Value.ref b] WALL "MetricLogMonitorLaw") (hC : CX K s) (hkz : kz K = s.heap.size) (hX : va_X b L xs s s.heap) (hbl : b < s.heap.size) (hL : L ≤ 2560) (hiL : i + 5 ≤ L) (hcc : cells + 3 ≤ room_1.cells) (hss : slots + 48 ≤ room_1.slots) (hv : inv K mon lst lg tm pr ma H) (hS : va_S (fun q : Nat => kz K ≤ q) s.heap H locs) (hl : lv_has ls 4 [(3, .int (nI i)), (2, .ref (ma 0)), (1, .ref mon), (0, .ref b)])
    (kk : ∀ (H' : Heap) (locs' : List Loc), inv K mon lst lg tm pr ma H' → va_S (fun q : Nat => kz K ≤ q) s.heap H' locs' → W p l e room_1 s m #[Value.ref b] below meth c H' locs' (cells + 3) (slots + 48) Q (F0 m 761 ls [])) : W p l e room_1 s m #[Value.ref b] below meth c H locs cells slots Q (F0 m 611 ls []) := by
  have hbA : ¬ (fun q : Nat => kz K ≤ q) b := fun z => absurd (show kz K ≤ b from z) (by omega)
  have hA : ∀ q, (fun q : Nat => kz K ≤ q) q → kz K ≤ q := fun _ h => h
  have hzH : kz K ≤ H.size := by have := hS.1; omega
  obtain ⟨els, wat, md, n, cap, fE, kd, wh, fi, se, lo, hi, fr, rg, xr, dc, ad, sa, stt, G, N, T, Qp, J, X, t, eb, hcw, hD, hcap, hw, hDm, hsep, htie⟩ := hv
  have htie0 := htie
  obtain ⟨hrcJ, hdcN⟩ := htie.rcJ
  obtain ⟨h12, h24, hwt, hw0, hV, hT, hfr, hrg, hxr, her, hrc, htm, hJ7, hQP, hGJ, hst, hXs⟩ := htie
  have hdc24 : ∀ j, j < n → dc j ≤ 24 := fun j hj => Nat.le_trans (hdcN j hj) h24
  by_cases hc : (¬ wat = 0 ∧ ¬ xs (i + 1) < 0 ∧ ¬ 1000000 < xs (i + 1) ∧ ¬ 24 ≤ nI N ∧ (nI N ≤ 0 ∨ J 7 (N - 1) ≤ xs (i + 1)))
  · obtain ⟨tt, htt, ext⟩ := nI_of2 (n := 1000000) (M := 1000000) (by decide) hc.2.1 (Int32.not_lt.mp hc.2.2.1)
    have hN24 : N < 24 := by
      have := (not_congr (nI_leI (a := 24) (b := N) (by decide) (by omega))).mp hc.2.2.2.1
      omega
    have hyes : ¬ wat = 0 ∧ ¬ f_Log_accepts T N (xs (i + 1)) = 0 := ⟨hc.1, (acc_iff h24).mpr ⟨hc.2.1, hc.2.2.1, hc.2.2.2.1, by rw [← hJ7]; exact hc.2.2.2.2⟩⟩
    have htm2 : tmOk (upd T N (xs (i + 1))) (va_up t N tt) (N + 1) := by
      have hz := hc.2.2.2.2
      rw [hJ7] at hz
      rw [ext] at hz ⊢
      exact tm_new htm htt hz h24
    refine lv_aload_n S.1 S.2.1 d_Law_law_611 rfl (lv_at hl 2 rfl) ?_
    refine lv_aload_n S.1 S.2.1 d_Law_law_612 rfl (lv_at hl 3 rfl) ?_
    refine lv_iload_n S.1 S.2.1 d_Law_law_613 rfl (lv_at hl 0 rfl) ?_
    refine lv_iconst (v := 1) S.1 S.2.1 d_Law_law_614 (by decide) ?_
    refine lv_iadd S.1 S.2.1 d_Law_law_615 ?_
    refine tpi (y := nI (i + 1)) (nI_add i 1) ?_
    refine s_ld (j := i + 1) S hX hbl hbA hS (by omega) hL d_Law_law_616 ?_
    refine kw_i (A := (fun q : Nat => kz K ≤ q)) (k_V (rest := []) S (c_M_place_y l (t := va_up t N tt) (P := pN J N) hD hV (by omega) (xs (i + 1)) hN24 hdc24 hyes htm2 (pN_Q hN24 hQP hGJ)) kc_M_place ⟨q_503, q_504, q_505⟩ rfl rfl ⟨Nat.le_of_ble_eq_true rfl, Nat.le_of_ble_eq_true rfl⟩ hC hS hA hcw ⟨8, _, _, _, rfl, hcw.1⟩ rfl hl.1 rfl (Nat.le_of_ble_eq_true rfl) ⟨(by omega), (by omega)⟩ d_Law_law_617) hS (fun q h => h.1) (fun r H locs er hz hkp hS => ?_)
    obtain ⟨er0, dc', stt', hpl, hcw⟩ := er
    have hw := hw.cl hkp (fun j9 hj9 z => hsep _ z ⟨j9, hj9, rfl⟩)
    subst er0
    refine lv_aload_n S.1 S.2.1 d_Law_law_620 rfl (lv_at hl 1 rfl) ?_
    refine lv_aload_n S.1 S.2.1 d_Law_law_621 rfl (lv_at hl 3 rfl) ?_
    refine lv_iload_n S.1 S.2.1 d_Law_law_622 rfl (lv_at hl 0 rfl) ?_
    refine lv_iconst (v := 1) S.1 S.2.1 d_Law_law_623 (by decide) ?_
    refine lv_iadd S.1 S.2.1 d_Law_law_624 ?_
    refine tpi (y := nI (i + 1)) (nI_add i 1) ?_
    refine s_ld (j := i + 1) S hX hbl hbA hS (by omega) hL d_Law_law_625 ?_
    refine kw_i (A := (fun q : Nat => kz K ≤ q)) (k_V (rest := [.int (nI N)]) S (c_R_place_y l hDm hT hV h12 (xs (i + 1)) hN24 hc) kc_R_place ⟨q_836, q_837, q_838⟩ rfl rfl ⟨Nat.le_of_ble_eq_true rfl, Nat.le_of_ble_eq_true rfl⟩ hC hS hA hw ⟨11, _, _, _, rfl, hw.1⟩ rfl hl.1 rfl (Nat.le_of_ble_eq_true rfl) ⟨(by omega), (by omega)⟩ d_Law_law_626) hS (fun q h => by obtain ⟨j9, hj9, rfl⟩ := h; exact hDm.2 j9 hj9) (fun r H locs er hz hkp hS => ?_)
    obtain ⟨er0, J1, X1, oJ, e7, e8, e8b, e9, hX2, hw⟩ := er
    have hcw := hcw.cl hD hkp hsep
    subst er0
    refine lv_icmp_eq (tgt := 761) S.1 S.2.1 d_Law_law_629 (by decide) (fun _ => ?_) (fun hx9 => absurd rfl hx9)
    exact W.widen (k := cells + 3) (n := slots + 48) (by omega) (by omega) (kk _ _ ⟨els, wat, md, n, cap, fE, kd, wh, fi, se, lo, hi, fr, rg, xr, dc', ad, sa, stt', 0, N + 1, (upd T N (xs (i + 1))), (vp_updL Qp N G), J1, X1, (va_up t N tt), eb, hcw, hD, hcap, hw, hDm, hsep, htie0.pl (tt := tt) hc.1 hN24 htm2 hpl oJ e7 e8 e8b e9 hX2⟩ hS)
  · have hno : ¬ (¬ wat = 0 ∧ ¬ f_Log_accepts T N (xs (i + 1)) = 0) := by
      rintro ⟨z0, z1⟩
      have z2 := (acc_iff h24).mp z1
      rw [← hJ7] at z2
      exact hc ⟨z0, z2⟩
    refine lv_aload_n S.1 S.2.1 d_Law_law_611 rfl (lv_at hl 2 rfl) ?_
    refine lv_aload_n S.1 S.2.1 d_Law_law_612 rfl (lv_at hl 3 rfl) ?_
    refine lv_iload_n S.1 S.2.1 d_Law_law_613 rfl (lv_at hl 0 rfl) ?_
    refine lv_iconst (v := 1) S.1 S.2.1 d_Law_law_614 (by decide) ?_
    refine lv_iadd S.1 S.2.1 d_Law_law_615 ?_
    refine tpi (y := nI (i + 1)) (nI_add i 1) ?_
    refine s_ld (j := i + 1) S hX hbl hbA hS (by omega) hL d_Law_law_616 ?_
    refine kw_i (A := (fun q : Nat => kz K ≤ q)) (k_V (rest := []) S (c_M_place_n l (xs (i + 1)) h24 hno) kc_M_place ⟨q_503, q_504, q_505⟩ rfl rfl ⟨Nat.le_of_ble_eq_true rfl, Nat.le_of_ble_eq_true rfl⟩ hC hS hA hcw ⟨8, _, _, _, rfl, hcw.1⟩ rfl hl.1 rfl (Nat.le_of_ble_eq_true rfl) ⟨(by omega), (by omega)⟩ d_Law_law_617) hS (fun q h => h.elim) (fun r H locs er hz hkp hS => ?_)
    obtain ⟨er0, hcw⟩ := er
    have hw := hw.cl hkp (fun _ _ z => z)
    subst er0
    refine lv_aload_n S.1 S.2.1 d_Law_law_620 rfl (lv_at hl 1 rfl) ?_
    refine lv_aload_n S.1 S.2.1 d_Law_law_621 rfl (lv_at hl 3 rfl) ?_
    refine lv_iload_n S.1 S.2.1 d_Law_law_622 rfl (lv_at hl 0 rfl) ?_
    refine lv_iconst (v := 1) S.1 S.2.1 d_Law_law_623 (by decide) ?_
    refine lv_iadd S.1 S.2.1 d_Law_law_624 ?_
    refine tpi (y := nI (i + 1)) (nI_add i 1) ?_
    refine s_ld (j := i + 1) S hX hbl hbA hS (by omega) hL d_Law_law_625 ?_
    refine kw_i (A := (fun q : Nat => kz K ≤ q)) (k_V (rest := [.int (-1)]) S (c_R_place_n l hDm (xs (i + 1)) h24 hc) kc_R_place ⟨q_836, q_837, q_838⟩ rfl rfl ⟨Nat.le_of_ble_eq_true rfl, Nat.le_of_ble_eq_true rfl⟩ hC hS hA hw ⟨11, _, _, _, rfl, hw.1⟩ rfl hl.1 rfl (Nat.le_of_ble_eq_true rfl) ⟨(by omega), (by omega)⟩ d_Law_law_626) hS (fun q h => by obtain ⟨j9, hj9, rfl⟩ := h; exact hDm.2 j9 hj9) (fun r H locs er hz hkp hS => ?_)
    obtain ⟨er0, hw⟩ := er
    have hcw := hcw.cl hD hkp hsep
    subst er0
    refine lv_icmp_eq (tgt := 761) S.1 S.2.1 d_Law_law_629 (by decide) (fun _ => ?_) (fun hx9 => absurd rfl hx9)
    exact W.widen (k := cells + 3) (n := slots + 48) (by omega) (by omega) (kk _ _ ⟨els, wat, md, n, cap, fE, kd, wh, fi, se, lo, hi, fr, rg, xr, dc, ad, sa, stt, G, N, T, Qp, J, X, t, eb, hcw, hD, hcap, hw, hDm, hsep, htie0⟩ hS)
set_option maxHeartbeats 4000000 in
set_option maxRecDepth 100000 in
theorem law_14 (l : Launch) (S : CallFix p m c code 4 s #[Value.ref b] WALL "MetricLogMonitorLaw") (hC : CX K s) (hkz : kz K = s.heap.size) (hX : va_X b L xs s s.heap) (hbl : b < s.heap.size) (hL : L ≤ 2560) (hiL : i + 5 ≤ L) (hcc : cells + 3 ≤ room_1.cells) (hss : slots + 48 ≤ room_1.slots) (hv : inv K mon lst lg tm pr ma H) (hS : va_S (fun q : Nat => kz K ≤ q) s.heap H locs) (hl : lv_has ls 4 [(3, .int (nI i)), (2, .ref (ma 0)), (1, .ref mon), (0, .ref b)])
    (kk : ∀ (H' : Heap) (locs' : List Loc), inv K mon lst lg tm pr ma H' → va_S (fun q : Nat => kz K ≤ q) s.heap H' locs' → W p l e room_1 s m #[Value.ref b] below meth c H' locs' (cells + 3) (slots + 48) Q (F0 m 761 ls [])) : W p l e room_1 s m #[Value.ref b] below meth c H locs cells slots Q (F0 m 634 ls []) := by
  have hbA : ¬ (fun q : Nat => kz K ≤ q) b := fun z => absurd (show kz K ≤ b from z) (by omega)
  have hA : ∀ q, (fun q : Nat => kz K ≤ q) q → kz K ≤ q := fun _ h => h
  have hzH : kz K ≤ H.size := by have := hS.1; omega
  obtain ⟨els, wat, md, n, cap, fE, kd, wh, fi, se, lo, hi, fr, rg, xr, dc, ad, sa, stt, G, N, T, Qp, J, X, t, eb, hcw, hD, hcap, hw, hDm, hsep, htie⟩ := hv
  have htie0 := htie
  obtain ⟨hrcJ, hdcN⟩ := htie.rcJ
  obtain ⟨h12, h24, hwt, hw0, hV, hT, hfr, hrg, hxr, her, hrc, htm, hJ7, hQP, hGJ, hst, hXs⟩ := htie
  have hdc24 : ∀ j, j < n → dc j ≤ 24 := fun j hj => Nat.le_trans (hdcN j hj) h24
  by_cases hx : xs (i + 1) = 0
  · have hx9 := hx
    refine lv_aload_n S.1 S.2.1 d_Law_law_634 rfl (lv_at hl 2 rfl) ?_
    refine lv_aload_n S.1 S.2.1 d_Law_law_635 rfl (lv_at hl 3 rfl) ?_
    refine lv_iload_n S.1 S.2.1 d_Law_law_636 rfl (lv_at hl 0 rfl) ?_
    refine lv_iconst (v := 1) S.1 S.2.1 d_Law_law_637 (by decide) ?_
    refine lv_iadd S.1 S.2.1 d_Law_law_638 ?_
    refine tpi (y := nI (i + 1)) (nI_add i 1) ?_
    refine s_ld (j := i + 1) S hX hbl hbA hS (by omega) hL d_Law_law_639 ?_
    refine lv_if_eq (tgt := 647) S.1 S.2.1 d_Law_law_640 (by decide) (fun _ => ?_) (fun hx9 => absurd hx hx9)
    refine lv_iconst (v := 0) S.1 S.2.1 d_Law_law_647 (by decide) ?_
    refine kw_v (A := (fun q : Nat => kz K ≤ q)) (k_V (rest := []) S (c_M_stop l hD (by omega) 0) kc_M_stop ⟨q_642, q_643, q_644⟩ rfl rfl ⟨Nat.le_of_ble_eq_true rfl, Nat.le_of_ble_eq_true rfl⟩ hC hS hA hcw ⟨8, _, _, _, rfl, hcw.1⟩ rfl hl.1 rfl (Nat.le_of_ble_eq_true rfl) ⟨(by omega), (by omega)⟩ d_Law_law_648) hS (fun q h => h.1) (fun H locs er hz hkp hS => ?_)
    obtain ⟨dc', hdc0, hcw⟩ := er.1 rfl
    have hw := hw.cl hkp (fun j9 hj9 z => hsep _ z ⟨j9, hj9, rfl⟩)
    refine lv_aload_n S.1 S.2.1 d_Law_law_651 rfl (lv_at hl 1 rfl) ?_
    refine lv_aload_n S.1 S.2.1 d_Law_law_652 rfl (lv_at hl 3 rfl) ?_
    refine lv_iload_n S.1 S.2.1 d_Law_law_653 rfl (lv_at hl 0 rfl) ?_
    refine lv_iconst (v := 1) S.1 S.2.1 d_Law_law_654 (by decide) ?_
    refine lv_iadd S.1 S.2.1 d_Law_law_655 ?_
    refine tpi (y := nI (i + 1)) (nI_add i 1) ?_
    refine s_ld (j := i + 1) S hX hbl hbA hS (by omega) hL d_Law_law_656 ?_
    refine lv_if_eq (tgt := 664) S.1 S.2.1 d_Law_law_657 (by decide) (fun _ => ?_) (fun hx9 => absurd hx hx9)
    refine lv_iconst (v := 0) S.1 S.2.1 d_Law_law_664 (by decide) ?_
    refine kw_v (A := (fun q : Nat => kz K ≤ q)) (k_V (rest := []) S (c_R_stop l hDm 0) kc_R_stop ⟨q_871, q_872, q_873⟩ rfl rfl ⟨Nat.le_of_ble_eq_true rfl, Nat.le_of_ble_eq_true rfl⟩ hC hS hA hw ⟨11, _, _, _, rfl, hw.1⟩ rfl hl.1 rfl (Nat.le_of_ble_eq_true rfl) ⟨(by omega), (by omega)⟩ d_Law_law_665) hS (fun q h => by obtain ⟨j9, hj9, rfl⟩ := h; exact hDm.2 j9 hj9) (fun H locs er hz hkp hS => ?_)
    have er1 := er
    obtain ⟨J1, oJ, e9, hw⟩ := er1.1 rfl
    have hcw := hcw.cl hD hkp hsep
    refine lv_goto (tgt := 761) S.1 S.2.1 d_Law_law_668 (by decide) ?_
    exact W.widen (k := cells + 3) (n := slots + 48) (by omega) (by omega) (kk _ _ ⟨els, 0, md, n, cap, fE, kd, wh, fi, se, lo, hi, fr, rg, xr, dc', ad, sa, stt, 0, 0, T, Qp, J1, X, t, eb, hcw, hD, hcap, hw, hDm, hsep, htie0.st oJ e9 hdc0 (Or.inl rfl)⟩ hS)
  · have hx9 := hx
    refine lv_aload_n S.1 S.2.1 d_Law_law_634 rfl (lv_at hl 2 rfl) ?_
    refine lv_aload_n S.1 S.2.1 d_Law_law_635 rfl (lv_at hl 3 rfl) ?_
    refine lv_iload_n S.1 S.2.1 d_Law_law_636 rfl (lv_at hl 0 rfl) ?_
    refine lv_iconst (v := 1) S.1 S.2.1 d_Law_law_637 (by decide) ?_
    refine lv_iadd S.1 S.2.1 d_Law_law_638 ?_
    refine tpi (y := nI (i + 1)) (nI_add i 1) ?_
    refine s_ld (j := i + 1) S hX hbl hbA hS (by omega) hL d_Law_law_639 ?_
    refine lv_if_eq (tgt := 647) S.1 S.2.1 d_Law_law_640 (by decide) (fun hx9 => absurd hx9 hx) (fun _ => ?_)
    refine lv_iconst (v := 1) S.1 S.2.1 d_Law_law_643 (by decide) ?_
    refine lv_goto (tgt := 648) S.1 S.2.1 d_Law_law_644 (by decide) ?_
    refine kw_v (A := (fun q : Nat => kz K ≤ q)) (k_V (rest := []) S (c_M_stop l hD (by omega) 1) kc_M_stop ⟨q_642, q_643, q_644⟩ rfl rfl ⟨Nat.le_of_ble_eq_true rfl, Nat.le_of_ble_eq_true rfl⟩ hC hS hA hcw ⟨8, _, _, _, rfl, hcw.1⟩ rfl hl.1 rfl (Nat.le_of_ble_eq_true rfl) ⟨(by omega), (by omega)⟩ d_Law_law_648) hS (fun q h => h.1) (fun H locs er hz hkp hS => ?_)
    obtain ⟨dc', g9, hcw⟩ := er.2 (by decide)
    have hw := hw.cl hkp (fun j9 hj9 z => hsep _ z ⟨j9, hj9, rfl⟩)
    have hD0 := hD
    have hsep0 := hsep
    have hD := hD.n0
    have hsep : ∀ q, ac K mon lst els lg tm pr ad sa 0 q → ¬ mA ma q := fun q h => hsep q (ac.n0 h)
    refine lv_aload_n S.1 S.2.1 d_Law_law_651 rfl (lv_at hl 1 rfl) ?_
    refine lv_aload_n S.1 S.2.1 d_Law_law_652 rfl (lv_at hl 3 rfl) ?_
    refine lv_iload_n S.1 S.2.1 d_Law_law_653 rfl (lv_at hl 0 rfl) ?_
    refine lv_iconst (v := 1) S.1 S.2.1 d_Law_law_654 (by decide) ?_
    refine lv_iadd S.1 S.2.1 d_Law_law_655 ?_
    refine tpi (y := nI (i + 1)) (nI_add i 1) ?_
    refine s_ld (j := i + 1) S hX hbl hbA hS (by omega) hL d_Law_law_656 ?_
    refine lv_if_eq (tgt := 664) S.1 S.2.1 d_Law_law_657 (by decide) (fun hx9 => absurd hx9 hx) (fun _ => ?_)
    refine lv_iconst (v := 1) S.1 S.2.1 d_Law_law_660 (by decide) ?_
    refine lv_goto (tgt := 665) S.1 S.2.1 d_Law_law_661 (by decide) ?_
    refine kw_v (A := (fun q : Nat => kz K ≤ q)) (k_V (rest := []) S (c_R_stop l hDm 1) kc_R_stop ⟨q_871, q_872, q_873⟩ rfl rfl ⟨Nat.le_of_ble_eq_true rfl, Nat.le_of_ble_eq_true rfl⟩ hC hS hA hw ⟨11, _, _, _, rfl, hw.1⟩ rfl hl.1 rfl (Nat.le_of_ble_eq_true rfl) ⟨(by omega), (by omega)⟩ d_Law_law_665) hS (fun q h => by obtain ⟨j9, hj9, rfl⟩ := h; exact hDm.2 j9 hj9) (fun H locs er hz hkp hS => ?_)
    have er1 := er
    obtain ⟨J1, oJ, e9, hw⟩ := er1.2 (by decide)
    have hcw := hcw.cl hD hkp hsep
    refine lv_goto (tgt := 761) S.1 S.2.1 d_Law_law_668 (by decide) ?_
    exact W.widen (k := cells + 3) (n := slots + 48) (by omega) (by omega) (kk _ _ ⟨els, 0, md + 1, 0, cap, g9, kd, wh, fi, se, lo, hi, fr, rg, xr, dc', ad, sa, stt, 0, 0, T, Qp, J1, X, t, eb, hcw, hD, (by unfold capOk at hcap ⊢; omega), hw, hDm, hsep, htie0.n0.st oJ e9 (fun k9 hk9 => absurd hk9 (by omega)) (Or.inl rfl)⟩ hS)
end
