/-! refused making calls of the class: nothing changes -/
set_option maxHeartbeats 4000000 in
set_option maxRecDepth 100000 in
theorem c_M_atom_n (l : Launch) {K : KT} {mon lst els lg tm pr : Nat} {wat md : Int32} {n cap : Nat} {fE : Nat → Option Nat} {kd wh fi se : Nat → Nat} {lo hi fr rg xr : Nat → Int32} {dc ad sa : Nat → Nat} {stt : Nat → Nat → Int64} {G : Int64} {N : Nat} {T : Nat → Int32} {Qp : Nat → Int64} (x y z : Int32) (hno : ¬ (¬ f_M_mayMake wat n = 0 ∧ ¬ f_M_isRelation x = 0 ∧ ¬ f_M_isTerm y = 0 ∧ ¬ f_M_isTerm z = 0)) : Met l y_M_atom (Cond.code y_M_atom b_M_atom 4 (some Jvm.ClassFile.FieldType.int) :: WALL) { frames := 2, cells := 0, slots := 0, locals := 40 } (pc0 K [.ref mon, .int x, .int y, .int z] (fun H => cw K mon lst els lg tm pr wat md n cap fE kd wh fi se lo hi fr rg xr dc ad sa stt G N T Qp H)) (vp_Si (fun r => r = -1)) 0 0 (fun _ => False) := by
  refine met0 (own := "MetricLogMonitor") (by decide) rfl (Nat.le_of_ble_eq_true rfl) (fun p e s m below meth c ls S hr hk hnm hC hH hl => ?_)
  obtain ⟨hm, hls, hg, ht, hq, hfm⟩ := hH
  have hl : lv_has ls 4 [(0, .ref mon), (1, .int x), (2, .int y), (3, .int z)] := hl
  refine lv_aload_n S.1 S.2.1 d_M_atom_0 rfl (lv_at hl 0 rfl) ?_
  refine kVi (rest := []) S (c_M_mayMake l) kc_M_mayMake ⟨q_98, q_100, qp_0⟩ rfl rfl ⟨Nat.le_of_ble_eq_true rfl, Nat.le_of_ble_eq_true rfl⟩ hC (hSF s) (hAF K) ⟨hm, hls.1⟩ ⟨8, _, _, _, rfl, hm⟩ ⟨Nat.zero_le _, Nat.zero_le _⟩ hl.1 rfl rfl (Nat.le_of_ble_eq_true rfl) d_M_atom_1 (fun r er => ?_)
  subst er
  refine lv_if_eq (tgt := 28) S.1 S.2.1 d_M_atom_4 (by decide) (fun hbr1 => ?_) (fun hbr1 => ?_)
  · refine lv_iconst (v := (-1)) S.1 S.2.1 d_M_atom_28 (by decide) ?_
    exact r_i S hr hk d_M_atom_29 rfl
  · refine lv_iload_n S.1 S.2.1 d_M_atom_7 rfl (lv_at hl 1 rfl) ?_
    refine kSi (rest := []) S (c_M_isRelation l x) kc_M_isRelation ⟨q_106, q_107⟩ rfl rfl ⟨Nat.le_of_ble_eq_true rfl, Nat.le_of_ble_eq_true rfl⟩ hC (hSF s) (hAF K) trivial ⟨Nat.zero_le _, Nat.zero_le _⟩ hl.1 rfl rfl (Nat.le_of_ble_eq_true rfl) d_M_atom_8 (fun r er => ?_)
    subst er
    refine lv_if_eq (tgt := 28) S.1 S.2.1 d_M_atom_11 (by decide) (fun hbr2 => ?_) (fun hbr2 => ?_)
    · refine lv_iconst (v := (-1)) S.1 S.2.1 d_M_atom_28 (by decide) ?_
      exact r_i S hr hk d_M_atom_29 rfl
    · refine lv_iload_n S.1 S.2.1 d_M_atom_14 rfl (lv_at hl 2 rfl) ?_
      refine kSi (rest := []) S (c_M_isTerm l y) kc_M_isTerm ⟨q_109, q_110⟩ rfl rfl ⟨Nat.le_of_ble_eq_true rfl, Nat.le_of_ble_eq_true rfl⟩ hC (hSF s) (hAF K) trivial ⟨Nat.zero_le _, Nat.zero_le _⟩ hl.1 rfl rfl (Nat.le_of_ble_eq_true rfl) d_M_atom_15 (fun r er => ?_)
      subst er
      refine lv_if_eq (tgt := 28) S.1 S.2.1 d_M_atom_18 (by decide) (fun hbr3 => ?_) (fun hbr3 => ?_)
      · refine lv_iconst (v := (-1)) S.1 S.2.1 d_M_atom_28 (by decide) ?_
        exact r_i S hr hk d_M_atom_29 rfl
      · refine lv_iload_n S.1 S.2.1 d_M_atom_21 rfl (lv_at hl 3 rfl) ?_
        refine kSi (rest := []) S (c_M_isTerm l z) kc_M_isTerm ⟨q_109, q_110⟩ rfl rfl ⟨Nat.le_of_ble_eq_true rfl, Nat.le_of_ble_eq_true rfl⟩ hC (hSF s) (hAF K) trivial ⟨Nat.zero_le _, Nat.zero_le _⟩ hl.1 rfl rfl (Nat.le_of_ble_eq_true rfl) d_M_atom_22 (fun r er => ?_)
        subst er
        refine lv_if_ne (tgt := 30) S.1 S.2.1 d_M_atom_25 (by decide) (fun hbr4 => ?_) (fun hbr4 => ?_)
        · refine lv_aload_n S.1 S.2.1 d_M_atom_30 rfl (lv_at hl 0 rfl) ?_
          exact absurd ⟨hbr1, hbr2, hbr3, hbr4⟩ hno
        · refine lv_iconst (v := (-1)) S.1 S.2.1 d_M_atom_28 (by decide) ?_
          exact r_i S hr hk d_M_atom_29 rfl
set_option maxHeartbeats 4000000 in
set_option maxRecDepth 100000 in
theorem c_M_compare_n (l : Launch) {K : KT} {mon lst els lg tm pr : Nat} {wat md : Int32} {n cap : Nat} {fE : Nat → Option Nat} {kd wh fi se : Nat → Nat} {lo hi fr rg xr : Nat → Int32} {dc ad sa : Nat → Nat} {stt : Nat → Nat → Int64} {G : Int64} {N : Nat} {T : Nat → Int32} {Qp : Nat → Int64} (x y z : Int32) (hno : ¬ (¬ f_M_mayMake wat n = 0 ∧ ¬ f_M_isTerm y = 0 ∧ ¬ f_M_isTerm z = 0)) : Met l y_M_compare (Cond.code y_M_compare b_M_compare 4 (some Jvm.ClassFile.FieldType.int) :: WALL) { frames := 2, cells := 0, slots := 0, locals := 40 } (pc0 K [.ref mon, .int x, .int y, .int z] (fun H => cw K mon lst els lg tm pr wat md n cap fE kd wh fi se lo hi fr rg xr dc ad sa stt G N T Qp H)) (vp_Si (fun r => r = -1)) 0 0 (fun _ => False) := by
  refine met0 (own := "MetricLogMonitor") (by decide) rfl (Nat.le_of_ble_eq_true rfl) (fun p e s m below meth c ls S hr hk hnm hC hH hl => ?_)
  obtain ⟨hm, hls, hg, ht, hq, hfm⟩ := hH
  have hl : lv_has ls 4 [(0, .ref mon), (1, .int x), (2, .int y), (3, .int z)] := hl
  refine lv_aload_n S.1 S.2.1 d_M_compare_0 rfl (lv_at hl 0 rfl) ?_
  refine kVi (rest := []) S (c_M_mayMake l) kc_M_mayMake ⟨q_98, q_100, qp_0⟩ rfl rfl ⟨Nat.le_of_ble_eq_true rfl, Nat.le_of_ble_eq_true rfl⟩ hC (hSF s) (hAF K) ⟨hm, hls.1⟩ ⟨8, _, _, _, rfl, hm⟩ ⟨Nat.zero_le _, Nat.zero_le _⟩ hl.1 rfl rfl (Nat.le_of_ble_eq_true rfl) d_M_compare_1 (fun r er => ?_)
  subst er
  refine lv_if_eq (tgt := 21) S.1 S.2.1 d_M_compare_4 (by decide) (fun hbr1 => ?_) (fun hbr1 => ?_)
  · refine lv_iconst (v := (-1)) S.1 S.2.1 d_M_compare_21 (by decide) ?_
    exact r_i S hr hk d_M_compare_22 rfl
  · refine lv_iload_n S.1 S.2.1 d_M_compare_7 rfl (lv_at hl 2 rfl) ?_
    refine kSi (rest := []) S (c_M_isTerm l y) kc_M_isTerm ⟨q_109, q_110⟩ rfl rfl ⟨Nat.le_of_ble_eq_true rfl, Nat.le_of_ble_eq_true rfl⟩ hC (hSF s) (hAF K) trivial ⟨Nat.zero_le _, Nat.zero_le _⟩ hl.1 rfl rfl (Nat.le_of_ble_eq_true rfl) d_M_compare_8 (fun r er => ?_)
    subst er
    refine lv_if_eq (tgt := 21) S.1 S.2.1 d_M_compare_11 (by decide) (fun hbr2 => ?_) (fun hbr2 => ?_)
    · refine lv_iconst (v := (-1)) S.1 S.2.1 d_M_compare_21 (by decide) ?_
      exact r_i S hr hk d_M_compare_22 rfl
    · refine lv_iload_n S.1 S.2.1 d_M_compare_14 rfl (lv_at hl 3 rfl) ?_
      refine kSi (rest := []) S (c_M_isTerm l z) kc_M_isTerm ⟨q_109, q_110⟩ rfl rfl ⟨Nat.le_of_ble_eq_true rfl, Nat.le_of_ble_eq_true rfl⟩ hC (hSF s) (hAF K) trivial ⟨Nat.zero_le _, Nat.zero_le _⟩ hl.1 rfl rfl (Nat.le_of_ble_eq_true rfl) d_M_compare_15 (fun r er => ?_)
      subst er
      refine lv_if_ne (tgt := 23) S.1 S.2.1 d_M_compare_18 (by decide) (fun hbr3 => ?_) (fun hbr3 => ?_)
      · refine lv_aload_n S.1 S.2.1 d_M_compare_23 rfl (lv_at hl 0 rfl) ?_
        exact absurd ⟨hbr1, hbr2, hbr3⟩ hno
      · refine lv_iconst (v := (-1)) S.1 S.2.1 d_M_compare_21 (by decide) ?_
        exact r_i S hr hk d_M_compare_22 rfl
set_option maxHeartbeats 4000000 in
set_option maxRecDepth 100000 in
theorem c_M_not_n (l : Launch) {K : KT} {mon lst els lg tm pr : Nat} {wat md : Int32} {n cap : Nat} {fE : Nat → Option Nat} {kd wh fi se : Nat → Nat} {lo hi fr rg xr : Nat → Int32} {dc ad sa : Nat → Nat} {stt : Nat → Nat → Int64} {G : Int64} {N : Nat} {T : Nat → Int32} {Qp : Nat → Int64} (f : Int32) (hno : ¬ (¬ f_M_mayMake wat n = 0 ∧ (∃ k, k < n ∧ f = nI k))) : Met l y_M_not (Cond.code y_M_not b_M_not 3 (some Jvm.ClassFile.FieldType.int) :: WALL) { frames := 4, cells := 0, slots := 0, locals := 85 } (pc0 K [.ref mon, .int f] (fun H => cw K mon lst els lg tm pr wat md n cap fE kd wh fi se lo hi fr rg xr dc ad sa stt G N T Qp H)) (vp_Si (fun r => r = -1)) 0 0 (fun _ => False) := by
  refine met0 (own := "MetricLogMonitor") (by decide) rfl (Nat.le_of_ble_eq_true rfl) (fun p e s m below meth c ls S hr hk hnm hC hH hl => ?_)
  obtain ⟨hm, hls, hg, ht, hq, hfm⟩ := hH
  have hl : lv_has ls 3 [(0, .ref mon), (1, .int f)] := hl
  refine lv_aload_n S.1 S.2.1 d_M_not_0 rfl (lv_at hl 0 rfl) ?_
  refine lv_iload_n S.1 S.2.1 d_M_not_1 rfl (lv_at hl 1 rfl) ?_
  refine kVq (rest := []) S (c_M_find l) kc_M_find ⟨q_281, q_283, qp_5⟩ rfl rfl ⟨Nat.le_of_ble_eq_true rfl, Nat.le_of_ble_eq_true rfl⟩ hC (hSF s) (hAF K) ⟨hm, hls⟩ ⟨8, _, _, _, rfl, hm⟩ ⟨Nat.zero_le _, Nat.zero_le _⟩ hl.1 rfl rfl (Nat.le_of_ble_eq_true rfl) d_M_not_2 (fun r er => ?_)
  rcases find_cs er with ⟨k1, hk1, ek1, e0⟩ | ⟨hn1, e0⟩
  · refine tpq e0 ?_
    refine lv_astore_n S.1 S.2.1 d_M_not_5 rfl hl (by decide) rfl (fun ls hl => ?_)
    have hl : lv_has ls 3 [(2, .ref (ad k1)), (0, .ref mon), (1, .int f)] := hl
    refine lv_aload_n S.1 S.2.1 d_M_not_6 rfl (lv_at hl 1 rfl) ?_
    refine kVi (rest := []) S (c_M_mayMake l) kc_M_mayMake ⟨q_98, q_100, qp_0⟩ rfl rfl ⟨Nat.le_of_ble_eq_true rfl, Nat.le_of_ble_eq_true rfl⟩ hC (hSF s) (hAF K) ⟨hm, hls.1⟩ ⟨8, _, _, _, rfl, hm⟩ ⟨Nat.zero_le _, Nat.zero_le _⟩ hl.1 rfl rfl (Nat.le_of_ble_eq_true rfl) d_M_not_7 (fun r er => ?_)
    subst er
    refine lv_if_eq (tgt := 17) S.1 S.2.1 d_M_not_10 (by decide) (fun hbr1 => ?_) (fun hbr1 => ?_)
    · refine lv_iconst (v := (-1)) S.1 S.2.1 d_M_not_17 (by decide) ?_
      exact r_i S hr hk d_M_not_18 rfl
    · refine lv_aload_n S.1 S.2.1 d_M_not_13 rfl (lv_at hl 0 rfl) ?_
      refine lv_ifnonnull (tgt := 19) S.1 S.2.1 d_M_not_14 (by decide) ?_
      refine lv_aload_n S.1 S.2.1 d_M_not_19 rfl (lv_at hl 1 rfl) ?_
      exact absurd ⟨hbr1, ⟨k1, hk1, ek1⟩⟩ hno
  · refine tpq e0 ?_
    refine lv_astore_nN S.1 S.2.1 d_M_not_5 rfl hl (by decide) rfl (fun ls hl => ?_)
    have hl : lv_has ls 3 [(2, .null), (0, .ref mon), (1, .int f)] := hl
    refine lv_aload_n S.1 S.2.1 d_M_not_6 rfl (lv_at hl 1 rfl) ?_
    refine kVi (rest := []) S (c_M_mayMake l) kc_M_mayMake ⟨q_98, q_100, qp_0⟩ rfl rfl ⟨Nat.le_of_ble_eq_true rfl, Nat.le_of_ble_eq_true rfl⟩ hC (hSF s) (hAF K) ⟨hm, hls.1⟩ ⟨8, _, _, _, rfl, hm⟩ ⟨Nat.zero_le _, Nat.zero_le _⟩ hl.1 rfl rfl (Nat.le_of_ble_eq_true rfl) d_M_not_7 (fun r er => ?_)
    subst er
    refine lv_if_eq (tgt := 17) S.1 S.2.1 d_M_not_10 (by decide) (fun hbr2 => ?_) (fun hbr2 => ?_)
    · refine lv_iconst (v := (-1)) S.1 S.2.1 d_M_not_17 (by decide) ?_
      exact r_i S hr hk d_M_not_18 rfl
    · refine lv_aload_nN S.1 S.2.1 d_M_not_13 rfl (lv_at hl 0 rfl) ?_
      refine lv_ifnonnullN S.1 S.2.1 d_M_not_14 ?_
      refine lv_iconst (v := (-1)) S.1 S.2.1 d_M_not_17 (by decide) ?_
      exact r_i S hr hk d_M_not_18 rfl
set_option maxHeartbeats 4000000 in
set_option maxRecDepth 100000 in
theorem c_M_join_n (l : Launch) {K : KT} {mon lst els lg tm pr : Nat} {wat md : Int32} {n cap : Nat} {fE : Nat → Option Nat} {kd wh fi se : Nat → Nat} {lo hi fr rg xr : Nat → Int32} {dc ad sa : Nat → Nat} {stt : Nat → Nat → Int64} {G : Int64} {N : Nat} {T : Nat → Int32} {Qp : Nat → Int64} (x f f2 : Int32) (hno : ¬ (¬ f_M_mayMake wat n = 0 ∧ (∃ k, k < n ∧ f = nI k) ∧ (∃ k, k < n ∧ f2 = nI k))) : Met l y_M_join (Cond.code y_M_join b_M_join 6 (some Jvm.ClassFile.FieldType.int) :: WALL) { frames := 4, cells := 0, slots := 0, locals := 85 } (pc0 K [.ref mon, .int x, .int f, .int f2] (fun H => cw K mon lst els lg tm pr wat md n cap fE kd wh fi se lo hi fr rg xr dc ad sa stt G N T Qp H)) (vp_Si (fun r => r = -1)) 0 0 (fun _ => False) := by
  refine met0 (own := "MetricLogMonitor") (by decide) rfl (Nat.le_of_ble_eq_true rfl) (fun p e s m below meth c ls S hr hk hnm hC hH hl => ?_)
  obtain ⟨hm, hls, hg, ht, hq, hfm⟩ := hH
  have hl : lv_has ls 6 [(0, .ref mon), (1, .int x), (2, .int f), (3, .int f2)] := hl
  refine lv_aload_n S.1 S.2.1 d_M_join_0 rfl (lv_at hl 0 rfl) ?_
  refine lv_iload_n S.1 S.2.1 d_M_join_1 rfl (lv_at hl 2 rfl) ?_
  refine kVq (rest := []) S (c_M_find l) kc_M_find ⟨q_281, q_283, qp_5⟩ rfl rfl ⟨Nat.le_of_ble_eq_true rfl, Nat.le_of_ble_eq_true rfl⟩ hC (hSF s) (hAF K) ⟨hm, hls⟩ ⟨8, _, _, _, rfl, hm⟩ ⟨Nat.zero_le _, Nat.zero_le _⟩ hl.1 rfl rfl (Nat.le_of_ble_eq_true rfl) d_M_join_2 (fun r er => ?_)
  rcases find_cs er with ⟨k1, hk1, ek1, e0⟩ | ⟨hn1, e0⟩
  · refine tpq e0 ?_
    refine lv_astore S.1 S.2.1 d_M_join_5 hl (by decide) rfl (fun ls hl => ?_)
    have hl : lv_has ls 6 [(4, .ref (ad k1)), (0, .ref mon), (1, .int x), (2, .int f), (3, .int f2)] := hl
    refine lv_aload_n S.1 S.2.1 d_M_join_7 rfl (lv_at hl 1 rfl) ?_
    refine lv_iload_n S.1 S.2.1 d_M_join_8 rfl (lv_at hl 4 rfl) ?_
    refine kVq (rest := []) S (c_M_find l) kc_M_find ⟨q_281, q_283, qp_5⟩ rfl rfl ⟨Nat.le_of_ble_eq_true rfl, Nat.le_of_ble_eq_true rfl⟩ hC (hSF s) (hAF K) ⟨hm, hls⟩ ⟨8, _, _, _, rfl, hm⟩ ⟨Nat.zero_le _, Nat.zero_le _⟩ hl.1 rfl rfl (Nat.le_of_ble_eq_true rfl) d_M_join_9 (fun r er => ?_)
    rcases find_cs er with ⟨k2, hk2, ek2, e0⟩ | ⟨hn2, e0⟩
    · refine tpq e0 ?_
      refine lv_astore S.1 S.2.1 d_M_join_12 hl (by decide) rfl (fun ls hl => ?_)
      have hl : lv_has ls 6 [(5, .ref (ad k2)), (4, .ref (ad k1)), (0, .ref mon), (1, .int x), (2, .int f), (3, .int f2)] := hl
      refine lv_aload_n S.1 S.2.1 d_M_join_14 rfl (lv_at hl 2 rfl) ?_
      refine kVi (rest := []) S (c_M_mayMake l) kc_M_mayMake ⟨q_98, q_100, qp_0⟩ rfl rfl ⟨Nat.le_of_ble_eq_true rfl, Nat.le_of_ble_eq_true rfl⟩ hC (hSF s) (hAF K) ⟨hm, hls.1⟩ ⟨8, _, _, _, rfl, hm⟩ ⟨Nat.zero_le _, Nat.zero_le _⟩ hl.1 rfl rfl (Nat.le_of_ble_eq_true rfl) d_M_join_15 (fun r er => ?_)
      subst er
      refine lv_if_eq (tgt := 31) S.1 S.2.1 d_M_join_18 (by decide) (fun hbr1 => ?_) (fun hbr1 => ?_)
      · refine lv_iconst (v := (-1)) S.1 S.2.1 d_M_join_31 (by decide) ?_
        exact r_i S hr hk d_M_join_32 rfl
      · refine lv_aload S.1 S.2.1 d_M_join_21 (lv_at hl 1 rfl) ?_
        refine lv_ifnull S.1 S.2.1 d_M_join_23 ?_
        refine lv_aload S.1 S.2.1 d_M_join_26 (lv_at hl 0 rfl) ?_
        refine lv_ifnonnull (tgt := 33) S.1 S.2.1 d_M_join_28 (by decide) ?_
        refine lv_aload_n S.1 S.2.1 d_M_join_33 rfl (lv_at hl 2 rfl) ?_
        exact absurd ⟨hbr1, ⟨k1, hk1, ek1⟩, ⟨k2, hk2, ek2⟩⟩ hno
    · refine tpq e0 ?_
      refine lv_astoreN S.1 S.2.1 d_M_join_12 hl (by decide) rfl (fun ls hl => ?_)
      have hl : lv_has ls 6 [(5, .null), (4, .ref (ad k1)), (0, .ref mon), (1, .int x), (2, .int f), (3, .int f2)] := hl
      refine lv_aload_n S.1 S.2.1 d_M_join_14 rfl (lv_at hl 2 rfl) ?_
      refine kVi (rest := []) S (c_M_mayMake l) kc_M_mayMake ⟨q_98, q_100, qp_0⟩ rfl rfl ⟨Nat.le_of_ble_eq_true rfl, Nat.le_of_ble_eq_true rfl⟩ hC (hSF s) (hAF K) ⟨hm, hls.1⟩ ⟨8, _, _, _, rfl, hm⟩ ⟨Nat.zero_le _, Nat.zero_le _⟩ hl.1 rfl rfl (Nat.le_of_ble_eq_true rfl) d_M_join_15 (fun r er => ?_)
      subst er
      refine lv_if_eq (tgt := 31) S.1 S.2.1 d_M_join_18 (by decide) (fun hbr2 => ?_) (fun hbr2 => ?_)
      · refine lv_iconst (v := (-1)) S.1 S.2.1 d_M_join_31 (by decide) ?_
        exact r_i S hr hk d_M_join_32 rfl
      · refine lv_aload S.1 S.2.1 d_M_join_21 (lv_at hl 1 rfl) ?_
        refine lv_ifnull S.1 S.2.1 d_M_join_23 ?_
        refine lv_aloadN S.1 S.2.1 d_M_join_26 (lv_at hl 0 rfl) ?_
        refine lv_ifnonnullN S.1 S.2.1 d_M_join_28 ?_
        refine lv_iconst (v := (-1)) S.1 S.2.1 d_M_join_31 (by decide) ?_
        exact r_i S hr hk d_M_join_32 rfl
  · refine tpq e0 ?_
    refine lv_astoreN S.1 S.2.1 d_M_join_5 hl (by decide) rfl (fun ls hl => ?_)
    have hl : lv_has ls 6 [(4, .null), (0, .ref mon), (1, .int x), (2, .int f), (3, .int f2)] := hl
    refine lv_aload_n S.1 S.2.1 d_M_join_7 rfl (lv_at hl 1 rfl) ?_
    refine lv_iload_n S.1 S.2.1 d_M_join_8 rfl (lv_at hl 4 rfl) ?_
    refine kVq (rest := []) S (c_M_find l) kc_M_find ⟨q_281, q_283, qp_5⟩ rfl rfl ⟨Nat.le_of_ble_eq_true rfl, Nat.le_of_ble_eq_true rfl⟩ hC (hSF s) (hAF K) ⟨hm, hls⟩ ⟨8, _, _, _, rfl, hm⟩ ⟨Nat.zero_le _, Nat.zero_le _⟩ hl.1 rfl rfl (Nat.le_of_ble_eq_true rfl) d_M_join_9 (fun r er => ?_)
    rcases find_cs er with ⟨k3, hk3, ek3, e0⟩ | ⟨hn3, e0⟩
    · refine tpq e0 ?_
      refine lv_astore S.1 S.2.1 d_M_join_12 hl (by decide) rfl (fun ls hl => ?_)
      have hl : lv_has ls 6 [(5, .ref (ad k3)), (4, .null), (0, .ref mon), (1, .int x), (2, .int f), (3, .int f2)] := hl
      refine lv_aload_n S.1 S.2.1 d_M_join_14 rfl (lv_at hl 2 rfl) ?_
      refine kVi (rest := []) S (c_M_mayMake l) kc_M_mayMake ⟨q_98, q_100, qp_0⟩ rfl rfl ⟨Nat.le_of_ble_eq_true rfl, Nat.le_of_ble_eq_true rfl⟩ hC (hSF s) (hAF K) ⟨hm, hls.1⟩ ⟨8, _, _, _, rfl, hm⟩ ⟨Nat.zero_le _, Nat.zero_le _⟩ hl.1 rfl rfl (Nat.le_of_ble_eq_true rfl) d_M_join_15 (fun r er => ?_)
      subst er
      refine lv_if_eq (tgt := 31) S.1 S.2.1 d_M_join_18 (by decide) (fun hbr3 => ?_) (fun hbr3 => ?_)
      · refine lv_iconst (v := (-1)) S.1 S.2.1 d_M_join_31 (by decide) ?_
        exact r_i S hr hk d_M_join_32 rfl
      · refine lv_aloadN S.1 S.2.1 d_M_join_21 (lv_at hl 1 rfl) ?_
        refine lv_ifnullN (tgt := 31) S.1 S.2.1 d_M_join_23 (by decide) ?_
        refine lv_iconst (v := (-1)) S.1 S.2.1 d_M_join_31 (by decide) ?_
        exact r_i S hr hk d_M_join_32 rfl
    · refine tpq e0 ?_
      refine lv_astoreN S.1 S.2.1 d_M_join_12 hl (by decide) rfl (fun ls hl => ?_)
      have hl : lv_has ls 6 [(5, .null), (4, .null), (0, .ref mon), (1, .int x), (2, .int f), (3, .int f2)] := hl
      refine lv_aload_n S.1 S.2.1 d_M_join_14 rfl (lv_at hl 2 rfl) ?_
      refine kVi (rest := []) S (c_M_mayMake l) kc_M_mayMake ⟨q_98, q_100, qp_0⟩ rfl rfl ⟨Nat.le_of_ble_eq_true rfl, Nat.le_of_ble_eq_true rfl⟩ hC (hSF s) (hAF K) ⟨hm, hls.1⟩ ⟨8, _, _, _, rfl, hm⟩ ⟨Nat.zero_le _, Nat.zero_le _⟩ hl.1 rfl rfl (Nat.le_of_ble_eq_true rfl) d_M_join_15 (fun r er => ?_)
      subst er
      refine lv_if_eq (tgt := 31) S.1 S.2.1 d_M_join_18 (by decide) (fun hbr4 => ?_) (fun hbr4 => ?_)
      · refine lv_iconst (v := (-1)) S.1 S.2.1 d_M_join_31 (by decide) ?_
        exact r_i S hr hk d_M_join_32 rfl
      · refine lv_aloadN S.1 S.2.1 d_M_join_21 (lv_at hl 1 rfl) ?_
        refine lv_ifnullN (tgt := 31) S.1 S.2.1 d_M_join_23 (by decide) ?_
        refine lv_iconst (v := (-1)) S.1 S.2.1 d_M_join_31 (by decide) ?_
        exact r_i S hr hk d_M_join_32 rfl
set_option maxHeartbeats 4000000 in
set_option maxRecDepth 100000 in
theorem c_M_exists_n (l : Launch) {K : KT} {mon lst els lg tm pr : Nat} {wat md : Int32} {n cap : Nat} {fE : Nat → Option Nat} {kd wh fi se : Nat → Nat} {lo hi fr rg xr : Nat → Int32} {dc ad sa : Nat → Nat} {stt : Nat → Nat → Int64} {G : Int64} {N : Nat} {T : Nat → Int32} {Qp : Nat → Int64} (x f : Int32) (hno : ¬ (¬ f_M_mayMake wat n = 0 ∧ ¬ f_M_isVariable x = 0 ∧ (∃ k, k < n ∧ f = nI k))) : Met l y_M_exists (Cond.code y_M_exists b_M_exists 4 (some Jvm.ClassFile.FieldType.int) :: WALL) { frames := 4, cells := 0, slots := 0, locals := 85 } (pc0 K [.ref mon, .int x, .int f] (fun H => cw K mon lst els lg tm pr wat md n cap fE kd wh fi se lo hi fr rg xr dc ad sa stt G N T Qp H)) (vp_Si (fun r => r = -1)) 0 0 (fun _ => False) := by
  refine met0 (own := "MetricLogMonitor") (by decide) rfl (Nat.le_of_ble_eq_true rfl) (fun p e s m below meth c ls S hr hk hnm hC hH hl => ?_)
  obtain ⟨hm, hls, hg, ht, hq, hfm⟩ := hH
  have hl : lv_has ls 4 [(0, .ref mon), (1, .int x), (2, .int f)] := hl
  refine lv_aload_n S.1 S.2.1 d_M_exists_0 rfl (lv_at hl 0 rfl) ?_
  refine lv_iload_n S.1 S.2.1 d_M_exists_1 rfl (lv_at hl 2 rfl) ?_
  refine kVq (rest := []) S (c_M_find l) kc_M_find ⟨q_281, q_283, qp_5⟩ rfl rfl ⟨Nat.le_of_ble_eq_true rfl, Nat.le_of_ble_eq_true rfl⟩ hC (hSF s) (hAF K) ⟨hm, hls⟩ ⟨8, _, _, _, rfl, hm⟩ ⟨Nat.zero_le _, Nat.zero_le _⟩ hl.1 rfl rfl (Nat.le_of_ble_eq_true rfl) d_M_exists_2 (fun r er => ?_)
  rcases find_cs er with ⟨k1, hk1, ek1, e0⟩ | ⟨hn1, e0⟩
  · refine tpq e0 ?_
    refine lv_astore_n S.1 S.2.1 d_M_exists_5 rfl hl (by decide) rfl (fun ls hl => ?_)
    have hl : lv_has ls 4 [(3, .ref (ad k1)), (0, .ref mon), (1, .int x), (2, .int f)] := hl
    refine lv_aload_n S.1 S.2.1 d_M_exists_6 rfl (lv_at hl 1 rfl) ?_
    refine kVi (rest := []) S (c_M_mayMake l) kc_M_mayMake ⟨q_98, q_100, qp_0⟩ rfl rfl ⟨Nat.le_of_ble_eq_true rfl, Nat.le_of_ble_eq_true rfl⟩ hC (hSF s) (hAF K) ⟨hm, hls.1⟩ ⟨8, _, _, _, rfl, hm⟩ ⟨Nat.zero_le _, Nat.zero_le _⟩ hl.1 rfl rfl (Nat.le_of_ble_eq_true rfl) d_M_exists_7 (fun r er => ?_)
    subst er
    refine lv_if_eq (tgt := 24) S.1 S.2.1 d_M_exists_10 (by decide) (fun hbr1 => ?_) (fun hbr1 => ?_)
    · refine lv_iconst (v := (-1)) S.1 S.2.1 d_M_exists_24 (by decide) ?_
      exact r_i S hr hk d_M_exists_25 rfl
    · refine lv_iload_n S.1 S.2.1 d_M_exists_13 rfl (lv_at hl 2 rfl) ?_
      refine kSi (rest := []) S (c_M_isVariable l x) kc_M_isVariable ⟨q_112, q_113⟩ rfl rfl ⟨Nat.le_of_ble_eq_true rfl, Nat.le_of_ble_eq_true rfl⟩ hC (hSF s) (hAF K) trivial ⟨Nat.zero_le _, Nat.zero_le _⟩ hl.1 rfl rfl (Nat.le_of_ble_eq_true rfl) d_M_exists_14 (fun r er => ?_)
      subst er
      refine lv_if_eq (tgt := 24) S.1 S.2.1 d_M_exists_17 (by decide) (fun hbr2 => ?_) (fun hbr2 => ?_)
      · refine lv_iconst (v := (-1)) S.1 S.2.1 d_M_exists_24 (by decide) ?_
        exact r_i S hr hk d_M_exists_25 rfl
      · refine lv_aload_n S.1 S.2.1 d_M_exists_20 rfl (lv_at hl 0 rfl) ?_
        refine lv_ifnonnull (tgt := 26) S.1 S.2.1 d_M_exists_21 (by decide) ?_
        refine lv_aload_n S.1 S.2.1 d_M_exists_26 rfl (lv_at hl 1 rfl) ?_
        exact absurd ⟨hbr1, hbr2, ⟨k1, hk1, ek1⟩⟩ hno
  · refine tpq e0 ?_
    refine lv_astore_nN S.1 S.2.1 d_M_exists_5 rfl hl (by decide) rfl (fun ls hl => ?_)
    have hl : lv_has ls 4 [(3, .null), (0, .ref mon), (1, .int x), (2, .int f)] := hl
    refine lv_aload_n S.1 S.2.1 d_M_exists_6 rfl (lv_at hl 1 rfl) ?_
    refine kVi (rest := []) S (c_M_mayMake l) kc_M_mayMake ⟨q_98, q_100, qp_0⟩ rfl rfl ⟨Nat.le_of_ble_eq_true rfl, Nat.le_of_ble_eq_true rfl⟩ hC (hSF s) (hAF K) ⟨hm, hls.1⟩ ⟨8, _, _, _, rfl, hm⟩ ⟨Nat.zero_le _, Nat.zero_le _⟩ hl.1 rfl rfl (Nat.le_of_ble_eq_true rfl) d_M_exists_7 (fun r er => ?_)
    subst er
    refine lv_if_eq (tgt := 24) S.1 S.2.1 d_M_exists_10 (by decide) (fun hbr3 => ?_) (fun hbr3 => ?_)
    · refine lv_iconst (v := (-1)) S.1 S.2.1 d_M_exists_24 (by decide) ?_
      exact r_i S hr hk d_M_exists_25 rfl
    · refine lv_iload_n S.1 S.2.1 d_M_exists_13 rfl (lv_at hl 2 rfl) ?_
      refine kSi (rest := []) S (c_M_isVariable l x) kc_M_isVariable ⟨q_112, q_113⟩ rfl rfl ⟨Nat.le_of_ble_eq_true rfl, Nat.le_of_ble_eq_true rfl⟩ hC (hSF s) (hAF K) trivial ⟨Nat.zero_le _, Nat.zero_le _⟩ hl.1 rfl rfl (Nat.le_of_ble_eq_true rfl) d_M_exists_14 (fun r er => ?_)
      subst er
      refine lv_if_eq (tgt := 24) S.1 S.2.1 d_M_exists_17 (by decide) (fun hbr4 => ?_) (fun hbr4 => ?_)
      · refine lv_iconst (v := (-1)) S.1 S.2.1 d_M_exists_24 (by decide) ?_
        exact r_i S hr hk d_M_exists_25 rfl
      · refine lv_aload_nN S.1 S.2.1 d_M_exists_20 rfl (lv_at hl 0 rfl) ?_
        refine lv_ifnonnullN S.1 S.2.1 d_M_exists_21 ?_
        refine lv_iconst (v := (-1)) S.1 S.2.1 d_M_exists_24 (by decide) ?_
        exact r_i S hr hk d_M_exists_25 rfl
set_option maxHeartbeats 4000000 in
set_option maxRecDepth 100000 in
theorem c_M_previous_n (l : Launch) {K : KT} {mon lst els lg tm pr : Nat} {wat md : Int32} {n cap : Nat} {fE : Nat → Option Nat} {kd wh fi se : Nat → Nat} {lo hi fr rg xr : Nat → Int32} {dc ad sa : Nat → Nat} {stt : Nat → Nat → Int64} {G : Int64} {N : Nat} {T : Nat → Int32} {Qp : Nat → Int64} (x y f : Int32) (hno : ¬ (¬ f_M_mayMake wat n = 0 ∧ ¬ f_M_isPastInterval x y = 0 ∧ (∃ k, k < n ∧ f = nI k))) : Met l y_M_previous (Cond.code y_M_previous b_M_previous 5 (some Jvm.ClassFile.FieldType.int) :: WALL) { frames := 4, cells := 0, slots := 0, locals := 85 } (pc0 K [.ref mon, .int x, .int y, .int f] (fun H => cw K mon lst els lg tm pr wat md n cap fE kd wh fi se lo hi fr rg xr dc ad sa stt G N T Qp H)) (vp_Si (fun r => r = -1)) 0 0 (fun _ => False) := by
  refine met0 (own := "MetricLogMonitor") (by decide) rfl (Nat.le_of_ble_eq_true rfl) (fun p e s m below meth c ls S hr hk hnm hC hH hl => ?_)
  obtain ⟨hm, hls, hg, ht, hq, hfm⟩ := hH
  have hl : lv_has ls 5 [(0, .ref mon), (1, .int x), (2, .int y), (3, .int f)] := hl
  refine lv_aload_n S.1 S.2.1 d_M_previous_0 rfl (lv_at hl 0 rfl) ?_
  refine lv_iload_n S.1 S.2.1 d_M_previous_1 rfl (lv_at hl 3 rfl) ?_
  refine kVq (rest := []) S (c_M_find l) kc_M_find ⟨q_281, q_283, qp_5⟩ rfl rfl ⟨Nat.le_of_ble_eq_true rfl, Nat.le_of_ble_eq_true rfl⟩ hC (hSF s) (hAF K) ⟨hm, hls⟩ ⟨8, _, _, _, rfl, hm⟩ ⟨Nat.zero_le _, Nat.zero_le _⟩ hl.1 rfl rfl (Nat.le_of_ble_eq_true rfl) d_M_previous_2 (fun r er => ?_)
  rcases find_cs er with ⟨k1, hk1, ek1, e0⟩ | ⟨hn1, e0⟩
  · refine tpq e0 ?_
    refine lv_astore S.1 S.2.1 d_M_previous_5 hl (by decide) rfl (fun ls hl => ?_)
    have hl : lv_has ls 5 [(4, .ref (ad k1)), (0, .ref mon), (1, .int x), (2, .int y), (3, .int f)] := hl
    refine lv_aload_n S.1 S.2.1 d_M_previous_7 rfl (lv_at hl 1 rfl) ?_
    refine kVi (rest := []) S (c_M_mayMake l) kc_M_mayMake ⟨q_98, q_100, qp_0⟩ rfl rfl ⟨Nat.le_of_ble_eq_true rfl, Nat.le_of_ble_eq_true rfl⟩ hC (hSF s) (hAF K) ⟨hm, hls.1⟩ ⟨8, _, _, _, rfl, hm⟩ ⟨Nat.zero_le _, Nat.zero_le _⟩ hl.1 rfl rfl (Nat.le_of_ble_eq_true rfl) d_M_previous_8 (fun r er => ?_)
    subst er
    refine lv_if_eq (tgt := 27) S.1 S.2.1 d_M_previous_11 (by decide) (fun hbr1 => ?_) (fun hbr1 => ?_)
    · refine lv_iconst (v := (-1)) S.1 S.2.1 d_M_previous_27 (by decide) ?_
      exact r_i S hr hk d_M_previous_28 rfl
    · refine lv_iload_n S.1 S.2.1 d_M_previous_14 rfl (lv_at hl 2 rfl) ?_
      refine lv_iload_n S.1 S.2.1 d_M_previous_15 rfl (lv_at hl 3 rfl) ?_
      refine kSi (rest := []) S (c_M_isPastInterval l x y) kc_M_isPastInterval ⟨q_370, q_371⟩ rfl rfl ⟨Nat.le_of_ble_eq_true rfl, Nat.le_of_ble_eq_true rfl⟩ hC (hSF s) (hAF K) trivial ⟨Nat.zero_le _, Nat.zero_le _⟩ hl.1 rfl rfl (Nat.le_of_ble_eq_true rfl) d_M_previous_16 (fun r er => ?_)
      subst er
      refine lv_if_eq (tgt := 27) S.1 S.2.1 d_M_previous_19 (by decide) (fun hbr2 => ?_) (fun hbr2 => ?_)
      · refine lv_iconst (v := (-1)) S.1 S.2.1 d_M_previous_27 (by decide) ?_
        exact r_i S hr hk d_M_previous_28 rfl
      · refine lv_aload S.1 S.2.1 d_M_previous_22 (lv_at hl 0 rfl) ?_
        refine lv_ifnonnull (tgt := 29) S.1 S.2.1 d_M_previous_24 (by decide) ?_
        refine lv_aload_n S.1 S.2.1 d_M_previous_29 rfl (lv_at hl 1 rfl) ?_
        exact absurd ⟨hbr1, hbr2, ⟨k1, hk1, ek1⟩⟩ hno
  · refine tpq e0 ?_
    refine lv_astoreN S.1 S.2.1 d_M_previous_5 hl (by decide) rfl (fun ls hl => ?_)
    have hl : lv_has ls 5 [(4, .null), (0, .ref mon), (1, .int x), (2, .int y), (3, .int f)] := hl
    refine lv_aload_n S.1 S.2.1 d_M_previous_7 rfl (lv_at hl 1 rfl) ?_
    refine kVi (rest := []) S (c_M_mayMake l) kc_M_mayMake ⟨q_98, q_100, qp_0⟩ rfl rfl ⟨Nat.le_of_ble_eq_true rfl, Nat.le_of_ble_eq_true rfl⟩ hC (hSF s) (hAF K) ⟨hm, hls.1⟩ ⟨8, _, _, _, rfl, hm⟩ ⟨Nat.zero_le _, Nat.zero_le _⟩ hl.1 rfl rfl (Nat.le_of_ble_eq_true rfl) d_M_previous_8 (fun r er => ?_)
    subst er
    refine lv_if_eq (tgt := 27) S.1 S.2.1 d_M_previous_11 (by decide) (fun hbr3 => ?_) (fun hbr3 => ?_)
    · refine lv_iconst (v := (-1)) S.1 S.2.1 d_M_previous_27 (by decide) ?_
      exact r_i S hr hk d_M_previous_28 rfl
    · refine lv_iload_n S.1 S.2.1 d_M_previous_14 rfl (lv_at hl 2 rfl) ?_
      refine lv_iload_n S.1 S.2.1 d_M_previous_15 rfl (lv_at hl 3 rfl) ?_
      refine kSi (rest := []) S (c_M_isPastInterval l x y) kc_M_isPastInterval ⟨q_370, q_371⟩ rfl rfl ⟨Nat.le_of_ble_eq_true rfl, Nat.le_of_ble_eq_true rfl⟩ hC (hSF s) (hAF K) trivial ⟨Nat.zero_le _, Nat.zero_le _⟩ hl.1 rfl rfl (Nat.le_of_ble_eq_true rfl) d_M_previous_16 (fun r er => ?_)
      subst er
      refine lv_if_eq (tgt := 27) S.1 S.2.1 d_M_previous_19 (by decide) (fun hbr4 => ?_) (fun hbr4 => ?_)
      · refine lv_iconst (v := (-1)) S.1 S.2.1 d_M_previous_27 (by decide) ?_
        exact r_i S hr hk d_M_previous_28 rfl
      · refine lv_aloadN S.1 S.2.1 d_M_previous_22 (lv_at hl 0 rfl) ?_
        refine lv_ifnonnullN S.1 S.2.1 d_M_previous_24 ?_
        refine lv_iconst (v := (-1)) S.1 S.2.1 d_M_previous_27 (by decide) ?_
        exact r_i S hr hk d_M_previous_28 rfl
set_option maxHeartbeats 4000000 in
set_option maxRecDepth 100000 in
theorem c_M_since_n (l : Launch) {K : KT} {mon lst els lg tm pr : Nat} {wat md : Int32} {n cap : Nat} {fE : Nat → Option Nat} {kd wh fi se : Nat → Nat} {lo hi fr rg xr : Nat → Int32} {dc ad sa : Nat → Nat} {stt : Nat → Nat → Int64} {G : Int64} {N : Nat} {T : Nat → Int32} {Qp : Nat → Int64} (x y f f2 : Int32) (hno : ¬ (¬ f_M_mayMake wat n = 0 ∧ ¬ f_M_isPastInterval x y = 0 ∧ (∃ k, k < n ∧ f = nI k) ∧ (∃ k, k < n ∧ f2 = nI k))) : Met l y_M_since (Cond.code y_M_since b_M_since 7 (some Jvm.ClassFile.FieldType.int) :: WALL) { frames := 4, cells := 0, slots := 0, locals := 85 } (pc0 K [.ref mon, .int x, .int y, .int f, .int f2] (fun H => cw K mon lst els lg tm pr wat md n cap fE kd wh fi se lo hi fr rg xr dc ad sa stt G N T Qp H)) (vp_Si (fun r => r = -1)) 0 0 (fun _ => False) := by
  refine met0 (own := "MetricLogMonitor") (by decide) rfl (Nat.le_of_ble_eq_true rfl) (fun p e s m below meth c ls S hr hk hnm hC hH hl => ?_)
  obtain ⟨hm, hls, hg, ht, hq, hfm⟩ := hH
  have hl : lv_has ls 7 [(0, .ref mon), (1, .int x), (2, .int y), (3, .int f), (4, .int f2)] := hl
  refine lv_aload_n S.1 S.2.1 d_M_since_0 rfl (lv_at hl 0 rfl) ?_
  refine lv_iload_n S.1 S.2.1 d_M_since_1 rfl (lv_at hl 3 rfl) ?_
  refine kVq (rest := []) S (c_M_find l) kc_M_find ⟨q_281, q_283, qp_5⟩ rfl rfl ⟨Nat.le_of_ble_eq_true rfl, Nat.le_of_ble_eq_true rfl⟩ hC (hSF s) (hAF K) ⟨hm, hls⟩ ⟨8, _, _, _, rfl, hm⟩ ⟨Nat.zero_le _, Nat.zero_le _⟩ hl.1 rfl rfl (Nat.le_of_ble_eq_true rfl) d_M_since_2 (fun r er => ?_)
  rcases find_cs er with ⟨k1, hk1, ek1, e0⟩ | ⟨hn1, e0⟩
  · refine tpq e0 ?_
    refine lv_astore S.1 S.2.1 d_M_since_5 hl (by decide) rfl (fun ls hl => ?_)
    have hl : lv_has ls 7 [(5, .ref (ad k1)), (0, .ref mon), (1, .int x), (2, .int y), (3, .int f), (4, .int f2)] := hl
    refine lv_aload_n S.1 S.2.1 d_M_since_7 rfl (lv_at hl 1 rfl) ?_
    refine lv_iload S.1 S.2.1 d_M_since_8 (lv_at hl 5 rfl) ?_
    refine kVq (rest := []) S (c_M_find l) kc_M_find ⟨q_281, q_283, qp_5⟩ rfl rfl ⟨Nat.le_of_ble_eq_true rfl, Nat.le_of_ble_eq_true rfl⟩ hC (hSF s) (hAF K) ⟨hm, hls⟩ ⟨8, _, _, _, rfl, hm⟩ ⟨Nat.zero_le _, Nat.zero_le _⟩ hl.1 rfl rfl (Nat.le_of_ble_eq_true rfl) d_M_since_10 (fun r er => ?_)
    rcases find_cs er with ⟨k2, hk2, ek2, e0⟩ | ⟨hn2, e0⟩
    · refine tpq e0 ?_
      refine lv_astore S.1 S.2.1 d_M_since_13 hl (by decide) rfl (fun ls hl => ?_)
      have hl : lv_has ls 7 [(6, .ref (ad k2)), (5, .ref (ad k1)), (0, .ref mon), (1, .int x), (2, .int y), (3, .int f), (4, .int f2)] := hl
      refine lv_aload_n S.1 S.2.1 d_M_since_15 rfl (lv_at hl 2 rfl) ?_
      refine kVi (rest := []) S (c_M_mayMake l) kc_M_mayMake ⟨q_98, q_100, qp_0⟩ rfl rfl ⟨Nat.le_of_ble_eq_true rfl, Nat.le_of_ble_eq_true rfl⟩ hC (hSF s) (hAF K) ⟨hm, hls.1⟩ ⟨8, _, _, _, rfl, hm⟩ ⟨Nat.zero_le _, Nat.zero_le _⟩ hl.1 rfl rfl (Nat.le_of_ble_eq_true rfl) d_M_since_16 (fun r er => ?_)
      subst er
      refine lv_if_eq (tgt := 40) S.1 S.2.1 d_M_since_19 (by decide) (fun hbr1 => ?_) (fun hbr1 => ?_)
      · refine lv_iconst (v := (-1)) S.1 S.2.1 d_M_since_40 (by decide) ?_
        exact r_i S hr hk d_M_since_41 rfl
      · refine lv_iload_n S.1 S.2.1 d_M_since_22 rfl (lv_at hl 3 rfl) ?_
        refine lv_iload_n S.1 S.2.1 d_M_since_23 rfl (lv_at hl 4 rfl) ?_
        refine kSi (rest := []) S (c_M_isPastInterval l x y) kc_M_isPastInterval ⟨q_370, q_371⟩ rfl rfl ⟨Nat.le_of_ble_eq_true rfl, Nat.le_of_ble_eq_true rfl⟩ hC (hSF s) (hAF K) trivial ⟨Nat.zero_le _, Nat.zero_le _⟩ hl.1 rfl rfl (Nat.le_of_ble_eq_true rfl) d_M_since_24 (fun r er => ?_)
        subst er
        refine lv_if_eq (tgt := 40) S.1 S.2.1 d_M_since_27 (by decide) (fun hbr2 => ?_) (fun hbr2 => ?_)
        · refine lv_iconst (v := (-1)) S.1 S.2.1 d_M_since_40 (by decide) ?_
          exact r_i S hr hk d_M_since_41 rfl
        · refine lv_aload S.1 S.2.1 d_M_since_30 (lv_at hl 1 rfl) ?_
          refine lv_ifnull S.1 S.2.1 d_M_since_32 ?_
          refine lv_aload S.1 S.2.1 d_M_since_35 (lv_at hl 0 rfl) ?_
          refine lv_ifnonnull (tgt := 42) S.1 S.2.1 d_M_since_37 (by decide) ?_
          refine lv_aload_n S.1 S.2.1 d_M_since_42 rfl (lv_at hl 2 rfl) ?_
          exact absurd ⟨hbr1, hbr2, ⟨k1, hk1, ek1⟩, ⟨k2, hk2, ek2⟩⟩ hno
    · refine tpq e0 ?_
      refine lv_astoreN S.1 S.2.1 d_M_since_13 hl (by decide) rfl (fun ls hl => ?_)
      have hl : lv_has ls 7 [(6, .null), (5, .ref (ad k1)), (0, .ref mon), (1, .int x), (2, .int y), (3, .int f), (4, .int f2)] := hl
      refine lv_aload_n S.1 S.2.1 d_M_since_15 rfl (lv_at hl 2 rfl) ?_
      refine kVi (rest := []) S (c_M_mayMake l) kc_M_mayMake ⟨q_98, q_100, qp_0⟩ rfl rfl ⟨Nat.le_of_ble_eq_true rfl, Nat.le_of_ble_eq_true rfl⟩ hC (hSF s) (hAF K) ⟨hm, hls.1⟩ ⟨8, _, _, _, rfl, hm⟩ ⟨Nat.zero_le _, Nat.zero_le _⟩ hl.1 rfl rfl (Nat.le_of_ble_eq_true rfl) d_M_since_16 (fun r er => ?_)
      subst er
      refine lv_if_eq (tgt := 40) S.1 S.2.1 d_M_since_19 (by decide) (fun hbr3 => ?_) (fun hbr3 => ?_)
      · refine lv_iconst (v := (-1)) S.1 S.2.1 d_M_since_40 (by decide) ?_
        exact r_i S hr hk d_M_since_41 rfl
      · refine lv_iload_n S.1 S.2.1 d_M_since_22 rfl (lv_at hl 3 rfl) ?_
        refine lv_iload_n S.1 S.2.1 d_M_since_23 rfl (lv_at hl 4 rfl) ?_
        refine kSi (rest := []) S (c_M_isPastInterval l x y) kc_M_isPastInterval ⟨q_370, q_371⟩ rfl rfl ⟨Nat.le_of_ble_eq_true rfl, Nat.le_of_ble_eq_true rfl⟩ hC (hSF s) (hAF K) trivial ⟨Nat.zero_le _, Nat.zero_le _⟩ hl.1 rfl rfl (Nat.le_of_ble_eq_true rfl) d_M_since_24 (fun r er => ?_)
        subst er
        refine lv_if_eq (tgt := 40) S.1 S.2.1 d_M_since_27 (by decide) (fun hbr4 => ?_) (fun hbr4 => ?_)
        · refine lv_iconst (v := (-1)) S.1 S.2.1 d_M_since_40 (by decide) ?_
          exact r_i S hr hk d_M_since_41 rfl
        · refine lv_aload S.1 S.2.1 d_M_since_30 (lv_at hl 1 rfl) ?_
          refine lv_ifnull S.1 S.2.1 d_M_since_32 ?_
          refine lv_aloadN S.1 S.2.1 d_M_since_35 (lv_at hl 0 rfl) ?_
          refine lv_ifnonnullN S.1 S.2.1 d_M_since_37 ?_
          refine lv_iconst (v := (-1)) S.1 S.2.1 d_M_since_40 (by decide) ?_
          exact r_i S hr hk d_M_since_41 rfl
  · refine tpq e0 ?_
    refine lv_astoreN S.1 S.2.1 d_M_since_5 hl (by decide) rfl (fun ls hl => ?_)
    have hl : lv_has ls 7 [(5, .null), (0, .ref mon), (1, .int x), (2, .int y), (3, .int f), (4, .int f2)] := hl
    refine lv_aload_n S.1 S.2.1 d_M_since_7 rfl (lv_at hl 1 rfl) ?_
    refine lv_iload S.1 S.2.1 d_M_since_8 (lv_at hl 5 rfl) ?_
    refine kVq (rest := []) S (c_M_find l) kc_M_find ⟨q_281, q_283, qp_5⟩ rfl rfl ⟨Nat.le_of_ble_eq_true rfl, Nat.le_of_ble_eq_true rfl⟩ hC (hSF s) (hAF K) ⟨hm, hls⟩ ⟨8, _, _, _, rfl, hm⟩ ⟨Nat.zero_le _, Nat.zero_le _⟩ hl.1 rfl rfl (Nat.le_of_ble_eq_true rfl) d_M_since_10 (fun r er => ?_)
    rcases find_cs er with ⟨k3, hk3, ek3, e0⟩ | ⟨hn3, e0⟩
    · refine tpq e0 ?_
      refine lv_astore S.1 S.2.1 d_M_since_13 hl (by decide) rfl (fun ls hl => ?_)
      have hl : lv_has ls 7 [(6, .ref (ad k3)), (5, .null), (0, .ref mon), (1, .int x), (2, .int y), (3, .int f), (4, .int f2)] := hl
      refine lv_aload_n S.1 S.2.1 d_M_since_15 rfl (lv_at hl 2 rfl) ?_
      refine kVi (rest := []) S (c_M_mayMake l) kc_M_mayMake ⟨q_98, q_100, qp_0⟩ rfl rfl ⟨Nat.le_of_ble_eq_true rfl, Nat.le_of_ble_eq_true rfl⟩ hC (hSF s) (hAF K) ⟨hm, hls.1⟩ ⟨8, _, _, _, rfl, hm⟩ ⟨Nat.zero_le _, Nat.zero_le _⟩ hl.1 rfl rfl (Nat.le_of_ble_eq_true rfl) d_M_since_16 (fun r er => ?_)
      subst er
      refine lv_if_eq (tgt := 40) S.1 S.2.1 d_M_since_19 (by decide) (fun hbr5 => ?_) (fun hbr5 => ?_)
      · refine lv_iconst (v := (-1)) S.1 S.2.1 d_M_since_40 (by decide) ?_
        exact r_i S hr hk d_M_since_41 rfl
      · refine lv_iload_n S.1 S.2.1 d_M_since_22 rfl (lv_at hl 3 rfl) ?_
        refine lv_iload_n S.1 S.2.1 d_M_since_23 rfl (lv_at hl 4 rfl) ?_
        refine kSi (rest := []) S (c_M_isPastInterval l x y) kc_M_isPastInterval ⟨q_370, q_371⟩ rfl rfl ⟨Nat.le_of_ble_eq_true rfl, Nat.le_of_ble_eq_true rfl⟩ hC (hSF s) (hAF K) trivial ⟨Nat.zero_le _, Nat.zero_le _⟩ hl.1 rfl rfl (Nat.le_of_ble_eq_true rfl) d_M_since_24 (fun r er => ?_)
        subst er
        refine lv_if_eq (tgt := 40) S.1 S.2.1 d_M_since_27 (by decide) (fun hbr6 => ?_) (fun hbr6 => ?_)
        · refine lv_iconst (v := (-1)) S.1 S.2.1 d_M_since_40 (by decide) ?_
          exact r_i S hr hk d_M_since_41 rfl
        · refine lv_aloadN S.1 S.2.1 d_M_since_30 (lv_at hl 1 rfl) ?_
          refine lv_ifnullN (tgt := 40) S.1 S.2.1 d_M_since_32 (by decide) ?_
          refine lv_iconst (v := (-1)) S.1 S.2.1 d_M_since_40 (by decide) ?_
          exact r_i S hr hk d_M_since_41 rfl
    · refine tpq e0 ?_
      refine lv_astoreN S.1 S.2.1 d_M_since_13 hl (by decide) rfl (fun ls hl => ?_)
      have hl : lv_has ls 7 [(6, .null), (5, .null), (0, .ref mon), (1, .int x), (2, .int y), (3, .int f), (4, .int f2)] := hl
      refine lv_aload_n S.1 S.2.1 d_M_since_15 rfl (lv_at hl 2 rfl) ?_
      refine kVi (rest := []) S (c_M_mayMake l) kc_M_mayMake ⟨q_98, q_100, qp_0⟩ rfl rfl ⟨Nat.le_of_ble_eq_true rfl, Nat.le_of_ble_eq_true rfl⟩ hC (hSF s) (hAF K) ⟨hm, hls.1⟩ ⟨8, _, _, _, rfl, hm⟩ ⟨Nat.zero_le _, Nat.zero_le _⟩ hl.1 rfl rfl (Nat.le_of_ble_eq_true rfl) d_M_since_16 (fun r er => ?_)
      subst er
      refine lv_if_eq (tgt := 40) S.1 S.2.1 d_M_since_19 (by decide) (fun hbr7 => ?_) (fun hbr7 => ?_)
      · refine lv_iconst (v := (-1)) S.1 S.2.1 d_M_since_40 (by decide) ?_
        exact r_i S hr hk d_M_since_41 rfl
      · refine lv_iload_n S.1 S.2.1 d_M_since_22 rfl (lv_at hl 3 rfl) ?_
        refine lv_iload_n S.1 S.2.1 d_M_since_23 rfl (lv_at hl 4 rfl) ?_
        refine kSi (rest := []) S (c_M_isPastInterval l x y) kc_M_isPastInterval ⟨q_370, q_371⟩ rfl rfl ⟨Nat.le_of_ble_eq_true rfl, Nat.le_of_ble_eq_true rfl⟩ hC (hSF s) (hAF K) trivial ⟨Nat.zero_le _, Nat.zero_le _⟩ hl.1 rfl rfl (Nat.le_of_ble_eq_true rfl) d_M_since_24 (fun r er => ?_)
        subst er
        refine lv_if_eq (tgt := 40) S.1 S.2.1 d_M_since_27 (by decide) (fun hbr8 => ?_) (fun hbr8 => ?_)
        · refine lv_iconst (v := (-1)) S.1 S.2.1 d_M_since_40 (by decide) ?_
          exact r_i S hr hk d_M_since_41 rfl
        · refine lv_aloadN S.1 S.2.1 d_M_since_30 (lv_at hl 1 rfl) ?_
          refine lv_ifnullN (tgt := 40) S.1 S.2.1 d_M_since_32 (by decide) ?_
          refine lv_iconst (v := (-1)) S.1 S.2.1 d_M_since_40 (by decide) ?_
          exact r_i S hr hk d_M_since_41 rfl
set_option maxHeartbeats 4000000 in
set_option maxRecDepth 100000 in
theorem c_M_until_n (l : Launch) {K : KT} {mon lst els lg tm pr : Nat} {wat md : Int32} {n cap : Nat} {fE : Nat → Option Nat} {kd wh fi se : Nat → Nat} {lo hi fr rg xr : Nat → Int32} {dc ad sa : Nat → Nat} {stt : Nat → Nat → Int64} {G : Int64} {N : Nat} {T : Nat → Int32} {Qp : Nat → Int64} (x y f f2 : Int32) (hno : ¬ (¬ f_M_mayMake wat n = 0 ∧ ¬ f_M_isInterval x y = 0 ∧ (∃ k, k < n ∧ f = nI k) ∧ (∃ k, k < n ∧ f2 = nI k))) : Met l y_M_until (Cond.code y_M_until b_M_until 7 (some Jvm.ClassFile.FieldType.int) :: WALL) { frames := 4, cells := 0, slots := 0, locals := 85 } (pc0 K [.ref mon, .int x, .int y, .int f, .int f2] (fun H => cw K mon lst els lg tm pr wat md n cap fE kd wh fi se lo hi fr rg xr dc ad sa stt G N T Qp H)) (vp_Si (fun r => r = -1)) 0 0 (fun _ => False) := by
  refine met0 (own := "MetricLogMonitor") (by decide) rfl (Nat.le_of_ble_eq_true rfl) (fun p e s m below meth c ls S hr hk hnm hC hH hl => ?_)
  obtain ⟨hm, hls, hg, ht, hq, hfm⟩ := hH
  have hl : lv_has ls 7 [(0, .ref mon), (1, .int x), (2, .int y), (3, .int f), (4, .int f2)] := hl
  refine lv_aload_n S.1 S.2.1 d_M_until_0 rfl (lv_at hl 0 rfl) ?_
  refine lv_iload_n S.1 S.2.1 d_M_until_1 rfl (lv_at hl 3 rfl) ?_
  refine kVq (rest := []) S (c_M_find l) kc_M_find ⟨q_281, q_283, qp_5⟩ rfl rfl ⟨Nat.le_of_ble_eq_true rfl, Nat.le_of_ble_eq_true rfl⟩ hC (hSF s) (hAF K) ⟨hm, hls⟩ ⟨8, _, _, _, rfl, hm⟩ ⟨Nat.zero_le _, Nat.zero_le _⟩ hl.1 rfl rfl (Nat.le_of_ble_eq_true rfl) d_M_until_2 (fun r er => ?_)
  rcases find_cs er with ⟨k1, hk1, ek1, e0⟩ | ⟨hn1, e0⟩
  · refine tpq e0 ?_
    refine lv_astore S.1 S.2.1 d_M_until_5 hl (by decide) rfl (fun ls hl => ?_)
    have hl : lv_has ls 7 [(5, .ref (ad k1)), (0, .ref mon), (1, .int x), (2, .int y), (3, .int f), (4, .int f2)] := hl
    refine lv_aload_n S.1 S.2.1 d_M_until_7 rfl (lv_at hl 1 rfl) ?_
    refine lv_iload S.1 S.2.1 d_M_until_8 (lv_at hl 5 rfl) ?_
    refine kVq (rest := []) S (c_M_find l) kc_M_find ⟨q_281, q_283, qp_5⟩ rfl rfl ⟨Nat.le_of_ble_eq_true rfl, Nat.le_of_ble_eq_true rfl⟩ hC (hSF s) (hAF K) ⟨hm, hls⟩ ⟨8, _, _, _, rfl, hm⟩ ⟨Nat.zero_le _, Nat.zero_le _⟩ hl.1 rfl rfl (Nat.le_of_ble_eq_true rfl) d_M_until_10 (fun r er => ?_)
    rcases find_cs er with ⟨k2, hk2, ek2, e0⟩ | ⟨hn2, e0⟩
    · refine tpq e0 ?_
      refine lv_astore S.1 S.2.1 d_M_until_13 hl (by decide) rfl (fun ls hl => ?_)
      have hl : lv_has ls 7 [(6, .ref (ad k2)), (5, .ref (ad k1)), (0, .ref mon), (1, .int x), (2, .int y), (3, .int f), (4, .int f2)] := hl
      refine lv_aload_n S.1 S.2.1 d_M_until_15 rfl (lv_at hl 2 rfl) ?_
      refine kVi (rest := []) S (c_M_mayMake l) kc_M_mayMake ⟨q_98, q_100, qp_0⟩ rfl rfl ⟨Nat.le_of_ble_eq_true rfl, Nat.le_of_ble_eq_true rfl⟩ hC (hSF s) (hAF K) ⟨hm, hls.1⟩ ⟨8, _, _, _, rfl, hm⟩ ⟨Nat.zero_le _, Nat.zero_le _⟩ hl.1 rfl rfl (Nat.le_of_ble_eq_true rfl) d_M_until_16 (fun r er => ?_)
      subst er
      refine lv_if_eq (tgt := 40) S.1 S.2.1 d_M_until_19 (by decide) (fun hbr1 => ?_) (fun hbr1 => ?_)
      · refine lv_iconst (v := (-1)) S.1 S.2.1 d_M_until_40 (by decide) ?_
        exact r_i S hr hk d_M_until_41 rfl
      · refine lv_iload_n S.1 S.2.1 d_M_until_22 rfl (lv_at hl 3 rfl) ?_
        refine lv_iload_n S.1 S.2.1 d_M_until_23 rfl (lv_at hl 4 rfl) ?_
        refine kSi (rest := []) S (c_M_isInterval l x y) kc_M_isInterval ⟨q_377, q_378⟩ rfl rfl ⟨Nat.le_of_ble_eq_true rfl, Nat.le_of_ble_eq_true rfl⟩ hC (hSF s) (hAF K) trivial ⟨Nat.zero_le _, Nat.zero_le _⟩ hl.1 rfl rfl (Nat.le_of_ble_eq_true rfl) d_M_until_24 (fun r er => ?_)
        subst er
        refine lv_if_eq (tgt := 40) S.1 S.2.1 d_M_until_27 (by decide) (fun hbr2 => ?_) (fun hbr2 => ?_)
        · refine lv_iconst (v := (-1)) S.1 S.2.1 d_M_until_40 (by decide) ?_
          exact r_i S hr hk d_M_until_41 rfl
        · refine lv_aload S.1 S.2.1 d_M_until_30 (lv_at hl 1 rfl) ?_
          refine lv_ifnull S.1 S.2.1 d_M_until_32 ?_
          refine lv_aload S.1 S.2.1 d_M_until_35 (lv_at hl 0 rfl) ?_
          refine lv_ifnonnull (tgt := 42) S.1 S.2.1 d_M_until_37 (by decide) ?_
          refine lv_aload_n S.1 S.2.1 d_M_until_42 rfl (lv_at hl 2 rfl) ?_
          exact absurd ⟨hbr1, hbr2, ⟨k1, hk1, ek1⟩, ⟨k2, hk2, ek2⟩⟩ hno
    · refine tpq e0 ?_
      refine lv_astoreN S.1 S.2.1 d_M_until_13 hl (by decide) rfl (fun ls hl => ?_)
      have hl : lv_has ls 7 [(6, .null), (5, .ref (ad k1)), (0, .ref mon), (1, .int x), (2, .int y), (3, .int f), (4, .int f2)] := hl
      refine lv_aload_n S.1 S.2.1 d_M_until_15 rfl (lv_at hl 2 rfl) ?_
      refine kVi (rest := []) S (c_M_mayMake l) kc_M_mayMake ⟨q_98, q_100, qp_0⟩ rfl rfl ⟨Nat.le_of_ble_eq_true rfl, Nat.le_of_ble_eq_true rfl⟩ hC (hSF s) (hAF K) ⟨hm, hls.1⟩ ⟨8, _, _, _, rfl, hm⟩ ⟨Nat.zero_le _, Nat.zero_le _⟩ hl.1 rfl rfl (Nat.le_of_ble_eq_true rfl) d_M_until_16 (fun r er => ?_)
      subst er
      refine lv_if_eq (tgt := 40) S.1 S.2.1 d_M_until_19 (by decide) (fun hbr3 => ?_) (fun hbr3 => ?_)
      · refine lv_iconst (v := (-1)) S.1 S.2.1 d_M_until_40 (by decide) ?_
        exact r_i S hr hk d_M_until_41 rfl
      · refine lv_iload_n S.1 S.2.1 d_M_until_22 rfl (lv_at hl 3 rfl) ?_
        refine lv_iload_n S.1 S.2.1 d_M_until_23 rfl (lv_at hl 4 rfl) ?_
        refine kSi (rest := []) S (c_M_isInterval l x y) kc_M_isInterval ⟨q_377, q_378⟩ rfl rfl ⟨Nat.le_of_ble_eq_true rfl, Nat.le_of_ble_eq_true rfl⟩ hC (hSF s) (hAF K) trivial ⟨Nat.zero_le _, Nat.zero_le _⟩ hl.1 rfl rfl (Nat.le_of_ble_eq_true rfl) d_M_until_24 (fun r er => ?_)
        subst er
        refine lv_if_eq (tgt := 40) S.1 S.2.1 d_M_until_27 (by decide) (fun hbr4 => ?_) (fun hbr4 => ?_)
        · refine lv_iconst (v := (-1)) S.1 S.2.1 d_M_until_40 (by decide) ?_
          exact r_i S hr hk d_M_until_41 rfl
        · refine lv_aload S.1 S.2.1 d_M_until_30 (lv_at hl 1 rfl) ?_
          refine lv_ifnull S.1 S.2.1 d_M_until_32 ?_
          refine lv_aloadN S.1 S.2.1 d_M_until_35 (lv_at hl 0 rfl) ?_
          refine lv_ifnonnullN S.1 S.2.1 d_M_until_37 ?_
          refine lv_iconst (v := (-1)) S.1 S.2.1 d_M_until_40 (by decide) ?_
          exact r_i S hr hk d_M_until_41 rfl
  · refine tpq e0 ?_
    refine lv_astoreN S.1 S.2.1 d_M_until_5 hl (by decide) rfl (fun ls hl => ?_)
    have hl : lv_has ls 7 [(5, .null), (0, .ref mon), (1, .int x), (2, .int y), (3, .int f), (4, .int f2)] := hl
    refine lv_aload_n S.1 S.2.1 d_M_until_7 rfl (lv_at hl 1 rfl) ?_
    refine lv_iload S.1 S.2.1 d_M_until_8 (lv_at hl 5 rfl) ?_
    refine kVq (rest := []) S (c_M_find l) kc_M_find ⟨q_281, q_283, qp_5⟩ rfl rfl ⟨Nat.le_of_ble_eq_true rfl, Nat.le_of_ble_eq_true rfl⟩ hC (hSF s) (hAF K) ⟨hm, hls⟩ ⟨8, _, _, _, rfl, hm⟩ ⟨Nat.zero_le _, Nat.zero_le _⟩ hl.1 rfl rfl (Nat.le_of_ble_eq_true rfl) d_M_until_10 (fun r er => ?_)
    rcases find_cs er with ⟨k3, hk3, ek3, e0⟩ | ⟨hn3, e0⟩
    · refine tpq e0 ?_
      refine lv_astore S.1 S.2.1 d_M_until_13 hl (by decide) rfl (fun ls hl => ?_)
      have hl : lv_has ls 7 [(6, .ref (ad k3)), (5, .null), (0, .ref mon), (1, .int x), (2, .int y), (3, .int f), (4, .int f2)] := hl
      refine lv_aload_n S.1 S.2.1 d_M_until_15 rfl (lv_at hl 2 rfl) ?_
      refine kVi (rest := []) S (c_M_mayMake l) kc_M_mayMake ⟨q_98, q_100, qp_0⟩ rfl rfl ⟨Nat.le_of_ble_eq_true rfl, Nat.le_of_ble_eq_true rfl⟩ hC (hSF s) (hAF K) ⟨hm, hls.1⟩ ⟨8, _, _, _, rfl, hm⟩ ⟨Nat.zero_le _, Nat.zero_le _⟩ hl.1 rfl rfl (Nat.le_of_ble_eq_true rfl) d_M_until_16 (fun r er => ?_)
      subst er
      refine lv_if_eq (tgt := 40) S.1 S.2.1 d_M_until_19 (by decide) (fun hbr5 => ?_) (fun hbr5 => ?_)
      · refine lv_iconst (v := (-1)) S.1 S.2.1 d_M_until_40 (by decide) ?_
        exact r_i S hr hk d_M_until_41 rfl
      · refine lv_iload_n S.1 S.2.1 d_M_until_22 rfl (lv_at hl 3 rfl) ?_
        refine lv_iload_n S.1 S.2.1 d_M_until_23 rfl (lv_at hl 4 rfl) ?_
        refine kSi (rest := []) S (c_M_isInterval l x y) kc_M_isInterval ⟨q_377, q_378⟩ rfl rfl ⟨Nat.le_of_ble_eq_true rfl, Nat.le_of_ble_eq_true rfl⟩ hC (hSF s) (hAF K) trivial ⟨Nat.zero_le _, Nat.zero_le _⟩ hl.1 rfl rfl (Nat.le_of_ble_eq_true rfl) d_M_until_24 (fun r er => ?_)
        subst er
        refine lv_if_eq (tgt := 40) S.1 S.2.1 d_M_until_27 (by decide) (fun hbr6 => ?_) (fun hbr6 => ?_)
        · refine lv_iconst (v := (-1)) S.1 S.2.1 d_M_until_40 (by decide) ?_
          exact r_i S hr hk d_M_until_41 rfl
        · refine lv_aloadN S.1 S.2.1 d_M_until_30 (lv_at hl 1 rfl) ?_
          refine lv_ifnullN (tgt := 40) S.1 S.2.1 d_M_until_32 (by decide) ?_
          refine lv_iconst (v := (-1)) S.1 S.2.1 d_M_until_40 (by decide) ?_
          exact r_i S hr hk d_M_until_41 rfl
    · refine tpq e0 ?_
      refine lv_astoreN S.1 S.2.1 d_M_until_13 hl (by decide) rfl (fun ls hl => ?_)
      have hl : lv_has ls 7 [(6, .null), (5, .null), (0, .ref mon), (1, .int x), (2, .int y), (3, .int f), (4, .int f2)] := hl
      refine lv_aload_n S.1 S.2.1 d_M_until_15 rfl (lv_at hl 2 rfl) ?_
      refine kVi (rest := []) S (c_M_mayMake l) kc_M_mayMake ⟨q_98, q_100, qp_0⟩ rfl rfl ⟨Nat.le_of_ble_eq_true rfl, Nat.le_of_ble_eq_true rfl⟩ hC (hSF s) (hAF K) ⟨hm, hls.1⟩ ⟨8, _, _, _, rfl, hm⟩ ⟨Nat.zero_le _, Nat.zero_le _⟩ hl.1 rfl rfl (Nat.le_of_ble_eq_true rfl) d_M_until_16 (fun r er => ?_)
      subst er
      refine lv_if_eq (tgt := 40) S.1 S.2.1 d_M_until_19 (by decide) (fun hbr7 => ?_) (fun hbr7 => ?_)
      · refine lv_iconst (v := (-1)) S.1 S.2.1 d_M_until_40 (by decide) ?_
        exact r_i S hr hk d_M_until_41 rfl
      · refine lv_iload_n S.1 S.2.1 d_M_until_22 rfl (lv_at hl 3 rfl) ?_
        refine lv_iload_n S.1 S.2.1 d_M_until_23 rfl (lv_at hl 4 rfl) ?_
        refine kSi (rest := []) S (c_M_isInterval l x y) kc_M_isInterval ⟨q_377, q_378⟩ rfl rfl ⟨Nat.le_of_ble_eq_true rfl, Nat.le_of_ble_eq_true rfl⟩ hC (hSF s) (hAF K) trivial ⟨Nat.zero_le _, Nat.zero_le _⟩ hl.1 rfl rfl (Nat.le_of_ble_eq_true rfl) d_M_until_24 (fun r er => ?_)
        subst er
        refine lv_if_eq (tgt := 40) S.1 S.2.1 d_M_until_27 (by decide) (fun hbr8 => ?_) (fun hbr8 => ?_)
        · refine lv_iconst (v := (-1)) S.1 S.2.1 d_M_until_40 (by decide) ?_
          exact r_i S hr hk d_M_until_41 rfl
        · refine lv_aloadN S.1 S.2.1 d_M_until_30 (lv_at hl 1 rfl) ?_
          refine lv_ifnullN (tgt := 40) S.1 S.2.1 d_M_until_32 (by decide) ?_
          refine lv_iconst (v := (-1)) S.1 S.2.1 d_M_until_40 (by decide) ?_
          exact r_i S hr hk d_M_until_41 rfl
