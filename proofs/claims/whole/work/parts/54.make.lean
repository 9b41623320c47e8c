/-! the making calls of the class: done (_y), refused (_n) -/
section
variable {K : KT} {mon lst els lg tm pr : Nat} {wat md : Int32} {n cap : Nat} {fE : Nat → Option Nat} {kd wh fi se : Nat → Nat} {lo hi fr rg xr : Nat → Int32} {dc ad sa : Nat → Nat} {stt : Nat → Nat → Int64} {G : Int64} {N : Nat} {T : Nat → Int32} {Qp : Nat → Int64} {H H1 : Heap}
theorem cw_all (h : cw K mon lst els lg tm pr wat md n cap fE kd wh fi se lo hi fr rg xr dc ad sa stt G N T Qp H) (hk : ∀ q : Nat, q < H.size → H1[q]? = H[q]?) : cw K mon lst els lg tm pr wat md n cap fE kd wh fi se lo hi fr rg xr dc ad sa stt G N T Qp H1 := by
  obtain ⟨hm, hls, hlg, ht, hq, hfm⟩ := h
  have hfm' : ∀ j, j < n → fmk K kd wh fi se lo hi fr rg xr dc ad sa stt H1 j := fun j hj => ⟨(hfm j hj).1.nw hk, (hfm j hj).2.nw hk⟩
  exact ⟨hm.nw hk, ⟨hls.1.nw hk, hls.2.1, hls.2.2.1, fun hc => (hls.2.2.2.1 hc).nw hk, fun k hkn => ⟨(hls.2.2.2.2 k hkn).1, fm_ex (hfm' k hkn)⟩⟩, hlg.nw hk, ht.nw hk, hq.nw hk, hfm'⟩
end
theorem find_cs {n : Nat} {ad : Nat → Nat} {f : Int32} {r : Option Nat} (h : (∀ k, k < n → f = nI k → r = some (ad k)) ∧ ((∀ k, k < n → ¬ f = nI k) → r = none)) : (∃ k, k < n ∧ f = nI k ∧ r = some (ad k)) ∨ ((∀ k, k < n → ¬ f = nI k) ∧ r = none) := by
  by_cases c : ∃ k, k < n ∧ f = nI k
  · obtain ⟨k, hk, e⟩ := c
    exact Or.inl ⟨k, hk, e, h.1 k hk e⟩
  · have c2 : ∀ k, k < n → ¬ f = nI k := fun k hk e => c ⟨k, hk, e⟩
    exact Or.inr ⟨c2, h.2 c2⟩
set_option maxHeartbeats 4000000 in
set_option maxRecDepth 100000 in
theorem c_M_atom_y (l : Launch) {K : KT} {sz : Nat} {mon lst els lg tm pr : Nat} {wat md : Int32} {n cap : Nat} {fE : Nat → Option Nat} {kd wh fi se : Nat → Nat} {lo hi fr rg xr : Nat → Int32} {dc ad sa : Nat → Nat} {stt : Nat → Nat → Int64} {G : Int64} {N : Nat} {T : Nat → Int32} {Qp : Nat → Int64} (hD : dst K mon lst els lg tm pr ad sa n cap) (hV : tabOk kd wh fi se lo hi n) (hlt : ∀ i, i < 6 + 2 * n → ca mon lst els lg tm pr ad sa i < sz) (hyes : ¬ f_M_mayMake wat n = 0) (hcase : n < cap ∨ (n = 0 ∧ cap = 0) ∨ (n = 10 ∧ cap = 10)) (r0 a b2 : Nat) (hr0 : ¬ f_M_isRelation (nI r0) = 0) (ht_a : ¬ f_M_isTerm (nI a) = 0) (ht_b2 : ¬ f_M_isTerm (nI b2) = 0) : Met l y_M_atom (Cond.code y_M_atom b_M_atom 4 (some Jvm.ClassFile.FieldType.int) :: WALL) { frames := 8, cells := 3, slots := 47, locals := 192 } (pc0 K [.ref mon, .int (nI r0), .int (nI a), .int (nI b2)] (fun H => H.size = sz ∧ cw K mon lst els lg tm pr wat md n cap fE kd wh fi se lo hi fr rg xr dc ad sa stt G N T Qp H)) (va_Qi (fun r H => r = nI n ∧ ∃ els2 cap2 g, cw K mon lst els2 lg tm pr wat (md + 1) (n + 1) cap2 g (va_up kd n 0) (va_up wh n r0) (va_up fi n a) (va_up se n b2) (va_up lo n 0) (va_up hi n (-1)) (va_up fr n (f_M_variablesAmong (nI a) (nI b2))) (va_up rg n (f_M_variablesAmong (nI a) (nI b2))) (va_up xr n 1) (va_up dc n 0) (va_up ad n sz) (va_up sa n (sz + 1)) (va_up stt n (fun _ => 0)) G N T Qp H ∧ (cap2 = cap ∨ cap2 = 10 ∨ cap2 = 15) ∧ ((els2 = els ∧ cap2 = cap) ∨ els2 = sz + 2)) (fun u t => t.heap = u) (fun q => q = lst ∨ (0 < cap ∧ q = els) ∨ sz ≤ q)) 3 47 (fun q => q = lst ∨ (0 < cap ∧ q = els) ∨ sz ≤ q) := by
  refine met0 (own := "MetricLogMonitor") (by decide) rfl (Nat.le_of_ble_eq_true rfl) (fun p e s m below meth c ls S hr hk hnm hC hH hl => ?_)
  have hl : lv_has ls 4 [(0, .ref mon), (1, .int (nI r0)), (2, .int (nI a)), (3, .int (nI b2))] := hl
  have hS : va_S (fun q => q = lst ∨ (0 < cap ∧ q = els) ∨ sz ≤ q) s.heap s.heap [] := va_S.rf
  have hA : ∀ q, (fun q => q = lst ∨ (0 < cap ∧ q = els) ∨ sz ≤ q) q → kz K ≤ q := fun q h => h.elim (fun z => by rw [z]; exact hD.2.1 1 (by omega) (by omega)) (fun h => h.elim (fun z => by rw [z.2]; exact hD.2.2.1 z.1) (fun z => by have := hC.2.2.2.2.2.2.1; omega))
  obtain ⟨hsz, hH⟩ := hH
  obtain ⟨hm, hls, hg, ht, hq, hfm⟩ := hH
  have hH : cw K mon lst els lg tm pr wat md n cap fE kd wh fi se lo hi fr rg xr dc ad sa stt G N T Qp s.heap := ⟨hm, hls, hg, ht, hq, hfm⟩
  refine lv_aload_n S.1 S.2.1 d_M_atom_0 rfl (lv_at hl 0 rfl) ?_
  refine kVi (rest := []) S (c_M_mayMake l) kc_M_mayMake ⟨q_98, q_100, qp_0⟩ rfl rfl ⟨Nat.le_of_ble_eq_true rfl, Nat.le_of_ble_eq_true rfl⟩ hC hS hA ⟨hm, hls.1⟩ ⟨8, _, _, _, rfl, hm⟩ ⟨Nat.zero_le _, Nat.zero_le _⟩ hl.1 rfl rfl (Nat.le_of_ble_eq_true rfl) d_M_atom_1 (fun r er => ?_)
  subst er
  refine lv_if_eq (tgt := 28) S.1 S.2.1 d_M_atom_4 (by decide) (fun hx9 => absurd hx9 hyes) (fun _ => ?_)
  refine lv_iload_n S.1 S.2.1 d_M_atom_7 rfl (lv_at hl 1 rfl) ?_
  refine kSi (rest := []) S (c_M_isRelation l (nI r0)) kc_M_isRelation ⟨q_106, q_107⟩ rfl rfl ⟨Nat.le_of_ble_eq_true rfl, Nat.le_of_ble_eq_true rfl⟩ hC hS hA trivial ⟨Nat.zero_le _, Nat.zero_le _⟩ hl.1 rfl rfl (Nat.le_of_ble_eq_true rfl) d_M_atom_8 (fun r er => ?_)
  subst er
  refine lv_if_eq (tgt := 28) S.1 S.2.1 d_M_atom_11 (by decide) (fun hx9 => absurd hx9 hr0) (fun _ => ?_)
  refine lv_iload_n S.1 S.2.1 d_M_atom_14 rfl (lv_at hl 2 rfl) ?_
  refine kSi (rest := []) S (c_M_isTerm l (nI a)) kc_M_isTerm ⟨q_109, q_110⟩ rfl rfl ⟨Nat.le_of_ble_eq_true rfl, Nat.le_of_ble_eq_true rfl⟩ hC hS hA trivial ⟨Nat.zero_le _, Nat.zero_le _⟩ hl.1 rfl rfl (Nat.le_of_ble_eq_true rfl) d_M_atom_15 (fun r er => ?_)
  subst er
  refine lv_if_eq (tgt := 28) S.1 S.2.1 d_M_atom_18 (by decide) (fun hx9 => absurd hx9 ht_a) (fun _ => ?_)
  refine lv_iload_n S.1 S.2.1 d_M_atom_21 rfl (lv_at hl 3 rfl) ?_
  refine kSi (rest := []) S (c_M_isTerm l (nI b2)) kc_M_isTerm ⟨q_109, q_110⟩ rfl rfl ⟨Nat.le_of_ble_eq_true rfl, Nat.le_of_ble_eq_true rfl⟩ hC hS hA trivial ⟨Nat.zero_le _, Nat.zero_le _⟩ hl.1 rfl rfl (Nat.le_of_ble_eq_true rfl) d_M_atom_22 (fun r er => ?_)
  subst er
  refine lv_if_ne (tgt := 30) S.1 S.2.1 d_M_atom_25 (by decide) (fun _ => ?_) (fun hx9 => absurd hx9 ht_b2)
  refine lv_aload_n S.1 S.2.1 d_M_atom_30 rfl (lv_at hl 0 rfl) ?_
  refine f_new (A := fun q => q = lst ∨ (0 < cap ∧ q = els) ∨ sz ≤ q) (ci := 0) (fs := [.int 0, .int 0, .int 0, .int 0, .null, .int 0, .int 0, .int 0]) (C := "MetricLogMonitor$Atom") (T := F_Atom) (N := 8) S hC kf_Atom t_Atom (by decide +kernel) q_118 q_119 q_8 hS rfl (fun j hj => by rcases (show j = 0 ∨ j = 1 ∨ j = 2 ∨ j = 3 ∨ j = 4 ∨ j = 5 ∨ j = 6 ∨ j = 7 by omega) with rfl | rfl | rfl | rfl | rfl | rfl | rfl | rfl <;> rfl) (Nat.le_of_ble_eq_true rfl) (Nat.le_of_ble_eq_true rfl) d_M_atom_31 (fun q H hq0 hb o1 hz hS => ?_)
  have hq9 : q = sz := hq0.trans hsz
  clear hq0
  subst q
  have hsz1 : H.size = sz + 1 := by omega
  refine lv_dup S.1 S.2.1 d_M_atom_34 rfl ?_
  refine lv_iload_n S.1 S.2.1 d_M_atom_35 rfl (lv_at hl 1 rfl) ?_
  refine lv_iload_n S.1 S.2.1 d_M_atom_36 rfl (lv_at hl 2 rfl) ?_
  refine lv_iload_n S.1 S.2.1 d_M_atom_37 rfl (lv_at hl 3 rfl) ?_
  refine kw_v (A := fun q => q = lst ∨ (0 < cap ∧ q = els) ∨ sz ≤ q) (k_I (rest := [.ref sz, .ref mon]) S (c_Atom_init (b := sz) (sz := sz + 1) l (by have := hC.2.2.2.2.2.2.1; omega) (nI r0) (nI a) (nI b2)) kc_Atom_init ⟨q_120, q_121⟩ rfl rfl rfl ⟨Nat.le_of_ble_eq_true rfl, Nat.le_of_ble_eq_true rfl⟩ hC hS hA ⟨hsz1, hb⟩ rfl hl.1 rfl (Nat.le_of_ble_eq_true rfl) ⟨(Nat.le_of_ble_eq_true rfl), (Nat.le_of_ble_eq_true rfl)⟩ d_M_atom_38) hS (fun q h => Or.inr (Or.inr (h.elim (fun z => by rw [z]; exact Nat.le_refl _) (fun z => by omega)))) (fun H locs er hz hkp hS => ?_)
  obtain ⟨hsz2, hb, hsa⟩ := er
  have hw2 := cw_all (H1 := H) hH (fun q hq => (hkp q (by omega) (fun z => z.elim (by omega) (by omega))).trans (o1 q hq))
  obtain ⟨hm2, hls2, -, -, -, -⟩ := hw2
  refine kw_i (A := fun q => q = lst ∨ (0 < cap ∧ q = els) ∨ sz ≤ q) (k_V (rest := []) S (c_M_add (sz := sz + 2) (ad := ad) l (by decide) hD.2.2.2 hD.2.2.1 (hD.2.1 1 (by omega) (by omega)) (hD.fix (i := 1) (j := 2) (by omega) (by omega) (by omega)) (fun z => by have := hlt 1 (by omega); have e1 : ca mon lst els lg tm pr ad sa 1 = lst := rfl; omega) (fun z => by have := hlt 2 (by omega); have e1 : ca mon lst els lg tm pr ad sa 2 = els := rfl; omega) (fun k hk z => hD.fad (i := 1) (by omega) hk z.symm) hcase (hD.fix (i := 0) (j := 1) (by omega) (by omega) (by omega)) (hD.fix (i := 0) (j := 2) (by omega) (by omega) (by omega))) kc_M_add ⟨q_184, q_186, qp_1⟩ rfl rfl ⟨Nat.le_of_ble_eq_true rfl, Nat.le_of_ble_eq_true rfl⟩ hC hS hA ⟨hm2, hsz2, hls2, hb⟩ ⟨8, _, _, _, rfl, hm2⟩ rfl hl.1 rfl (Nat.le_of_ble_eq_true rfl) ⟨(Nat.le_of_ble_eq_true rfl), (Nat.le_of_ble_eq_true rfl)⟩ d_M_atom_41) hS (fun q h => h.elim Or.inl (fun h => h.elim (fun z => Or.inr (Or.inl z)) (fun z => Or.inr (Or.inr (by omega))))) (fun r H locs er hz hkp hS => ?_)
  obtain ⟨er0, -, els2, cap2, g, ha, he, hg1, hg2, hc1, hcp, hc2, hor⟩ := er
  have nA : ∀ y, sz ≤ y → y < sz + 2 → ¬ (y = lst ∨ (0 < cap ∧ y = els) ∨ sz + 2 ≤ y) := fun y h1 h2 z => z.elim (fun z => by have := hlt 1 (by omega); have e1 : ca mon lst els lg tm pr ad sa 1 = lst := rfl; omega) (fun z => z.elim (fun z => by have := hlt 2 (by omega); have e1 : ca mon lst els lg tm pr ad sa 2 = els := rfl; omega) (by omega))
  have hb := hb.cl hkp (nA sz (Nat.le_refl _) (by omega))
  have hsa := hsa.cl hkp (nA (sz + 1) (by omega) (by omega))
  exact rw_i S hr hk hS d_M_atom_44 ⟨er0, els2, cap2, g, cw_new hH hV hD (agn_up 0 r0 a b2 0 (-1) (f_M_variablesAmong (nI a) (nI b2)) (f_M_variablesAmong (nI a) (nI b2)) 1 0 sz (sz + 1) (fun _ => 0)) (fun q h1 h2 => hS.2.1 q h1 (fun z => z.elim (fun z => h2 (Or.inl z)) (fun z => z.elim (fun z => h2 (Or.inr z)) (by omega)))) ha he hg1 (by rw [va_up_self]; exact hg2) hc1 hc2 (by rw [fo_0 (va_up_self kd n 0)]; simp only [va_up_self]; exact hb) (by rw [va_up_self, va_up_self]; exact hsa), hcp, hor⟩
set_option maxHeartbeats 4000000 in
set_option maxRecDepth 100000 in
theorem c_M_compare_ye (l : Launch) {K : KT} {sz : Nat} {mon lst els lg tm pr : Nat} {wat md : Int32} {n cap : Nat} {fE : Nat → Option Nat} {kd wh fi se : Nat → Nat} {lo hi fr rg xr : Nat → Int32} {dc ad sa : Nat → Nat} {stt : Nat → Nat → Int64} {G : Int64} {N : Nat} {T : Nat → Int32} {Qp : Nat → Int64} (hD : dst K mon lst els lg tm pr ad sa n cap) (hV : tabOk kd wh fi se lo hi n) (hlt : ∀ i, i < 6 + 2 * n → ca mon lst els lg tm pr ad sa i < sz) (hyes : ¬ f_M_mayMake wat n = 0) (hcase : n < cap ∨ (n = 0 ∧ cap = 0) ∨ (n = 10 ∧ cap = 10)) (a b2 : Nat) (ht_a : ¬ f_M_isTerm (nI a) = 0) (ht_b2 : ¬ f_M_isTerm (nI b2) = 0) : Met l y_M_compare (Cond.code y_M_compare b_M_compare 4 (some Jvm.ClassFile.FieldType.int) :: WALL) { frames := 8, cells := 3, slots := 47, locals := 192 } (pc0 K [.ref mon, .int 0, .int (nI a), .int (nI b2)] (fun H => H.size = sz ∧ cw K mon lst els lg tm pr wat md n cap fE kd wh fi se lo hi fr rg xr dc ad sa stt G N T Qp H)) (va_Qi (fun r H => r = nI n ∧ ∃ els2 cap2 g, cw K mon lst els2 lg tm pr wat (md + 1) (n + 1) cap2 g (va_up kd n 1) (va_up wh n 0) (va_up fi n a) (va_up se n b2) (va_up lo n 0) (va_up hi n (-1)) (va_up fr n (f_M_variablesAmong (nI a) (nI b2))) (va_up rg n (f_Comp_rangedBy 0 (nI a) (nI b2))) (va_up xr n 1) (va_up dc n 0) (va_up ad n sz) (va_up sa n (sz + 1)) (va_up stt n (fun _ => 0)) G N T Qp H ∧ (cap2 = cap ∨ cap2 = 10 ∨ cap2 = 15) ∧ ((els2 = els ∧ cap2 = cap) ∨ els2 = sz + 2)) (fun u t => t.heap = u) (fun q => q = lst ∨ (0 < cap ∧ q = els) ∨ sz ≤ q)) 3 47 (fun q => q = lst ∨ (0 < cap ∧ q = els) ∨ sz ≤ q) := by
  refine met0 (own := "MetricLogMonitor") (by decide) rfl (Nat.le_of_ble_eq_true rfl) (fun p e s m below meth c ls S hr hk hnm hC hH hl => ?_)
  have hl : lv_has ls 4 [(0, .ref mon), (1, .int 0), (2, .int (nI a)), (3, .int (nI b2))] := hl
  have hS : va_S (fun q => q = lst ∨ (0 < cap ∧ q = els) ∨ sz ≤ q) s.heap s.heap [] := va_S.rf
  have hA : ∀ q, (fun q => q = lst ∨ (0 < cap ∧ q = els) ∨ sz ≤ q) q → kz K ≤ q := fun q h => h.elim (fun z => by rw [z]; exact hD.2.1 1 (by omega) (by omega)) (fun h => h.elim (fun z => by rw [z.2]; exact hD.2.2.1 z.1) (fun z => by have := hC.2.2.2.2.2.2.1; omega))
  obtain ⟨hsz, hH⟩ := hH
  obtain ⟨hm, hls, hg, ht, hq, hfm⟩ := hH
  have hH : cw K mon lst els lg tm pr wat md n cap fE kd wh fi se lo hi fr rg xr dc ad sa stt G N T Qp s.heap := ⟨hm, hls, hg, ht, hq, hfm⟩
  refine lv_aload_n S.1 S.2.1 d_M_compare_0 rfl (lv_at hl 0 rfl) ?_
  refine kVi (rest := []) S (c_M_mayMake l) kc_M_mayMake ⟨q_98, q_100, qp_0⟩ rfl rfl ⟨Nat.le_of_ble_eq_true rfl, Nat.le_of_ble_eq_true rfl⟩ hC hS hA ⟨hm, hls.1⟩ ⟨8, _, _, _, rfl, hm⟩ ⟨Nat.zero_le _, Nat.zero_le _⟩ hl.1 rfl rfl (Nat.le_of_ble_eq_true rfl) d_M_compare_1 (fun r er => ?_)
  subst er
  refine lv_if_eq (tgt := 21) S.1 S.2.1 d_M_compare_4 (by decide) (fun hx9 => absurd hx9 hyes) (fun _ => ?_)
  refine lv_iload_n S.1 S.2.1 d_M_compare_7 rfl (lv_at hl 2 rfl) ?_
  refine kSi (rest := []) S (c_M_isTerm l (nI a)) kc_M_isTerm ⟨q_109, q_110⟩ rfl rfl ⟨Nat.le_of_ble_eq_true rfl, Nat.le_of_ble_eq_true rfl⟩ hC hS hA trivial ⟨Nat.zero_le _, Nat.zero_le _⟩ hl.1 rfl rfl (Nat.le_of_ble_eq_true rfl) d_M_compare_8 (fun r er => ?_)
  subst er
  refine lv_if_eq (tgt := 21) S.1 S.2.1 d_M_compare_11 (by decide) (fun hx9 => absurd hx9 ht_a) (fun _ => ?_)
  refine lv_iload_n S.1 S.2.1 d_M_compare_14 rfl (lv_at hl 3 rfl) ?_
  refine kSi (rest := []) S (c_M_isTerm l (nI b2)) kc_M_isTerm ⟨q_109, q_110⟩ rfl rfl ⟨Nat.le_of_ble_eq_true rfl, Nat.le_of_ble_eq_true rfl⟩ hC hS hA trivial ⟨Nat.zero_le _, Nat.zero_le _⟩ hl.1 rfl rfl (Nat.le_of_ble_eq_true rfl) d_M_compare_15 (fun r er => ?_)
  subst er
  refine lv_if_ne (tgt := 23) S.1 S.2.1 d_M_compare_18 (by decide) (fun _ => ?_) (fun hx9 => absurd hx9 ht_b2)
  refine lv_aload_n S.1 S.2.1 d_M_compare_23 rfl (lv_at hl 0 rfl) ?_
  refine f_new (A := fun q => q = lst ∨ (0 < cap ∧ q = els) ∨ sz ≤ q) (ci := 1) (fs := [.int 0, .int 0, .int 0, .int 0, .null, .int 0, .int 0, .int 0]) (C := "MetricLogMonitor$Comparison") (T := F_Comp) (N := 8) S hC kf_Comp t_Comp (by decide +kernel) q_251 q_252 q_13 hS rfl (fun j hj => by rcases (show j = 0 ∨ j = 1 ∨ j = 2 ∨ j = 3 ∨ j = 4 ∨ j = 5 ∨ j = 6 ∨ j = 7 by omega) with rfl | rfl | rfl | rfl | rfl | rfl | rfl | rfl <;> rfl) (Nat.le_of_ble_eq_true rfl) (Nat.le_of_ble_eq_true rfl) d_M_compare_24 (fun q H hq0 hb o1 hz hS => ?_)
  have hq9 : q = sz := hq0.trans hsz
  clear hq0
  subst q
  have hsz1 : H.size = sz + 1 := by omega
  refine lv_dup S.1 S.2.1 d_M_compare_27 rfl ?_
  refine lv_iload_n S.1 S.2.1 d_M_compare_28 rfl (lv_at hl 1 rfl) ?_
  refine lv_iload_n S.1 S.2.1 d_M_compare_29 rfl (lv_at hl 2 rfl) ?_
  refine lv_iload_n S.1 S.2.1 d_M_compare_30 rfl (lv_at hl 3 rfl) ?_
  refine kw_v (A := fun q => q = lst ∨ (0 < cap ∧ q = els) ∨ sz ≤ q) (k_I (rest := [.ref sz, .ref mon]) S (c_Comp_init (b := sz) (sz := sz + 1) l (by have := hC.2.2.2.2.2.2.1; omega) 0 (nI a) (nI b2) (Or.inl rfl)) kc_Comp_init ⟨q_253, q_254⟩ rfl rfl rfl ⟨Nat.le_of_ble_eq_true rfl, Nat.le_of_ble_eq_true rfl⟩ hC hS hA ⟨hsz1, hb⟩ rfl hl.1 rfl (Nat.le_of_ble_eq_true rfl) ⟨(Nat.le_of_ble_eq_true rfl), (Nat.le_of_ble_eq_true rfl)⟩ d_M_compare_31) hS (fun q h => Or.inr (Or.inr (h.elim (fun z => by rw [z]; exact Nat.le_refl _) (fun z => by omega)))) (fun H locs er hz hkp hS => ?_)
  obtain ⟨hsz2, hb, hsa⟩ := er
  have hw2 := cw_all (H1 := H) hH (fun q hq => (hkp q (by omega) (fun z => z.elim (by omega) (by omega))).trans (o1 q hq))
  obtain ⟨hm2, hls2, -, -, -, -⟩ := hw2
  refine kw_i (A := fun q => q = lst ∨ (0 < cap ∧ q = els) ∨ sz ≤ q) (k_V (rest := []) S (c_M_add (sz := sz + 2) (ad := ad) l (by decide) hD.2.2.2 hD.2.2.1 (hD.2.1 1 (by omega) (by omega)) (hD.fix (i := 1) (j := 2) (by omega) (by omega) (by omega)) (fun z => by have := hlt 1 (by omega); have e1 : ca mon lst els lg tm pr ad sa 1 = lst := rfl; omega) (fun z => by have := hlt 2 (by omega); have e1 : ca mon lst els lg tm pr ad sa 2 = els := rfl; omega) (fun k hk z => hD.fad (i := 1) (by omega) hk z.symm) hcase (hD.fix (i := 0) (j := 1) (by omega) (by omega) (by omega)) (hD.fix (i := 0) (j := 2) (by omega) (by omega) (by omega))) kc_M_add ⟨q_184, q_186, qp_1⟩ rfl rfl ⟨Nat.le_of_ble_eq_true rfl, Nat.le_of_ble_eq_true rfl⟩ hC hS hA ⟨hm2, hsz2, hls2, hb⟩ ⟨8, _, _, _, rfl, hm2⟩ rfl hl.1 rfl (Nat.le_of_ble_eq_true rfl) ⟨(Nat.le_of_ble_eq_true rfl), (Nat.le_of_ble_eq_true rfl)⟩ d_M_compare_34) hS (fun q h => h.elim Or.inl (fun h => h.elim (fun z => Or.inr (Or.inl z)) (fun z => Or.inr (Or.inr (by omega))))) (fun r H locs er hz hkp hS => ?_)
  obtain ⟨er0, -, els2, cap2, g, ha, he, hg1, hg2, hc1, hcp, hc2, hor⟩ := er
  have nA : ∀ y, sz ≤ y → y < sz + 2 → ¬ (y = lst ∨ (0 < cap ∧ y = els) ∨ sz + 2 ≤ y) := fun y h1 h2 z => z.elim (fun z => by have := hlt 1 (by omega); have e1 : ca mon lst els lg tm pr ad sa 1 = lst := rfl; omega) (fun z => z.elim (fun z => by have := hlt 2 (by omega); have e1 : ca mon lst els lg tm pr ad sa 2 = els := rfl; omega) (by omega))
  have hb := hb.cl hkp (nA sz (Nat.le_refl _) (by omega))
  have hsa := hsa.cl hkp (nA (sz + 1) (by omega) (by omega))
  exact rw_i S hr hk hS d_M_compare_37 ⟨er0, els2, cap2, g, cw_new hH hV hD (agn_up 1 0 a b2 0 (-1) (f_M_variablesAmong (nI a) (nI b2)) (f_Comp_rangedBy 0 (nI a) (nI b2)) 1 0 sz (sz + 1) (fun _ => 0)) (fun q h1 h2 => hS.2.1 q h1 (fun z => z.elim (fun z => h2 (Or.inl z)) (fun z => z.elim (fun z => h2 (Or.inr z)) (by omega)))) ha he hg1 (by rw [va_up_self]; exact hg2) hc1 hc2 (by rw [fo_1 (va_up_self kd n 1)]; simp only [va_up_self]; exact hb) (by rw [va_up_self, va_up_self]; exact hsa), hcp, hor⟩
set_option maxHeartbeats 4000000 in
set_option maxRecDepth 100000 in
theorem c_M_compare_yl (l : Launch) {K : KT} {sz : Nat} {mon lst els lg tm pr : Nat} {wat md : Int32} {n cap : Nat} {fE : Nat → Option Nat} {kd wh fi se : Nat → Nat} {lo hi fr rg xr : Nat → Int32} {dc ad sa : Nat → Nat} {stt : Nat → Nat → Int64} {G : Int64} {N : Nat} {T : Nat → Int32} {Qp : Nat → Int64} (hD : dst K mon lst els lg tm pr ad sa n cap) (hV : tabOk kd wh fi se lo hi n) (hlt : ∀ i, i < 6 + 2 * n → ca mon lst els lg tm pr ad sa i < sz) (hyes : ¬ f_M_mayMake wat n = 0) (hcase : n < cap ∨ (n = 0 ∧ cap = 0) ∨ (n = 10 ∧ cap = 10)) (a b2 : Nat) (ht_a : ¬ f_M_isTerm (nI a) = 0) (ht_b2 : ¬ f_M_isTerm (nI b2) = 0) : Met l y_M_compare (Cond.code y_M_compare b_M_compare 4 (some Jvm.ClassFile.FieldType.int) :: WALL) { frames := 8, cells := 3, slots := 47, locals := 192 } (pc0 K [.ref mon, .int 1, .int (nI a), .int (nI b2)] (fun H => H.size = sz ∧ cw K mon lst els lg tm pr wat md n cap fE kd wh fi se lo hi fr rg xr dc ad sa stt G N T Qp H)) (va_Qi (fun r H => r = nI n ∧ ∃ els2 cap2 g, cw K mon lst els2 lg tm pr wat (md + 1) (n + 1) cap2 g (va_up kd n 2) (va_up wh n 0) (va_up fi n a) (va_up se n b2) (va_up lo n 0) (va_up hi n (-1)) (va_up fr n (f_M_variablesAmong (nI a) (nI b2))) (va_up rg n (f_Comp_rangedBy 1 (nI a) (nI b2))) (va_up xr n 1) (va_up dc n 0) (va_up ad n sz) (va_up sa n (sz + 1)) (va_up stt n (fun _ => 0)) G N T Qp H ∧ (cap2 = cap ∨ cap2 = 10 ∨ cap2 = 15) ∧ ((els2 = els ∧ cap2 = cap) ∨ els2 = sz + 2)) (fun u t => t.heap = u) (fun q => q = lst ∨ (0 < cap ∧ q = els) ∨ sz ≤ q)) 3 47 (fun q => q = lst ∨ (0 < cap ∧ q = els) ∨ sz ≤ q) := by
  refine met0 (own := "MetricLogMonitor") (by decide) rfl (Nat.le_of_ble_eq_true rfl) (fun p e s m below meth c ls S hr hk hnm hC hH hl => ?_)
  have hl : lv_has ls 4 [(0, .ref mon), (1, .int 1), (2, .int (nI a)), (3, .int (nI b2))] := hl
  have hS : va_S (fun q => q = lst ∨ (0 < cap ∧ q = els) ∨ sz ≤ q) s.heap s.heap [] := va_S.rf
  have hA : ∀ q, (fun q => q = lst ∨ (0 < cap ∧ q = els) ∨ sz ≤ q) q → kz K ≤ q := fun q h => h.elim (fun z => by rw [z]; exact hD.2.1 1 (by omega) (by omega)) (fun h => h.elim (fun z => by rw [z.2]; exact hD.2.2.1 z.1) (fun z => by have := hC.2.2.2.2.2.2.1; omega))
  obtain ⟨hsz, hH⟩ := hH
  obtain ⟨hm, hls, hg, ht, hq, hfm⟩ := hH
  have hH : cw K mon lst els lg tm pr wat md n cap fE kd wh fi se lo hi fr rg xr dc ad sa stt G N T Qp s.heap := ⟨hm, hls, hg, ht, hq, hfm⟩
  refine lv_aload_n S.1 S.2.1 d_M_compare_0 rfl (lv_at hl 0 rfl) ?_
  refine kVi (rest := []) S (c_M_mayMake l) kc_M_mayMake ⟨q_98, q_100, qp_0⟩ rfl rfl ⟨Nat.le_of_ble_eq_true rfl, Nat.le_of_ble_eq_true rfl⟩ hC hS hA ⟨hm, hls.1⟩ ⟨8, _, _, _, rfl, hm⟩ ⟨Nat.zero_le _, Nat.zero_le _⟩ hl.1 rfl rfl (Nat.le_of_ble_eq_true rfl) d_M_compare_1 (fun r er => ?_)
  subst er
  refine lv_if_eq (tgt := 21) S.1 S.2.1 d_M_compare_4 (by decide) (fun hx9 => absurd hx9 hyes) (fun _ => ?_)
  refine lv_iload_n S.1 S.2.1 d_M_compare_7 rfl (lv_at hl 2 rfl) ?_
  refine kSi (rest := []) S (c_M_isTerm l (nI a)) kc_M_isTerm ⟨q_109, q_110⟩ rfl rfl ⟨Nat.le_of_ble_eq_true rfl, Nat.le_of_ble_eq_true rfl⟩ hC hS hA trivial ⟨Nat.zero_le _, Nat.zero_le _⟩ hl.1 rfl rfl (Nat.le_of_ble_eq_true rfl) d_M_compare_8 (fun r er => ?_)
  subst er
  refine lv_if_eq (tgt := 21) S.1 S.2.1 d_M_compare_11 (by decide) (fun hx9 => absurd hx9 ht_a) (fun _ => ?_)
  refine lv_iload_n S.1 S.2.1 d_M_compare_14 rfl (lv_at hl 3 rfl) ?_
  refine kSi (rest := []) S (c_M_isTerm l (nI b2)) kc_M_isTerm ⟨q_109, q_110⟩ rfl rfl ⟨Nat.le_of_ble_eq_true rfl, Nat.le_of_ble_eq_true rfl⟩ hC hS hA trivial ⟨Nat.zero_le _, Nat.zero_le _⟩ hl.1 rfl rfl (Nat.le_of_ble_eq_true rfl) d_M_compare_15 (fun r er => ?_)
  subst er
  refine lv_if_ne (tgt := 23) S.1 S.2.1 d_M_compare_18 (by decide) (fun _ => ?_) (fun hx9 => absurd hx9 ht_b2)
  refine lv_aload_n S.1 S.2.1 d_M_compare_23 rfl (lv_at hl 0 rfl) ?_
  refine f_new (A := fun q => q = lst ∨ (0 < cap ∧ q = els) ∨ sz ≤ q) (ci := 1) (fs := [.int 0, .int 0, .int 0, .int 0, .null, .int 0, .int 0, .int 0]) (C := "MetricLogMonitor$Comparison") (T := F_Comp) (N := 8) S hC kf_Comp t_Comp (by decide +kernel) q_251 q_252 q_13 hS rfl (fun j hj => by rcases (show j = 0 ∨ j = 1 ∨ j = 2 ∨ j = 3 ∨ j = 4 ∨ j = 5 ∨ j = 6 ∨ j = 7 by omega) with rfl | rfl | rfl | rfl | rfl | rfl | rfl | rfl <;> rfl) (Nat.le_of_ble_eq_true rfl) (Nat.le_of_ble_eq_true rfl) d_M_compare_24 (fun q H hq0 hb o1 hz hS => ?_)
  have hq9 : q = sz := hq0.trans hsz
  clear hq0
  subst q
  have hsz1 : H.size = sz + 1 := by omega
  refine lv_dup S.1 S.2.1 d_M_compare_27 rfl ?_
  refine lv_iload_n S.1 S.2.1 d_M_compare_28 rfl (lv_at hl 1 rfl) ?_
  refine lv_iload_n S.1 S.2.1 d_M_compare_29 rfl (lv_at hl 2 rfl) ?_
  refine lv_iload_n S.1 S.2.1 d_M_compare_30 rfl (lv_at hl 3 rfl) ?_
  refine kw_v (A := fun q => q = lst ∨ (0 < cap ∧ q = els) ∨ sz ≤ q) (k_I (rest := [.ref sz, .ref mon]) S (c_Comp_init (b := sz) (sz := sz + 1) l (by have := hC.2.2.2.2.2.2.1; omega) 1 (nI a) (nI b2) (Or.inr rfl)) kc_Comp_init ⟨q_253, q_254⟩ rfl rfl rfl ⟨Nat.le_of_ble_eq_true rfl, Nat.le_of_ble_eq_true rfl⟩ hC hS hA ⟨hsz1, hb⟩ rfl hl.1 rfl (Nat.le_of_ble_eq_true rfl) ⟨(Nat.le_of_ble_eq_true rfl), (Nat.le_of_ble_eq_true rfl)⟩ d_M_compare_31) hS (fun q h => Or.inr (Or.inr (h.elim (fun z => by rw [z]; exact Nat.le_refl _) (fun z => by omega)))) (fun H locs er hz hkp hS => ?_)
  obtain ⟨hsz2, hb, hsa⟩ := er
  have hw2 := cw_all (H1 := H) hH (fun q hq => (hkp q (by omega) (fun z => z.elim (by omega) (by omega))).trans (o1 q hq))
  obtain ⟨hm2, hls2, -, -, -, -⟩ := hw2
  refine kw_i (A := fun q => q = lst ∨ (0 < cap ∧ q = els) ∨ sz ≤ q) (k_V (rest := []) S (c_M_add (sz := sz + 2) (ad := ad) l (by decide) hD.2.2.2 hD.2.2.1 (hD.2.1 1 (by omega) (by omega)) (hD.fix (i := 1) (j := 2) (by omega) (by omega) (by omega)) (fun z => by have := hlt 1 (by omega); have e1 : ca mon lst els lg tm pr ad sa 1 = lst := rfl; omega) (fun z => by have := hlt 2 (by omega); have e1 : ca mon lst els lg tm pr ad sa 2 = els := rfl; omega) (fun k hk z => hD.fad (i := 1) (by omega) hk z.symm) hcase (hD.fix (i := 0) (j := 1) (by omega) (by omega) (by omega)) (hD.fix (i := 0) (j := 2) (by omega) (by omega) (by omega))) kc_M_add ⟨q_184, q_186, qp_1⟩ rfl rfl ⟨Nat.le_of_ble_eq_true rfl, Nat.le_of_ble_eq_true rfl⟩ hC hS hA ⟨hm2, hsz2, hls2, hb⟩ ⟨8, _, _, _, rfl, hm2⟩ rfl hl.1 rfl (Nat.le_of_ble_eq_true rfl) ⟨(Nat.le_of_ble_eq_true rfl), (Nat.le_of_ble_eq_true rfl)⟩ d_M_compare_34) hS (fun q h => h.elim Or.inl (fun h => h.elim (fun z => Or.inr (Or.inl z)) (fun z => Or.inr (Or.inr (by omega))))) (fun r H locs er hz hkp hS => ?_)
  obtain ⟨er0, -, els2, cap2, g, ha, he, hg1, hg2, hc1, hcp, hc2, hor⟩ := er
  have nA : ∀ y, sz ≤ y → y < sz + 2 → ¬ (y = lst ∨ (0 < cap ∧ y = els) ∨ sz + 2 ≤ y) := fun y h1 h2 z => z.elim (fun z => by have := hlt 1 (by omega); have e1 : ca mon lst els lg tm pr ad sa 1 = lst := rfl; omega) (fun z => z.elim (fun z => by have := hlt 2 (by omega); have e1 : ca mon lst els lg tm pr ad sa 2 = els := rfl; omega) (by omega))
  have hb := hb.cl hkp (nA sz (Nat.le_refl _) (by omega))
  have hsa := hsa.cl hkp (nA (sz + 1) (by omega) (by omega))
  exact rw_i S hr hk hS d_M_compare_37 ⟨er0, els2, cap2, g, cw_new hH hV hD (agn_up 2 0 a b2 0 (-1) (f_M_variablesAmong (nI a) (nI b2)) (f_Comp_rangedBy 1 (nI a) (nI b2)) 1 0 sz (sz + 1) (fun _ => 0)) (fun q h1 h2 => hS.2.1 q h1 (fun z => z.elim (fun z => h2 (Or.inl z)) (fun z => z.elim (fun z => h2 (Or.inr z)) (by omega)))) ha he hg1 (by rw [va_up_self]; exact hg2) hc1 hc2 (by rw [fo_2 (va_up_self kd n 2)]; simp only [va_up_self]; exact hb) (by rw [va_up_self, va_up_self]; exact hsa), hcp, hor⟩
set_option maxHeartbeats 4000000 in
set_option maxRecDepth 100000 in
theorem c_M_not_y (l : Launch) {K : KT} {sz : Nat} {mon lst els lg tm pr : Nat} {wat md : Int32} {n cap : Nat} {fE : Nat → Option Nat} {kd wh fi se : Nat → Nat} {lo hi fr rg xr : Nat → Int32} {dc ad sa : Nat → Nat} {stt : Nat → Nat → Int64} {G : Int64} {N : Nat} {T : Nat → Int32} {Qp : Nat → Int64} (hD : dst K mon lst els lg tm pr ad sa n cap) (hV : tabOk kd wh fi se lo hi n) (hlt : ∀ i, i < 6 + 2 * n → ca mon lst els lg tm pr ad sa i < sz) (hyes : ¬ f_M_mayMake wat n = 0) (hcase : n < cap ∨ (n = 0 ∧ cap = 0) ∨ (n = 10 ∧ cap = 10)) {k : Nat} (hkn : k < n) (hx01 : ∀ j, j < n → xr j = 0 ∨ xr j = 1)  : Met l y_M_not (Cond.code y_M_not b_M_not 3 (some Jvm.ClassFile.FieldType.int) :: WALL) { frames := 8, cells := 3, slots := 45, locals := 192 } (pc0 K [.ref mon, .int (nI k)] (fun H => H.size = sz ∧ cw K mon lst els lg tm pr wat md n cap fE kd wh fi se lo hi fr rg xr dc ad sa stt G N T Qp H)) (va_Qi (fun r H => r = nI n ∧ ∃ els2 cap2 g, cw K mon lst els2 lg tm pr wat (md + 1) (n + 1) cap2 g (va_up kd n 3) (va_up wh n 0) (va_up fi n k) (va_up se n k) (va_up lo n 0) (va_up hi n (-1)) (va_up fr n (fr k)) (va_up rg n 0) (va_up xr n (xr k)) (va_up dc n 0) (va_up ad n sz) (va_up sa n (sz + 1)) (va_up stt n (fun _ => 0)) G N T Qp H ∧ (cap2 = cap ∨ cap2 = 10 ∨ cap2 = 15) ∧ ((els2 = els ∧ cap2 = cap) ∨ els2 = sz + 2)) (fun u t => t.heap = u) (fun q => q = lst ∨ (0 < cap ∧ q = els) ∨ sz ≤ q)) 3 45 (fun q => q = lst ∨ (0 < cap ∧ q = els) ∨ sz ≤ q) := by
  refine met0 (own := "MetricLogMonitor") (by decide) rfl (Nat.le_of_ble_eq_true rfl) (fun p e s m below meth c ls S hr hk hnm hC hH hl => ?_)
  have hl : lv_has ls 3 [(0, .ref mon), (1, .int (nI k))] := hl
  have hS : va_S (fun q => q = lst ∨ (0 < cap ∧ q = els) ∨ sz ≤ q) s.heap s.heap [] := va_S.rf
  have hA : ∀ q, (fun q => q = lst ∨ (0 < cap ∧ q = els) ∨ sz ≤ q) q → kz K ≤ q := fun q h => h.elim (fun z => by rw [z]; exact hD.2.1 1 (by omega) (by omega)) (fun h => h.elim (fun z => by rw [z.2]; exact hD.2.2.1 z.1) (fun z => by have := hC.2.2.2.2.2.2.1; omega))
  obtain ⟨hsz, hH⟩ := hH
  obtain ⟨hm, hls, hg, ht, hq, hfm⟩ := hH
  have hH : cw K mon lst els lg tm pr wat md n cap fE kd wh fi se lo hi fr rg xr dc ad sa stt G N T Qp s.heap := ⟨hm, hls, hg, ht, hq, hfm⟩
  refine lv_aload_n S.1 S.2.1 d_M_not_0 rfl (lv_at hl 0 rfl) ?_
  refine lv_iload_n S.1 S.2.1 d_M_not_1 rfl (lv_at hl 1 rfl) ?_
  refine kVq (rest := []) S (c_M_find l) kc_M_find ⟨q_281, q_283, qp_5⟩ rfl rfl ⟨Nat.le_of_ble_eq_true rfl, Nat.le_of_ble_eq_true rfl⟩ hC hS hA ⟨hm, hls⟩ ⟨8, _, _, _, rfl, hm⟩ ⟨Nat.zero_le _, Nat.zero_le _⟩ hl.1 rfl rfl (Nat.le_of_ble_eq_true rfl) d_M_not_2 (fun r er => ?_)
  refine tpq (er.1 k hkn rfl) ?_
  refine lv_astore_n S.1 S.2.1 d_M_not_5 rfl hl (by decide) rfl (fun ls hl => ?_)
  have hl : lv_has ls 3 [(2, .ref (ad k)), (0, .ref mon), (1, .int (nI k))] := hl
  refine lv_aload_n S.1 S.2.1 d_M_not_6 rfl (lv_at hl 1 rfl) ?_
  refine kVi (rest := []) S (c_M_mayMake l) kc_M_mayMake ⟨q_98, q_100, qp_0⟩ rfl rfl ⟨Nat.le_of_ble_eq_true rfl, Nat.le_of_ble_eq_true rfl⟩ hC hS hA ⟨hm, hls.1⟩ ⟨8, _, _, _, rfl, hm⟩ ⟨Nat.zero_le _, Nat.zero_le _⟩ hl.1 rfl rfl (Nat.le_of_ble_eq_true rfl) d_M_not_7 (fun r er => ?_)
  subst er
  refine lv_if_eq (tgt := 17) S.1 S.2.1 d_M_not_10 (by decide) (fun hx9 => absurd hx9 hyes) (fun _ => ?_)
  refine lv_aload_n S.1 S.2.1 d_M_not_13 rfl (lv_at hl 0 rfl) ?_
  refine lv_ifnonnull (tgt := 19) S.1 S.2.1 d_M_not_14 (by decide) ?_
  refine lv_aload_n S.1 S.2.1 d_M_not_19 rfl (lv_at hl 1 rfl) ?_
  refine f_new (A := fun q => q = lst ∨ (0 < cap ∧ q = els) ∨ sz ≤ q) (ci := 2) (fs := [.int 0, .int 0, .int 0, .int 0, .null, .null]) (C := "MetricLogMonitor$Not") (T := F_Not) (N := 6) S hC kf_Not t_Not (by decide +kernel) q_300 q_301 q_16 hS rfl (fun j hj => by rcases (show j = 0 ∨ j = 1 ∨ j = 2 ∨ j = 3 ∨ j = 4 ∨ j = 5 by omega) with rfl | rfl | rfl | rfl | rfl | rfl <;> rfl) (Nat.le_of_ble_eq_true rfl) (Nat.le_of_ble_eq_true rfl) d_M_not_20 (fun q H hq0 hb o1 hz hS => ?_)
  have hq9 : q = sz := hq0.trans hsz
  clear hq0
  subst q
  have hp_k := (hfm k hkn).1.nw o1
  have hn_k : ad k ≠ sz := (hfm k hkn).1.apt hsz.symm
  have hsz1 : H.size = sz + 1 := by omega
  refine lv_dup S.1 S.2.1 d_M_not_23 rfl ?_
  refine lv_aload_n S.1 S.2.1 d_M_not_24 rfl (lv_at hl 0 rfl) ?_
  refine kw_v (A := fun q => q = lst ∨ (0 < cap ∧ q = els) ∨ sz ≤ q) (k_I (rest := [.ref sz, .ref mon]) S (c_Not_init (b := sz) (sz := sz + 1) l (by have := hC.2.2.2.2.2.2.1; omega) (cx_lt (kd k)) hn_k (hx01 k hkn)) kc_Not_init ⟨q_302, q_303⟩ rfl rfl rfl ⟨Nat.le_of_ble_eq_true rfl, Nat.le_of_ble_eq_true rfl⟩ hC hS hA ⟨hsz1, hb, hp_k⟩ rfl hl.1 rfl (Nat.le_of_ble_eq_true rfl) ⟨(Nat.le_of_ble_eq_true rfl), (Nat.le_of_ble_eq_true rfl)⟩ d_M_not_25) hS (fun q h => Or.inr (Or.inr (h.elim (fun z => by rw [z]; exact Nat.le_refl _) (fun z => by omega)))) (fun H locs er hz hkp hS => ?_)
  obtain ⟨hsz2, hb, hsa⟩ := er
  have hw2 := cw_all (H1 := H) hH (fun q hq => (hkp q (by omega) (fun z => z.elim (by omega) (by omega))).trans (o1 q hq))
  obtain ⟨hm2, hls2, -, -, -, -⟩ := hw2
  refine kw_i (A := fun q => q = lst ∨ (0 < cap ∧ q = els) ∨ sz ≤ q) (k_V (rest := []) S (c_M_add (sz := sz + 2) (ad := ad) l (by decide) hD.2.2.2 hD.2.2.1 (hD.2.1 1 (by omega) (by omega)) (hD.fix (i := 1) (j := 2) (by omega) (by omega) (by omega)) (fun z => by have := hlt 1 (by omega); have e1 : ca mon lst els lg tm pr ad sa 1 = lst := rfl; omega) (fun z => by have := hlt 2 (by omega); have e1 : ca mon lst els lg tm pr ad sa 2 = els := rfl; omega) (fun k hk z => hD.fad (i := 1) (by omega) hk z.symm) hcase (hD.fix (i := 0) (j := 1) (by omega) (by omega) (by omega)) (hD.fix (i := 0) (j := 2) (by omega) (by omega) (by omega))) kc_M_add ⟨q_184, q_186, qp_1⟩ rfl rfl ⟨Nat.le_of_ble_eq_true rfl, Nat.le_of_ble_eq_true rfl⟩ hC hS hA ⟨hm2, hsz2, hls2, hb⟩ ⟨8, _, _, _, rfl, hm2⟩ rfl hl.1 rfl (Nat.le_of_ble_eq_true rfl) ⟨(Nat.le_of_ble_eq_true rfl), (Nat.le_of_ble_eq_true rfl)⟩ d_M_not_28) hS (fun q h => h.elim Or.inl (fun h => h.elim (fun z => Or.inr (Or.inl z)) (fun z => Or.inr (Or.inr (by omega))))) (fun r H locs er hz hkp hS => ?_)
  obtain ⟨er0, -, els2, cap2, g, ha, he, hg1, hg2, hc1, hcp, hc2, hor⟩ := er
  have nA : ∀ y, sz ≤ y → y < sz + 2 → ¬ (y = lst ∨ (0 < cap ∧ y = els) ∨ sz + 2 ≤ y) := fun y h1 h2 z => z.elim (fun z => by have := hlt 1 (by omega); have e1 : ca mon lst els lg tm pr ad sa 1 = lst := rfl; omega) (fun z => z.elim (fun z => by have := hlt 2 (by omega); have e1 : ca mon lst els lg tm pr ad sa 2 = els := rfl; omega) (by omega))
  have hb := hb.cl hkp (nA sz (Nat.le_refl _) (by omega))
  have hsa := hsa.cl hkp (nA (sz + 1) (by omega) (by omega))
  exact rw_i S hr hk hS d_M_not_31 ⟨er0, els2, cap2, g, cw_new hH hV hD (agn_up 3 0 k k 0 (-1) (fr k) 0 (xr k) 0 sz (sz + 1) (fun _ => 0)) (fun q h1 h2 => hS.2.1 q h1 (fun z => z.elim (fun z => h2 (Or.inl z)) (fun z => z.elim (fun z => h2 (Or.inr z)) (by omega)))) ha he hg1 (by rw [va_up_self]; exact hg2) hc1 hc2 (by rw [fo_3 (va_up_self kd n 3)]; simp only [va_up_self, va_up_ne ad sz (show k ≠ n by omega)]; exact hb) (by rw [va_up_self, va_up_self]; exact hsa), hcp, hor⟩
set_option maxHeartbeats 4000000 in
set_option maxRecDepth 100000 in
theorem c_M_join_ya (l : Launch) {K : KT} {sz : Nat} {mon lst els lg tm pr : Nat} {wat md : Int32} {n cap : Nat} {fE : Nat → Option Nat} {kd wh fi se : Nat → Nat} {lo hi fr rg xr : Nat → Int32} {dc ad sa : Nat → Nat} {stt : Nat → Nat → Int64} {G : Int64} {N : Nat} {T : Nat → Int32} {Qp : Nat → Int64} (hD : dst K mon lst els lg tm pr ad sa n cap) (hV : tabOk kd wh fi se lo hi n) (hlt : ∀ i, i < 6 + 2 * n → ca mon lst els lg tm pr ad sa i < sz) (hyes : ¬ f_M_mayMake wat n = 0) (hcase : n < cap ∨ (n = 0 ∧ cap = 0) ∨ (n = 10 ∧ cap = 10)) {k : Nat} (hkn : k < n) {k2 : Nat} (hk2n : k2 < n)  : Met l y_M_join (Cond.code y_M_join b_M_join 6 (some Jvm.ClassFile.FieldType.int) :: WALL) { frames := 8, cells := 3, slots := 47, locals := 192 } (pc0 K [.ref mon, .int 1, .int (nI k), .int (nI k2)] (fun H => H.size = sz ∧ cw K mon lst els lg tm pr wat md n cap fE kd wh fi se lo hi fr rg xr dc ad sa stt G N T Qp H)) (va_Qi (fun r H => r = nI n ∧ ∃ els2 cap2 g, cw K mon lst els2 lg tm pr wat (md + 1) (n + 1) cap2 g (va_up kd n 4) (va_up wh n 0) (va_up fi n k) (va_up se n k2) (va_up lo n 0) (va_up hi n (-1)) (va_up fr n (fr k ||| fr k2)) (va_up rg n (f_Join_rangedBy 1 (rg k) (rg k2))) (va_up xr n (if xr k = 0 then 0 else if xr k2 = 0 then 0 else 1)) (va_up dc n 0) (va_up ad n sz) (va_up sa n (sz + 1)) (va_up stt n (fun _ => 0)) G N T Qp H ∧ (cap2 = cap ∨ cap2 = 10 ∨ cap2 = 15) ∧ ((els2 = els ∧ cap2 = cap) ∨ els2 = sz + 2)) (fun u t => t.heap = u) (fun q => q = lst ∨ (0 < cap ∧ q = els) ∨ sz ≤ q)) 3 47 (fun q => q = lst ∨ (0 < cap ∧ q = els) ∨ sz ≤ q) := by
  refine met0 (own := "MetricLogMonitor") (by decide) rfl (Nat.le_of_ble_eq_true rfl) (fun p e s m below meth c ls S hr hk hnm hC hH hl => ?_)
  have hl : lv_has ls 6 [(0, .ref mon), (1, .int 1), (2, .int (nI k)), (3, .int (nI k2))] := hl
  have hS : va_S (fun q => q = lst ∨ (0 < cap ∧ q = els) ∨ sz ≤ q) s.heap s.heap [] := va_S.rf
  have hA : ∀ q, (fun q => q = lst ∨ (0 < cap ∧ q = els) ∨ sz ≤ q) q → kz K ≤ q := fun q h => h.elim (fun z => by rw [z]; exact hD.2.1 1 (by omega) (by omega)) (fun h => h.elim (fun z => by rw [z.2]; exact hD.2.2.1 z.1) (fun z => by have := hC.2.2.2.2.2.2.1; omega))
  obtain ⟨hsz, hH⟩ := hH
  obtain ⟨hm, hls, hg, ht, hq, hfm⟩ := hH
  have hH : cw K mon lst els lg tm pr wat md n cap fE kd wh fi se lo hi fr rg xr dc ad sa stt G N T Qp s.heap := ⟨hm, hls, hg, ht, hq, hfm⟩
  refine lv_aload_n S.1 S.2.1 d_M_join_0 rfl (lv_at hl 0 rfl) ?_
  refine lv_iload_n S.1 S.2.1 d_M_join_1 rfl (lv_at hl 2 rfl) ?_
  refine kVq (rest := []) S (c_M_find l) kc_M_find ⟨q_281, q_283, qp_5⟩ rfl rfl ⟨Nat.le_of_ble_eq_true rfl, Nat.le_of_ble_eq_true rfl⟩ hC hS hA ⟨hm, hls⟩ ⟨8, _, _, _, rfl, hm⟩ ⟨Nat.zero_le _, Nat.zero_le _⟩ hl.1 rfl rfl (Nat.le_of_ble_eq_true rfl) d_M_join_2 (fun r er => ?_)
  refine tpq (er.1 k hkn rfl) ?_
  refine lv_astore S.1 S.2.1 d_M_join_5 hl (by decide) rfl (fun ls hl => ?_)
  have hl : lv_has ls 6 [(4, .ref (ad k)), (0, .ref mon), (1, .int 1), (2, .int (nI k)), (3, .int (nI k2))] := hl
  refine lv_aload_n S.1 S.2.1 d_M_join_7 rfl (lv_at hl 1 rfl) ?_
  refine lv_iload_n S.1 S.2.1 d_M_join_8 rfl (lv_at hl 4 rfl) ?_
  refine kVq (rest := []) S (c_M_find l) kc_M_find ⟨q_281, q_283, qp_5⟩ rfl rfl ⟨Nat.le_of_ble_eq_true rfl, Nat.le_of_ble_eq_true rfl⟩ hC hS hA ⟨hm, hls⟩ ⟨8, _, _, _, rfl, hm⟩ ⟨Nat.zero_le _, Nat.zero_le _⟩ hl.1 rfl rfl (Nat.le_of_ble_eq_true rfl) d_M_join_9 (fun r er => ?_)
  refine tpq (er.1 k2 hk2n rfl) ?_
  refine lv_astore S.1 S.2.1 d_M_join_12 hl (by decide) rfl (fun ls hl => ?_)
  have hl : lv_has ls 6 [(5, .ref (ad k2)), (4, .ref (ad k)), (0, .ref mon), (1, .int 1), (2, .int (nI k)), (3, .int (nI k2))] := hl
  refine lv_aload_n S.1 S.2.1 d_M_join_14 rfl (lv_at hl 2 rfl) ?_
  refine kVi (rest := []) S (c_M_mayMake l) kc_M_mayMake ⟨q_98, q_100, qp_0⟩ rfl rfl ⟨Nat.le_of_ble_eq_true rfl, Nat.le_of_ble_eq_true rfl⟩ hC hS hA ⟨hm, hls.1⟩ ⟨8, _, _, _, rfl, hm⟩ ⟨Nat.zero_le _, Nat.zero_le _⟩ hl.1 rfl rfl (Nat.le_of_ble_eq_true rfl) d_M_join_15 (fun r er => ?_)
  subst er
  refine lv_if_eq (tgt := 31) S.1 S.2.1 d_M_join_18 (by decide) (fun hx9 => absurd hx9 hyes) (fun _ => ?_)
  refine lv_aload S.1 S.2.1 d_M_join_21 (lv_at hl 1 rfl) ?_
  refine lv_ifnull S.1 S.2.1 d_M_join_23 ?_
  refine lv_aload S.1 S.2.1 d_M_join_26 (lv_at hl 0 rfl) ?_
  refine lv_ifnonnull (tgt := 33) S.1 S.2.1 d_M_join_28 (by decide) ?_
  refine lv_aload_n S.1 S.2.1 d_M_join_33 rfl (lv_at hl 2 rfl) ?_
  refine f_new (A := fun q => q = lst ∨ (0 < cap ∧ q = els) ∨ sz ≤ q) (ci := 3) (fs := [.int 0, .int 0, .int 0, .int 0, .null, .int 0, .null, .null]) (C := "MetricLogMonitor$Join") (T := F_Join) (N := 8) S hC kf_Join t_Join (by decide +kernel) q_319 q_320 q_17 hS rfl (fun j hj => by rcases (show j = 0 ∨ j = 1 ∨ j = 2 ∨ j = 3 ∨ j = 4 ∨ j = 5 ∨ j = 6 ∨ j = 7 by omega) with rfl | rfl | rfl | rfl | rfl | rfl | rfl | rfl <;> rfl) (Nat.le_of_ble_eq_true rfl) (Nat.le_of_ble_eq_true rfl) d_M_join_34 (fun q H hq0 hb o1 hz hS => ?_)
  have hq9 : q = sz := hq0.trans hsz
  clear hq0
  subst q
  have hp_k := (hfm k hkn).1.nw o1
  have hn_k : ad k ≠ sz := (hfm k hkn).1.apt hsz.symm
  have hp_k2 := (hfm k2 hk2n).1.nw o1
  have hn_k2 : ad k2 ≠ sz := (hfm k2 hk2n).1.apt hsz.symm
  have hsz1 : H.size = sz + 1 := by omega
  refine lv_dup S.1 S.2.1 d_M_join_37 rfl ?_
  refine lv_iload_n S.1 S.2.1 d_M_join_38 rfl (lv_at hl 3 rfl) ?_
  refine lv_aload S.1 S.2.1 d_M_join_39 (lv_at hl 1 rfl) ?_
  refine lv_aload S.1 S.2.1 d_M_join_41 (lv_at hl 0 rfl) ?_
  refine kw_v (A := fun q => q = lst ∨ (0 < cap ∧ q = els) ∨ sz ≤ q) (k_I (rest := [.ref sz, .ref mon]) S (c_Join_init (b := sz) (sz := sz + 1) l (by have := hC.2.2.2.2.2.2.1; omega) 1 (Or.inr rfl) (cx_lt (kd k)) hn_k (cx_lt (kd k2)) hn_k2) kc_Join_init ⟨q_321, q_322⟩ rfl rfl rfl ⟨Nat.le_of_ble_eq_true rfl, Nat.le_of_ble_eq_true rfl⟩ hC hS hA ⟨hsz1, hb, hp_k, hp_k2⟩ rfl hl.1 rfl (Nat.le_of_ble_eq_true rfl) ⟨(Nat.le_of_ble_eq_true rfl), (Nat.le_of_ble_eq_true rfl)⟩ d_M_join_43) hS (fun q h => Or.inr (Or.inr (h.elim (fun z => by rw [z]; exact Nat.le_refl _) (fun z => by omega)))) (fun H locs er hz hkp hS => ?_)
  obtain ⟨hsz2, hb, hsa⟩ := er
  have hw2 := cw_all (H1 := H) hH (fun q hq => (hkp q (by omega) (fun z => z.elim (by omega) (by omega))).trans (o1 q hq))
  obtain ⟨hm2, hls2, -, -, -, -⟩ := hw2
  refine kw_i (A := fun q => q = lst ∨ (0 < cap ∧ q = els) ∨ sz ≤ q) (k_V (rest := []) S (c_M_add (sz := sz + 2) (ad := ad) l (by decide) hD.2.2.2 hD.2.2.1 (hD.2.1 1 (by omega) (by omega)) (hD.fix (i := 1) (j := 2) (by omega) (by omega) (by omega)) (fun z => by have := hlt 1 (by omega); have e1 : ca mon lst els lg tm pr ad sa 1 = lst := rfl; omega) (fun z => by have := hlt 2 (by omega); have e1 : ca mon lst els lg tm pr ad sa 2 = els := rfl; omega) (fun k hk z => hD.fad (i := 1) (by omega) hk z.symm) hcase (hD.fix (i := 0) (j := 1) (by omega) (by omega) (by omega)) (hD.fix (i := 0) (j := 2) (by omega) (by omega) (by omega))) kc_M_add ⟨q_184, q_186, qp_1⟩ rfl rfl ⟨Nat.le_of_ble_eq_true rfl, Nat.le_of_ble_eq_true rfl⟩ hC hS hA ⟨hm2, hsz2, hls2, hb⟩ ⟨8, _, _, _, rfl, hm2⟩ rfl hl.1 rfl (Nat.le_of_ble_eq_true rfl) ⟨(Nat.le_of_ble_eq_true rfl), (Nat.le_of_ble_eq_true rfl)⟩ d_M_join_46) hS (fun q h => h.elim Or.inl (fun h => h.elim (fun z => Or.inr (Or.inl z)) (fun z => Or.inr (Or.inr (by omega))))) (fun r H locs er hz hkp hS => ?_)
  obtain ⟨er0, -, els2, cap2, g, ha, he, hg1, hg2, hc1, hcp, hc2, hor⟩ := er
  have nA : ∀ y, sz ≤ y → y < sz + 2 → ¬ (y = lst ∨ (0 < cap ∧ y = els) ∨ sz + 2 ≤ y) := fun y h1 h2 z => z.elim (fun z => by have := hlt 1 (by omega); have e1 : ca mon lst els lg tm pr ad sa 1 = lst := rfl; omega) (fun z => z.elim (fun z => by have := hlt 2 (by omega); have e1 : ca mon lst els lg tm pr ad sa 2 = els := rfl; omega) (by omega))
  have hb := hb.cl hkp (nA sz (Nat.le_refl _) (by omega))
  have hsa := hsa.cl hkp (nA (sz + 1) (by omega) (by omega))
  exact rw_i S hr hk hS d_M_join_49 ⟨er0, els2, cap2, g, cw_new hH hV hD (agn_up 4 0 k k2 0 (-1) (fr k ||| fr k2) (f_Join_rangedBy 1 (rg k) (rg k2)) (if xr k = 0 then 0 else if xr k2 = 0 then 0 else 1) 0 sz (sz + 1) (fun _ => 0)) (fun q h1 h2 => hS.2.1 q h1 (fun z => z.elim (fun z => h2 (Or.inl z)) (fun z => z.elim (fun z => h2 (Or.inr z)) (by omega)))) ha he hg1 (by rw [va_up_self]; exact hg2) hc1 hc2 (by rw [fo_4 (va_up_self kd n 4)]; simp only [va_up_self, va_up_ne ad sz (show k ≠ n by omega), va_up_ne ad sz (show k2 ≠ n by omega)]; exact hb) (by rw [va_up_self, va_up_self]; exact hsa), hcp, hor⟩
set_option maxHeartbeats 4000000 in
set_option maxRecDepth 100000 in
theorem c_M_join_yo (l : Launch) {K : KT} {sz : Nat} {mon lst els lg tm pr : Nat} {wat md : Int32} {n cap : Nat} {fE : Nat → Option Nat} {kd wh fi se : Nat → Nat} {lo hi fr rg xr : Nat → Int32} {dc ad sa : Nat → Nat} {stt : Nat → Nat → Int64} {G : Int64} {N : Nat} {T : Nat → Int32} {Qp : Nat → Int64} (hD : dst K mon lst els lg tm pr ad sa n cap) (hV : tabOk kd wh fi se lo hi n) (hlt : ∀ i, i < 6 + 2 * n → ca mon lst els lg tm pr ad sa i < sz) (hyes : ¬ f_M_mayMake wat n = 0) (hcase : n < cap ∨ (n = 0 ∧ cap = 0) ∨ (n = 10 ∧ cap = 10)) {k : Nat} (hkn : k < n) {k2 : Nat} (hk2n : k2 < n)  : Met l y_M_join (Cond.code y_M_join b_M_join 6 (some Jvm.ClassFile.FieldType.int) :: WALL) { frames := 8, cells := 3, slots := 47, locals := 192 } (pc0 K [.ref mon, .int 0, .int (nI k), .int (nI k2)] (fun H => H.size = sz ∧ cw K mon lst els lg tm pr wat md n cap fE kd wh fi se lo hi fr rg xr dc ad sa stt G N T Qp H)) (va_Qi (fun r H => r = nI n ∧ ∃ els2 cap2 g, cw K mon lst els2 lg tm pr wat (md + 1) (n + 1) cap2 g (va_up kd n 5) (va_up wh n 0) (va_up fi n k) (va_up se n k2) (va_up lo n 0) (va_up hi n (-1)) (va_up fr n (fr k ||| fr k2)) (va_up rg n (f_Join_rangedBy 0 (rg k) (rg k2))) (va_up xr n (if xr k = 0 then 0 else if xr k2 = 0 then 0 else 1)) (va_up dc n 0) (va_up ad n sz) (va_up sa n (sz + 1)) (va_up stt n (fun _ => 0)) G N T Qp H ∧ (cap2 = cap ∨ cap2 = 10 ∨ cap2 = 15) ∧ ((els2 = els ∧ cap2 = cap) ∨ els2 = sz + 2)) (fun u t => t.heap = u) (fun q => q = lst ∨ (0 < cap ∧ q = els) ∨ sz ≤ q)) 3 47 (fun q => q = lst ∨ (0 < cap ∧ q = els) ∨ sz ≤ q) := by
  refine met0 (own := "MetricLogMonitor") (by decide) rfl (Nat.le_of_ble_eq_true rfl) (fun p e s m below meth c ls S hr hk hnm hC hH hl => ?_)
  have hl : lv_has ls 6 [(0, .ref mon), (1, .int 0), (2, .int (nI k)), (3, .int (nI k2))] := hl
  have hS : va_S (fun q => q = lst ∨ (0 < cap ∧ q = els) ∨ sz ≤ q) s.heap s.heap [] := va_S.rf
  have hA : ∀ q, (fun q => q = lst ∨ (0 < cap ∧ q = els) ∨ sz ≤ q) q → kz K ≤ q := fun q h => h.elim (fun z => by rw [z]; exact hD.2.1 1 (by omega) (by omega)) (fun h => h.elim (fun z => by rw [z.2]; exact hD.2.2.1 z.1) (fun z => by have := hC.2.2.2.2.2.2.1; omega))
  obtain ⟨hsz, hH⟩ := hH
  obtain ⟨hm, hls, hg, ht, hq, hfm⟩ := hH
  have hH : cw K mon lst els lg tm pr wat md n cap fE kd wh fi se lo hi fr rg xr dc ad sa stt G N T Qp s.heap := ⟨hm, hls, hg, ht, hq, hfm⟩
  refine lv_aload_n S.1 S.2.1 d_M_join_0 rfl (lv_at hl 0 rfl) ?_
  refine lv_iload_n S.1 S.2.1 d_M_join_1 rfl (lv_at hl 2 rfl) ?_
  refine kVq (rest := []) S (c_M_find l) kc_M_find ⟨q_281, q_283, qp_5⟩ rfl rfl ⟨Nat.le_of_ble_eq_true rfl, Nat.le_of_ble_eq_true rfl⟩ hC hS hA ⟨hm, hls⟩ ⟨8, _, _, _, rfl, hm⟩ ⟨Nat.zero_le _, Nat.zero_le _⟩ hl.1 rfl rfl (Nat.le_of_ble_eq_true rfl) d_M_join_2 (fun r er => ?_)
  refine tpq (er.1 k hkn rfl) ?_
  refine lv_astore S.1 S.2.1 d_M_join_5 hl (by decide) rfl (fun ls hl => ?_)
  have hl : lv_has ls 6 [(4, .ref (ad k)), (0, .ref mon), (1, .int 0), (2, .int (nI k)), (3, .int (nI k2))] := hl
  refine lv_aload_n S.1 S.2.1 d_M_join_7 rfl (lv_at hl 1 rfl) ?_
  refine lv_iload_n S.1 S.2.1 d_M_join_8 rfl (lv_at hl 4 rfl) ?_
  refine kVq (rest := []) S (c_M_find l) kc_M_find ⟨q_281, q_283, qp_5⟩ rfl rfl ⟨Nat.le_of_ble_eq_true rfl, Nat.le_of_ble_eq_true rfl⟩ hC hS hA ⟨hm, hls⟩ ⟨8, _, _, _, rfl, hm⟩ ⟨Nat.zero_le _, Nat.zero_le _⟩ hl.1 rfl rfl (Nat.le_of_ble_eq_true rfl) d_M_join_9 (fun r er => ?_)
  refine tpq (er.1 k2 hk2n rfl) ?_
  refine lv_astore S.1 S.2.1 d_M_join_12 hl (by decide) rfl (fun ls hl => ?_)
  have hl : lv_has ls 6 [(5, .ref (ad k2)), (4, .ref (ad k)), (0, .ref mon), (1, .int 0), (2, .int (nI k)), (3, .int (nI k2))] := hl
  refine lv_aload_n S.1 S.2.1 d_M_join_14 rfl (lv_at hl 2 rfl) ?_
  refine kVi (rest := []) S (c_M_mayMake l) kc_M_mayMake ⟨q_98, q_100, qp_0⟩ rfl rfl ⟨Nat.le_of_ble_eq_true rfl, Nat.le_of_ble_eq_true rfl⟩ hC hS hA ⟨hm, hls.1⟩ ⟨8, _, _, _, rfl, hm⟩ ⟨Nat.zero_le _, Nat.zero_le _⟩ hl.1 rfl rfl (Nat.le_of_ble_eq_true rfl) d_M_join_15 (fun r er => ?_)
  subst er
  refine lv_if_eq (tgt := 31) S.1 S.2.1 d_M_join_18 (by decide) (fun hx9 => absurd hx9 hyes) (fun _ => ?_)
  refine lv_aload S.1 S.2.1 d_M_join_21 (lv_at hl 1 rfl) ?_
  refine lv_ifnull S.1 S.2.1 d_M_join_23 ?_
  refine lv_aload S.1 S.2.1 d_M_join_26 (lv_at hl 0 rfl) ?_
  refine lv_ifnonnull (tgt := 33) S.1 S.2.1 d_M_join_28 (by decide) ?_
  refine lv_aload_n S.1 S.2.1 d_M_join_33 rfl (lv_at hl 2 rfl) ?_
  refine f_new (A := fun q => q = lst ∨ (0 < cap ∧ q = els) ∨ sz ≤ q) (ci := 3) (fs := [.int 0, .int 0, .int 0, .int 0, .null, .int 0, .null, .null]) (C := "MetricLogMonitor$Join") (T := F_Join) (N := 8) S hC kf_Join t_Join (by decide +kernel) q_319 q_320 q_17 hS rfl (fun j hj => by rcases (show j = 0 ∨ j = 1 ∨ j = 2 ∨ j = 3 ∨ j = 4 ∨ j = 5 ∨ j = 6 ∨ j = 7 by omega) with rfl | rfl | rfl | rfl | rfl | rfl | rfl | rfl <;> rfl) (Nat.le_of_ble_eq_true rfl) (Nat.le_of_ble_eq_true rfl) d_M_join_34 (fun q H hq0 hb o1 hz hS => ?_)
  have hq9 : q = sz := hq0.trans hsz
  clear hq0
  subst q
  have hp_k := (hfm k hkn).1.nw o1
  have hn_k : ad k ≠ sz := (hfm k hkn).1.apt hsz.symm
  have hp_k2 := (hfm k2 hk2n).1.nw o1
  have hn_k2 : ad k2 ≠ sz := (hfm k2 hk2n).1.apt hsz.symm
  have hsz1 : H.size = sz + 1 := by omega
  refine lv_dup S.1 S.2.1 d_M_join_37 rfl ?_
  refine lv_iload_n S.1 S.2.1 d_M_join_38 rfl (lv_at hl 3 rfl) ?_
  refine lv_aload S.1 S.2.1 d_M_join_39 (lv_at hl 1 rfl) ?_
  refine lv_aload S.1 S.2.1 d_M_join_41 (lv_at hl 0 rfl) ?_
  refine kw_v (A := fun q => q = lst ∨ (0 < cap ∧ q = els) ∨ sz ≤ q) (k_I (rest := [.ref sz, .ref mon]) S (c_Join_init (b := sz) (sz := sz + 1) l (by have := hC.2.2.2.2.2.2.1; omega) 0 (Or.inl rfl) (cx_lt (kd k)) hn_k (cx_lt (kd k2)) hn_k2) kc_Join_init ⟨q_321, q_322⟩ rfl rfl rfl ⟨Nat.le_of_ble_eq_true rfl, Nat.le_of_ble_eq_true rfl⟩ hC hS hA ⟨hsz1, hb, hp_k, hp_k2⟩ rfl hl.1 rfl (Nat.le_of_ble_eq_true rfl) ⟨(Nat.le_of_ble_eq_true rfl), (Nat.le_of_ble_eq_true rfl)⟩ d_M_join_43) hS (fun q h => Or.inr (Or.inr (h.elim (fun z => by rw [z]; exact Nat.le_refl _) (fun z => by omega)))) (fun H locs er hz hkp hS => ?_)
  obtain ⟨hsz2, hb, hsa⟩ := er
  have hw2 := cw_all (H1 := H) hH (fun q hq => (hkp q (by omega) (fun z => z.elim (by omega) (by omega))).trans (o1 q hq))
  obtain ⟨hm2, hls2, -, -, -, -⟩ := hw2
  refine kw_i (A := fun q => q = lst ∨ (0 < cap ∧ q = els) ∨ sz ≤ q) (k_V (rest := []) S (c_M_add (sz := sz + 2) (ad := ad) l (by decide) hD.2.2.2 hD.2.2.1 (hD.2.1 1 (by omega) (by omega)) (hD.fix (i := 1) (j := 2) (by omega) (by omega) (by omega)) (fun z => by have := hlt 1 (by omega); have e1 : ca mon lst els lg tm pr ad sa 1 = lst := rfl; omega) (fun z => by have := hlt 2 (by omega); have e1 : ca mon lst els lg tm pr ad sa 2 = els := rfl; omega) (fun k hk z => hD.fad (i := 1) (by omega) hk z.symm) hcase (hD.fix (i := 0) (j := 1) (by omega) (by omega) (by omega)) (hD.fix (i := 0) (j := 2) (by omega) (by omega) (by omega))) kc_M_add ⟨q_184, q_186, qp_1⟩ rfl rfl ⟨Nat.le_of_ble_eq_true rfl, Nat.le_of_ble_eq_true rfl⟩ hC hS hA ⟨hm2, hsz2, hls2, hb⟩ ⟨8, _, _, _, rfl, hm2⟩ rfl hl.1 rfl (Nat.le_of_ble_eq_true rfl) ⟨(Nat.le_of_ble_eq_true rfl), (Nat.le_of_ble_eq_true rfl)⟩ d_M_join_46) hS (fun q h => h.elim Or.inl (fun h => h.elim (fun z => Or.inr (Or.inl z)) (fun z => Or.inr (Or.inr (by omega))))) (fun r H locs er hz hkp hS => ?_)
  obtain ⟨er0, -, els2, cap2, g, ha, he, hg1, hg2, hc1, hcp, hc2, hor⟩ := er
  have nA : ∀ y, sz ≤ y → y < sz + 2 → ¬ (y = lst ∨ (0 < cap ∧ y = els) ∨ sz + 2 ≤ y) := fun y h1 h2 z => z.elim (fun z => by have := hlt 1 (by omega); have e1 : ca mon lst els lg tm pr ad sa 1 = lst := rfl; omega) (fun z => z.elim (fun z => by have := hlt 2 (by omega); have e1 : ca mon lst els lg tm pr ad sa 2 = els := rfl; omega) (by omega))
  have hb := hb.cl hkp (nA sz (Nat.le_refl _) (by omega))
  have hsa := hsa.cl hkp (nA (sz + 1) (by omega) (by omega))
  exact rw_i S hr hk hS d_M_join_49 ⟨er0, els2, cap2, g, cw_new hH hV hD (agn_up 5 0 k k2 0 (-1) (fr k ||| fr k2) (f_Join_rangedBy 0 (rg k) (rg k2)) (if xr k = 0 then 0 else if xr k2 = 0 then 0 else 1) 0 sz (sz + 1) (fun _ => 0)) (fun q h1 h2 => hS.2.1 q h1 (fun z => z.elim (fun z => h2 (Or.inl z)) (fun z => z.elim (fun z => h2 (Or.inr z)) (by omega)))) ha he hg1 (by rw [va_up_self]; exact hg2) hc1 hc2 (by rw [fo_5 (va_up_self kd n 5)]; simp only [va_up_self, va_up_ne ad sz (show k ≠ n by omega), va_up_ne ad sz (show k2 ≠ n by omega)]; exact hb) (by rw [va_up_self, va_up_self]; exact hsa), hcp, hor⟩
set_option maxHeartbeats 4000000 in
set_option maxRecDepth 100000 in
theorem c_M_exists_y (l : Launch) {K : KT} {sz : Nat} {mon lst els lg tm pr : Nat} {wat md : Int32} {n cap : Nat} {fE : Nat → Option Nat} {kd wh fi se : Nat → Nat} {lo hi fr rg xr : Nat → Int32} {dc ad sa : Nat → Nat} {stt : Nat → Nat → Int64} {G : Int64} {N : Nat} {T : Nat → Int32} {Qp : Nat → Int64} (hD : dst K mon lst els lg tm pr ad sa n cap) (hV : tabOk kd wh fi se lo hi n) (hlt : ∀ i, i < 6 + 2 * n → ca mon lst els lg tm pr ad sa i < sz) (hyes : ¬ f_M_mayMake wat n = 0) (hcase : n < cap ∨ (n = 0 ∧ cap = 0) ∨ (n = 10 ∧ cap = 10)) {k : Nat} (hkn : k < n) {v : Nat} (hv : ¬ f_M_isVariable (nI v) = 0) : Met l y_M_exists (Cond.code y_M_exists b_M_exists 4 (some Jvm.ClassFile.FieldType.int) :: WALL) { frames := 8, cells := 3, slots := 46, locals := 192 } (pc0 K [.ref mon, .int (nI v), .int (nI k)] (fun H => H.size = sz ∧ cw K mon lst els lg tm pr wat md n cap fE kd wh fi se lo hi fr rg xr dc ad sa stt G N T Qp H)) (va_Qi (fun r H => r = nI n ∧ ∃ els2 cap2 g, cw K mon lst els2 lg tm pr wat (md + 1) (n + 1) cap2 g (va_up kd n 6) (va_up wh n v) (va_up fi n k) (va_up se n k) (va_up lo n 0) (va_up hi n (-1)) (va_up fr n (fr k &&& (f_M_variableBit (nI v) ^^^ (-1)))) (va_up rg n (rg k &&& (f_M_variableBit (nI v) ^^^ (-1)))) (va_up xr n (if xr k = 0 then 0 else if rg k &&& f_M_variableBit (nI v) = 0 then 0 else 1)) (va_up dc n 0) (va_up ad n sz) (va_up sa n (sz + 1)) (va_up stt n (fun _ => 0)) G N T Qp H ∧ (cap2 = cap ∨ cap2 = 10 ∨ cap2 = 15) ∧ ((els2 = els ∧ cap2 = cap) ∨ els2 = sz + 2)) (fun u t => t.heap = u) (fun q => q = lst ∨ (0 < cap ∧ q = els) ∨ sz ≤ q)) 3 46 (fun q => q = lst ∨ (0 < cap ∧ q = els) ∨ sz ≤ q) := by
  refine met0 (own := "MetricLogMonitor") (by decide) rfl (Nat.le_of_ble_eq_true rfl) (fun p e s m below meth c ls S hr hk hnm hC hH hl => ?_)
  have hl : lv_has ls 4 [(0, .ref mon), (1, .int (nI v)), (2, .int (nI k))] := hl
  have hS : va_S (fun q => q = lst ∨ (0 < cap ∧ q = els) ∨ sz ≤ q) s.heap s.heap [] := va_S.rf
  have hA : ∀ q, (fun q => q = lst ∨ (0 < cap ∧ q = els) ∨ sz ≤ q) q → kz K ≤ q := fun q h => h.elim (fun z => by rw [z]; exact hD.2.1 1 (by omega) (by omega)) (fun h => h.elim (fun z => by rw [z.2]; exact hD.2.2.1 z.1) (fun z => by have := hC.2.2.2.2.2.2.1; omega))
  obtain ⟨hsz, hH⟩ := hH
  obtain ⟨hm, hls, hg, ht, hq, hfm⟩ := hH
  have hH : cw K mon lst els lg tm pr wat md n cap fE kd wh fi se lo hi fr rg xr dc ad sa stt G N T Qp s.heap := ⟨hm, hls, hg, ht, hq, hfm⟩
  refine lv_aload_n S.1 S.2.1 d_M_exists_0 rfl (lv_at hl 0 rfl) ?_
  refine lv_iload_n S.1 S.2.1 d_M_exists_1 rfl (lv_at hl 2 rfl) ?_
  refine kVq (rest := []) S (c_M_find l) kc_M_find ⟨q_281, q_283, qp_5⟩ rfl rfl ⟨Nat.le_of_ble_eq_true rfl, Nat.le_of_ble_eq_true rfl⟩ hC hS hA ⟨hm, hls⟩ ⟨8, _, _, _, rfl, hm⟩ ⟨Nat.zero_le _, Nat.zero_le _⟩ hl.1 rfl rfl (Nat.le_of_ble_eq_true rfl) d_M_exists_2 (fun r er => ?_)
  refine tpq (er.1 k hkn rfl) ?_
  refine lv_astore_n S.1 S.2.1 d_M_exists_5 rfl hl (by decide) rfl (fun ls hl => ?_)
  have hl : lv_has ls 4 [(3, .ref (ad k)), (0, .ref mon), (1, .int (nI v)), (2, .int (nI k))] := hl
  refine lv_aload_n S.1 S.2.1 d_M_exists_6 rfl (lv_at hl 1 rfl) ?_
  refine kVi (rest := []) S (c_M_mayMake l) kc_M_mayMake ⟨q_98, q_100, qp_0⟩ rfl rfl ⟨Nat.le_of_ble_eq_true rfl, Nat.le_of_ble_eq_true rfl⟩ hC hS hA ⟨hm, hls.1⟩ ⟨8, _, _, _, rfl, hm⟩ ⟨Nat.zero_le _, Nat.zero_le _⟩ hl.1 rfl rfl (Nat.le_of_ble_eq_true rfl) d_M_exists_7 (fun r er => ?_)
  subst er
  refine lv_if_eq (tgt := 24) S.1 S.2.1 d_M_exists_10 (by decide) (fun hx9 => absurd hx9 hyes) (fun _ => ?_)
  refine lv_iload_n S.1 S.2.1 d_M_exists_13 rfl (lv_at hl 2 rfl) ?_
  refine kSi (rest := []) S (c_M_isVariable l (nI v)) kc_M_isVariable ⟨q_112, q_113⟩ rfl rfl ⟨Nat.le_of_ble_eq_true rfl, Nat.le_of_ble_eq_true rfl⟩ hC hS hA trivial ⟨Nat.zero_le _, Nat.zero_le _⟩ hl.1 rfl rfl (Nat.le_of_ble_eq_true rfl) d_M_exists_14 (fun r er => ?_)
  subst er
  refine lv_if_eq (tgt := 24) S.1 S.2.1 d_M_exists_17 (by decide) (fun hx9 => absurd hx9 hv) (fun _ => ?_)
  refine lv_aload_n S.1 S.2.1 d_M_exists_20 rfl (lv_at hl 0 rfl) ?_
  refine lv_ifnonnull (tgt := 26) S.1 S.2.1 d_M_exists_21 (by decide) ?_
  refine lv_aload_n S.1 S.2.1 d_M_exists_26 rfl (lv_at hl 1 rfl) ?_
  refine f_new (A := fun q => q = lst ∨ (0 < cap ∧ q = els) ∨ sz ≤ q) (ci := 4) (fs := [.int 0, .int 0, .int 0, .int 0, .null, .int 0, .null]) (C := "MetricLogMonitor$Exists") (T := F_Exi) (N := 7) S hC kf_Exi t_Exi (by decide +kernel) q_347 q_348 q_18 hS rfl (fun j hj => by rcases (show j = 0 ∨ j = 1 ∨ j = 2 ∨ j = 3 ∨ j = 4 ∨ j = 5 ∨ j = 6 by omega) with rfl | rfl | rfl | rfl | rfl | rfl | rfl <;> rfl) (Nat.le_of_ble_eq_true rfl) (Nat.le_of_ble_eq_true rfl) d_M_exists_27 (fun q H hq0 hb o1 hz hS => ?_)
  have hq9 : q = sz := hq0.trans hsz
  clear hq0
  subst q
  have hp_k := (hfm k hkn).1.nw o1
  have hn_k : ad k ≠ sz := (hfm k hkn).1.apt hsz.symm
  have hsz1 : H.size = sz + 1 := by omega
  refine lv_dup S.1 S.2.1 d_M_exists_30 rfl ?_
  refine lv_iload_n S.1 S.2.1 d_M_exists_31 rfl (lv_at hl 2 rfl) ?_
  refine lv_aload_n S.1 S.2.1 d_M_exists_32 rfl (lv_at hl 0 rfl) ?_
  refine kw_v (A := fun q => q = lst ∨ (0 < cap ∧ q = els) ∨ sz ≤ q) (k_I (rest := [.ref sz, .ref mon]) S (c_Exi_init (b := sz) (sz := sz + 1) l (by have := hC.2.2.2.2.2.2.1; omega) (nI v) (cx_lt (kd k)) hn_k) kc_Exi_init ⟨q_349, q_350⟩ rfl rfl rfl ⟨Nat.le_of_ble_eq_true rfl, Nat.le_of_ble_eq_true rfl⟩ hC hS hA ⟨hsz1, hb, hp_k⟩ rfl hl.1 rfl (Nat.le_of_ble_eq_true rfl) ⟨(Nat.le_of_ble_eq_true rfl), (Nat.le_of_ble_eq_true rfl)⟩ d_M_exists_33) hS (fun q h => Or.inr (Or.inr (h.elim (fun z => by rw [z]; exact Nat.le_refl _) (fun z => by omega)))) (fun H locs er hz hkp hS => ?_)
  obtain ⟨hsz2, hb, hsa⟩ := er
  have hw2 := cw_all (H1 := H) hH (fun q hq => (hkp q (by omega) (fun z => z.elim (by omega) (by omega))).trans (o1 q hq))
  obtain ⟨hm2, hls2, -, -, -, -⟩ := hw2
  refine kw_i (A := fun q => q = lst ∨ (0 < cap ∧ q = els) ∨ sz ≤ q) (k_V (rest := []) S (c_M_add (sz := sz + 2) (ad := ad) l (by decide) hD.2.2.2 hD.2.2.1 (hD.2.1 1 (by omega) (by omega)) (hD.fix (i := 1) (j := 2) (by omega) (by omega) (by omega)) (fun z => by have := hlt 1 (by omega); have e1 : ca mon lst els lg tm pr ad sa 1 = lst := rfl; omega) (fun z => by have := hlt 2 (by omega); have e1 : ca mon lst els lg tm pr ad sa 2 = els := rfl; omega) (fun k hk z => hD.fad (i := 1) (by omega) hk z.symm) hcase (hD.fix (i := 0) (j := 1) (by omega) (by omega) (by omega)) (hD.fix (i := 0) (j := 2) (by omega) (by omega) (by omega))) kc_M_add ⟨q_184, q_186, qp_1⟩ rfl rfl ⟨Nat.le_of_ble_eq_true rfl, Nat.le_of_ble_eq_true rfl⟩ hC hS hA ⟨hm2, hsz2, hls2, hb⟩ ⟨8, _, _, _, rfl, hm2⟩ rfl hl.1 rfl (Nat.le_of_ble_eq_true rfl) ⟨(Nat.le_of_ble_eq_true rfl), (Nat.le_of_ble_eq_true rfl)⟩ d_M_exists_36) hS (fun q h => h.elim Or.inl (fun h => h.elim (fun z => Or.inr (Or.inl z)) (fun z => Or.inr (Or.inr (by omega))))) (fun r H locs er hz hkp hS => ?_)
  obtain ⟨er0, -, els2, cap2, g, ha, he, hg1, hg2, hc1, hcp, hc2, hor⟩ := er
  have nA : ∀ y, sz ≤ y → y < sz + 2 → ¬ (y = lst ∨ (0 < cap ∧ y = els) ∨ sz + 2 ≤ y) := fun y h1 h2 z => z.elim (fun z => by have := hlt 1 (by omega); have e1 : ca mon lst els lg tm pr ad sa 1 = lst := rfl; omega) (fun z => z.elim (fun z => by have := hlt 2 (by omega); have e1 : ca mon lst els lg tm pr ad sa 2 = els := rfl; omega) (by omega))
  have hb := hb.cl hkp (nA sz (Nat.le_refl _) (by omega))
  have hsa := hsa.cl hkp (nA (sz + 1) (by omega) (by omega))
  exact rw_i S hr hk hS d_M_exists_39 ⟨er0, els2, cap2, g, cw_new hH hV hD (agn_up 6 v k k 0 (-1) (fr k &&& (f_M_variableBit (nI v) ^^^ (-1))) (rg k &&& (f_M_variableBit (nI v) ^^^ (-1))) (if xr k = 0 then 0 else if rg k &&& f_M_variableBit (nI v) = 0 then 0 else 1) 0 sz (sz + 1) (fun _ => 0)) (fun q h1 h2 => hS.2.1 q h1 (fun z => z.elim (fun z => h2 (Or.inl z)) (fun z => z.elim (fun z => h2 (Or.inr z)) (by omega)))) ha he hg1 (by rw [va_up_self]; exact hg2) hc1 hc2 (by rw [fo_6 (va_up_self kd n 6)]; simp only [va_up_self, va_up_ne ad sz (show k ≠ n by omega)]; exact hb) (by rw [va_up_self, va_up_self]; exact hsa), hcp, hor⟩
set_option maxHeartbeats 4000000 in
set_option maxRecDepth 100000 in
theorem c_M_previous_y (l : Launch) {K : KT} {sz : Nat} {mon lst els lg tm pr : Nat} {wat md : Int32} {n cap : Nat} {fE : Nat → Option Nat} {kd wh fi se : Nat → Nat} {lo hi fr rg xr : Nat → Int32} {dc ad sa : Nat → Nat} {stt : Nat → Nat → Int64} {G : Int64} {N : Nat} {T : Nat → Int32} {Qp : Nat → Int64} (hD : dst K mon lst els lg tm pr ad sa n cap) (hV : tabOk kd wh fi se lo hi n) (hlt : ∀ i, i < 6 + 2 * n → ca mon lst els lg tm pr ad sa i < sz) (hyes : ¬ f_M_mayMake wat n = 0) (hcase : n < cap ∨ (n = 0 ∧ cap = 0) ∨ (n = 10 ∧ cap = 10)) (l0 h0 : Int32) (hiv : ¬ f_M_isPastInterval l0 h0 = 0) {k : Nat} (hkn : k < n) (hx01 : ∀ j, j < n → xr j = 0 ∨ xr j = 1)  : Met l y_M_previous (Cond.code y_M_previous b_M_previous 5 (some Jvm.ClassFile.FieldType.int) :: WALL) { frames := 8, cells := 3, slots := 47, locals := 192 } (pc0 K [.ref mon, .int l0, .int h0, .int (nI k)] (fun H => H.size = sz ∧ cw K mon lst els lg tm pr wat md n cap fE kd wh fi se lo hi fr rg xr dc ad sa stt G N T Qp H)) (va_Qi (fun r H => r = nI n ∧ ∃ els2 cap2 g, cw K mon lst els2 lg tm pr wat (md + 1) (n + 1) cap2 g (va_up kd n 7) (va_up wh n 0) (va_up fi n k) (va_up se n k) (va_up lo n l0) (va_up hi n h0) (va_up fr n (fr k)) (va_up rg n (rg k)) (va_up xr n (xr k)) (va_up dc n 0) (va_up ad n sz) (va_up sa n (sz + 1)) (va_up stt n (fun _ => 0)) G N T Qp H ∧ (cap2 = cap ∨ cap2 = 10 ∨ cap2 = 15) ∧ ((els2 = els ∧ cap2 = cap) ∨ els2 = sz + 2)) (fun u t => t.heap = u) (fun q => q = lst ∨ (0 < cap ∧ q = els) ∨ sz ≤ q)) 3 47 (fun q => q = lst ∨ (0 < cap ∧ q = els) ∨ sz ≤ q) := by
  refine met0 (own := "MetricLogMonitor") (by decide) rfl (Nat.le_of_ble_eq_true rfl) (fun p e s m below meth c ls S hr hk hnm hC hH hl => ?_)
  have hl : lv_has ls 5 [(0, .ref mon), (1, .int l0), (2, .int h0), (3, .int (nI k))] := hl
  have hS : va_S (fun q => q = lst ∨ (0 < cap ∧ q = els) ∨ sz ≤ q) s.heap s.heap [] := va_S.rf
  have hA : ∀ q, (fun q => q = lst ∨ (0 < cap ∧ q = els) ∨ sz ≤ q) q → kz K ≤ q := fun q h => h.elim (fun z => by rw [z]; exact hD.2.1 1 (by omega) (by omega)) (fun h => h.elim (fun z => by rw [z.2]; exact hD.2.2.1 z.1) (fun z => by have := hC.2.2.2.2.2.2.1; omega))
  obtain ⟨hsz, hH⟩ := hH
  obtain ⟨hm, hls, hg, ht, hq, hfm⟩ := hH
  have hH : cw K mon lst els lg tm pr wat md n cap fE kd wh fi se lo hi fr rg xr dc ad sa stt G N T Qp s.heap := ⟨hm, hls, hg, ht, hq, hfm⟩
  refine lv_aload_n S.1 S.2.1 d_M_previous_0 rfl (lv_at hl 0 rfl) ?_
  refine lv_iload_n S.1 S.2.1 d_M_previous_1 rfl (lv_at hl 3 rfl) ?_
  refine kVq (rest := []) S (c_M_find l) kc_M_find ⟨q_281, q_283, qp_5⟩ rfl rfl ⟨Nat.le_of_ble_eq_true rfl, Nat.le_of_ble_eq_true rfl⟩ hC hS hA ⟨hm, hls⟩ ⟨8, _, _, _, rfl, hm⟩ ⟨Nat.zero_le _, Nat.zero_le _⟩ hl.1 rfl rfl (Nat.le_of_ble_eq_true rfl) d_M_previous_2 (fun r er => ?_)
  refine tpq (er.1 k hkn rfl) ?_
  refine lv_astore S.1 S.2.1 d_M_previous_5 hl (by decide) rfl (fun ls hl => ?_)
  have hl : lv_has ls 5 [(4, .ref (ad k)), (0, .ref mon), (1, .int l0), (2, .int h0), (3, .int (nI k))] := hl
  refine lv_aload_n S.1 S.2.1 d_M_previous_7 rfl (lv_at hl 1 rfl) ?_
  refine kVi (rest := []) S (c_M_mayMake l) kc_M_mayMake ⟨q_98, q_100, qp_0⟩ rfl rfl ⟨Nat.le_of_ble_eq_true rfl, Nat.le_of_ble_eq_true rfl⟩ hC hS hA ⟨hm, hls.1⟩ ⟨8, _, _, _, rfl, hm⟩ ⟨Nat.zero_le _, Nat.zero_le _⟩ hl.1 rfl rfl (Nat.le_of_ble_eq_true rfl) d_M_previous_8 (fun r er => ?_)
  subst er
  refine lv_if_eq (tgt := 27) S.1 S.2.1 d_M_previous_11 (by decide) (fun hx9 => absurd hx9 hyes) (fun _ => ?_)
  refine lv_iload_n S.1 S.2.1 d_M_previous_14 rfl (lv_at hl 2 rfl) ?_
  refine lv_iload_n S.1 S.2.1 d_M_previous_15 rfl (lv_at hl 3 rfl) ?_
  refine kSi (rest := []) S (c_M_isPastInterval l l0 h0) kc_M_isPastInterval ⟨q_370, q_371⟩ rfl rfl ⟨Nat.le_of_ble_eq_true rfl, Nat.le_of_ble_eq_true rfl⟩ hC hS hA trivial ⟨Nat.zero_le _, Nat.zero_le _⟩ hl.1 rfl rfl (Nat.le_of_ble_eq_true rfl) d_M_previous_16 (fun r er => ?_)
  subst er
  refine lv_if_eq (tgt := 27) S.1 S.2.1 d_M_previous_19 (by decide) (fun hx9 => absurd hx9 hiv) (fun _ => ?_)
  refine lv_aload S.1 S.2.1 d_M_previous_22 (lv_at hl 0 rfl) ?_
  refine lv_ifnonnull (tgt := 29) S.1 S.2.1 d_M_previous_24 (by decide) ?_
  refine lv_aload_n S.1 S.2.1 d_M_previous_29 rfl (lv_at hl 1 rfl) ?_
  refine f_new (A := fun q => q = lst ∨ (0 < cap ∧ q = els) ∨ sz ≤ q) (ci := 5) (fs := [.int 0, .int 0, .int 0, .int 0, .null, .int 0, .int 0, .null]) (C := "MetricLogMonitor$Previous") (T := F_Prev) (N := 8) S hC kf_Prev t_Prev (by decide +kernel) q_380 q_381 q_19 hS rfl (fun j hj => by rcases (show j = 0 ∨ j = 1 ∨ j = 2 ∨ j = 3 ∨ j = 4 ∨ j = 5 ∨ j = 6 ∨ j = 7 by omega) with rfl | rfl | rfl | rfl | rfl | rfl | rfl | rfl <;> rfl) (Nat.le_of_ble_eq_true rfl) (Nat.le_of_ble_eq_true rfl) d_M_previous_30 (fun q H hq0 hb o1 hz hS => ?_)
  have hq9 : q = sz := hq0.trans hsz
  clear hq0
  subst q
  have hp_k := (hfm k hkn).1.nw o1
  have hn_k : ad k ≠ sz := (hfm k hkn).1.apt hsz.symm
  have hsz1 : H.size = sz + 1 := by omega
  refine lv_dup S.1 S.2.1 d_M_previous_33 rfl ?_
  refine lv_iload_n S.1 S.2.1 d_M_previous_34 rfl (lv_at hl 2 rfl) ?_
  refine lv_iload_n S.1 S.2.1 d_M_previous_35 rfl (lv_at hl 3 rfl) ?_
  refine lv_aload S.1 S.2.1 d_M_previous_36 (lv_at hl 0 rfl) ?_
  refine kw_v (A := fun q => q = lst ∨ (0 < cap ∧ q = els) ∨ sz ≤ q) (k_I (rest := [.ref sz, .ref mon]) S (c_Prev_init (b := sz) (sz := sz + 1) l (by have := hC.2.2.2.2.2.2.1; omega) l0 h0 (cx_lt (kd k)) hn_k (hx01 k hkn)) kc_Prev_init ⟨q_382, q_383⟩ rfl rfl rfl ⟨Nat.le_of_ble_eq_true rfl, Nat.le_of_ble_eq_true rfl⟩ hC hS hA ⟨hsz1, hb, hp_k⟩ rfl hl.1 rfl (Nat.le_of_ble_eq_true rfl) ⟨(Nat.le_of_ble_eq_true rfl), (Nat.le_of_ble_eq_true rfl)⟩ d_M_previous_38) hS (fun q h => Or.inr (Or.inr (h.elim (fun z => by rw [z]; exact Nat.le_refl _) (fun z => by omega)))) (fun H locs er hz hkp hS => ?_)
  obtain ⟨hsz2, hb, hsa⟩ := er
  have hw2 := cw_all (H1 := H) hH (fun q hq => (hkp q (by omega) (fun z => z.elim (by omega) (by omega))).trans (o1 q hq))
  obtain ⟨hm2, hls2, -, -, -, -⟩ := hw2
  refine kw_i (A := fun q => q = lst ∨ (0 < cap ∧ q = els) ∨ sz ≤ q) (k_V (rest := []) S (c_M_add (sz := sz + 2) (ad := ad) l (by decide) hD.2.2.2 hD.2.2.1 (hD.2.1 1 (by omega) (by omega)) (hD.fix (i := 1) (j := 2) (by omega) (by omega) (by omega)) (fun z => by have := hlt 1 (by omega); have e1 : ca mon lst els lg tm pr ad sa 1 = lst := rfl; omega) (fun z => by have := hlt 2 (by omega); have e1 : ca mon lst els lg tm pr ad sa 2 = els := rfl; omega) (fun k hk z => hD.fad (i := 1) (by omega) hk z.symm) hcase (hD.fix (i := 0) (j := 1) (by omega) (by omega) (by omega)) (hD.fix (i := 0) (j := 2) (by omega) (by omega) (by omega))) kc_M_add ⟨q_184, q_186, qp_1⟩ rfl rfl ⟨Nat.le_of_ble_eq_true rfl, Nat.le_of_ble_eq_true rfl⟩ hC hS hA ⟨hm2, hsz2, hls2, hb⟩ ⟨8, _, _, _, rfl, hm2⟩ rfl hl.1 rfl (Nat.le_of_ble_eq_true rfl) ⟨(Nat.le_of_ble_eq_true rfl), (Nat.le_of_ble_eq_true rfl)⟩ d_M_previous_41) hS (fun q h => h.elim Or.inl (fun h => h.elim (fun z => Or.inr (Or.inl z)) (fun z => Or.inr (Or.inr (by omega))))) (fun r H locs er hz hkp hS => ?_)
  obtain ⟨er0, -, els2, cap2, g, ha, he, hg1, hg2, hc1, hcp, hc2, hor⟩ := er
  have nA : ∀ y, sz ≤ y → y < sz + 2 → ¬ (y = lst ∨ (0 < cap ∧ y = els) ∨ sz + 2 ≤ y) := fun y h1 h2 z => z.elim (fun z => by have := hlt 1 (by omega); have e1 : ca mon lst els lg tm pr ad sa 1 = lst := rfl; omega) (fun z => z.elim (fun z => by have := hlt 2 (by omega); have e1 : ca mon lst els lg tm pr ad sa 2 = els := rfl; omega) (by omega))
  have hb := hb.cl hkp (nA sz (Nat.le_refl _) (by omega))
  have hsa := hsa.cl hkp (nA (sz + 1) (by omega) (by omega))
  exact rw_i S hr hk hS d_M_previous_44 ⟨er0, els2, cap2, g, cw_new hH hV hD (agn_up 7 0 k k l0 h0 (fr k) (rg k) (xr k) 0 sz (sz + 1) (fun _ => 0)) (fun q h1 h2 => hS.2.1 q h1 (fun z => z.elim (fun z => h2 (Or.inl z)) (fun z => z.elim (fun z => h2 (Or.inr z)) (by omega)))) ha he hg1 (by rw [va_up_self]; exact hg2) hc1 hc2 (by rw [fo_7 (va_up_self kd n 7)]; simp only [va_up_self, va_up_ne ad sz (show k ≠ n by omega)]; exact hb) (by rw [va_up_self, va_up_self]; exact hsa), hcp, hor⟩
set_option maxHeartbeats 4000000 in
set_option maxRecDepth 100000 in
theorem c_M_since_y (l : Launch) {K : KT} {sz : Nat} {mon lst els lg tm pr : Nat} {wat md : Int32} {n cap : Nat} {fE : Nat → Option Nat} {kd wh fi se : Nat → Nat} {lo hi fr rg xr : Nat → Int32} {dc ad sa : Nat → Nat} {stt : Nat → Nat → Int64} {G : Int64} {N : Nat} {T : Nat → Int32} {Qp : Nat → Int64} (hD : dst K mon lst els lg tm pr ad sa n cap) (hV : tabOk kd wh fi se lo hi n) (hlt : ∀ i, i < 6 + 2 * n → ca mon lst els lg tm pr ad sa i < sz) (hyes : ¬ f_M_mayMake wat n = 0) (hcase : n < cap ∨ (n = 0 ∧ cap = 0) ∨ (n = 10 ∧ cap = 10)) (l0 h0 : Int32) (hiv : ¬ f_M_isPastInterval l0 h0 = 0) {k : Nat} (hkn : k < n) {k2 : Nat} (hk2n : k2 < n)  : Met l y_M_since (Cond.code y_M_since b_M_since 7 (some Jvm.ClassFile.FieldType.int) :: WALL) { frames := 8, cells := 3, slots := 48, locals := 192 } (pc0 K [.ref mon, .int l0, .int h0, .int (nI k), .int (nI k2)] (fun H => H.size = sz ∧ cw K mon lst els lg tm pr wat md n cap fE kd wh fi se lo hi fr rg xr dc ad sa stt G N T Qp H)) (va_Qi (fun r H => r = nI n ∧ ∃ els2 cap2 g, cw K mon lst els2 lg tm pr wat (md + 1) (n + 1) cap2 g (va_up kd n 8) (va_up wh n 0) (va_up fi n k) (va_up se n k2) (va_up lo n l0) (va_up hi n h0) (va_up fr n (fr k ||| fr k2)) (va_up rg n (rg k2)) (va_up xr n (if xr k = 0 then 0 else if xr k2 = 0 then 0 else 1)) (va_up dc n 0) (va_up ad n sz) (va_up sa n (sz + 1)) (va_up stt n (fun _ => 0)) G N T Qp H ∧ (cap2 = cap ∨ cap2 = 10 ∨ cap2 = 15) ∧ ((els2 = els ∧ cap2 = cap) ∨ els2 = sz + 2)) (fun u t => t.heap = u) (fun q => q = lst ∨ (0 < cap ∧ q = els) ∨ sz ≤ q)) 3 48 (fun q => q = lst ∨ (0 < cap ∧ q = els) ∨ sz ≤ q) := by
  refine met0 (own := "MetricLogMonitor") (by decide) rfl (Nat.le_of_ble_eq_true rfl) (fun p e s m below meth c ls S hr hk hnm hC hH hl => ?_)
  have hl : lv_has ls 7 [(0, .ref mon), (1, .int l0), (2, .int h0), (3, .int (nI k)), (4, .int (nI k2))] := hl
  have hS : va_S (fun q => q = lst ∨ (0 < cap ∧ q = els) ∨ sz ≤ q) s.heap s.heap [] := va_S.rf
  have hA : ∀ q, (fun q => q = lst ∨ (0 < cap ∧ q = els) ∨ sz ≤ q) q → kz K ≤ q := fun q h => h.elim (fun z => by rw [z]; exact hD.2.1 1 (by omega) (by omega)) (fun h => h.elim (fun z => by rw [z.2]; exact hD.2.2.1 z.1) (fun z => by have := hC.2.2.2.2.2.2.1; omega))
  obtain ⟨hsz, hH⟩ := hH
  obtain ⟨hm, hls, hg, ht, hq, hfm⟩ := hH
  have hH : cw K mon lst els lg tm pr wat md n cap fE kd wh fi se lo hi fr rg xr dc ad sa stt G N T Qp s.heap := ⟨hm, hls, hg, ht, hq, hfm⟩
  refine lv_aload_n S.1 S.2.1 d_M_since_0 rfl (lv_at hl 0 rfl) ?_
  refine lv_iload_n S.1 S.2.1 d_M_since_1 rfl (lv_at hl 3 rfl) ?_
  refine kVq (rest := []) S (c_M_find l) kc_M_find ⟨q_281, q_283, qp_5⟩ rfl rfl ⟨Nat.le_of_ble_eq_true rfl, Nat.le_of_ble_eq_true rfl⟩ hC hS hA ⟨hm, hls⟩ ⟨8, _, _, _, rfl, hm⟩ ⟨Nat.zero_le _, Nat.zero_le _⟩ hl.1 rfl rfl (Nat.le_of_ble_eq_true rfl) d_M_since_2 (fun r er => ?_)
  refine tpq (er.1 k hkn rfl) ?_
  refine lv_astore S.1 S.2.1 d_M_since_5 hl (by decide) rfl (fun ls hl => ?_)
  have hl : lv_has ls 7 [(5, .ref (ad k)), (0, .ref mon), (1, .int l0), (2, .int h0), (3, .int (nI k)), (4, .int (nI k2))] := hl
  refine lv_aload_n S.1 S.2.1 d_M_since_7 rfl (lv_at hl 1 rfl) ?_
  refine lv_iload S.1 S.2.1 d_M_since_8 (lv_at hl 5 rfl) ?_
  refine kVq (rest := []) S (c_M_find l) kc_M_find ⟨q_281, q_283, qp_5⟩ rfl rfl ⟨Nat.le_of_ble_eq_true rfl, Nat.le_of_ble_eq_true rfl⟩ hC hS hA ⟨hm, hls⟩ ⟨8, _, _, _, rfl, hm⟩ ⟨Nat.zero_le _, Nat.zero_le _⟩ hl.1 rfl rfl (Nat.le_of_ble_eq_true rfl) d_M_since_10 (fun r er => ?_)
  refine tpq (er.1 k2 hk2n rfl) ?_
  refine lv_astore S.1 S.2.1 d_M_since_13 hl (by decide) rfl (fun ls hl => ?_)
  have hl : lv_has ls 7 [(6, .ref (ad k2)), (5, .ref (ad k)), (0, .ref mon), (1, .int l0), (2, .int h0), (3, .int (nI k)), (4, .int (nI k2))] := hl
  refine lv_aload_n S.1 S.2.1 d_M_since_15 rfl (lv_at hl 2 rfl) ?_
  refine kVi (rest := []) S (c_M_mayMake l) kc_M_mayMake ⟨q_98, q_100, qp_0⟩ rfl rfl ⟨Nat.le_of_ble_eq_true rfl, Nat.le_of_ble_eq_true rfl⟩ hC hS hA ⟨hm, hls.1⟩ ⟨8, _, _, _, rfl, hm⟩ ⟨Nat.zero_le _, Nat.zero_le _⟩ hl.1 rfl rfl (Nat.le_of_ble_eq_true rfl) d_M_since_16 (fun r er => ?_)
  subst er
  refine lv_if_eq (tgt := 40) S.1 S.2.1 d_M_since_19 (by decide) (fun hx9 => absurd hx9 hyes) (fun _ => ?_)
  refine lv_iload_n S.1 S.2.1 d_M_since_22 rfl (lv_at hl 3 rfl) ?_
  refine lv_iload_n S.1 S.2.1 d_M_since_23 rfl (lv_at hl 4 rfl) ?_
  refine kSi (rest := []) S (c_M_isPastInterval l l0 h0) kc_M_isPastInterval ⟨q_370, q_371⟩ rfl rfl ⟨Nat.le_of_ble_eq_true rfl, Nat.le_of_ble_eq_true rfl⟩ hC hS hA trivial ⟨Nat.zero_le _, Nat.zero_le _⟩ hl.1 rfl rfl (Nat.le_of_ble_eq_true rfl) d_M_since_24 (fun r er => ?_)
  subst er
  refine lv_if_eq (tgt := 40) S.1 S.2.1 d_M_since_27 (by decide) (fun hx9 => absurd hx9 hiv) (fun _ => ?_)
  refine lv_aload S.1 S.2.1 d_M_since_30 (lv_at hl 1 rfl) ?_
  refine lv_ifnull S.1 S.2.1 d_M_since_32 ?_
  refine lv_aload S.1 S.2.1 d_M_since_35 (lv_at hl 0 rfl) ?_
  refine lv_ifnonnull (tgt := 42) S.1 S.2.1 d_M_since_37 (by decide) ?_
  refine lv_aload_n S.1 S.2.1 d_M_since_42 rfl (lv_at hl 2 rfl) ?_
  refine f_new (A := fun q => q = lst ∨ (0 < cap ∧ q = els) ∨ sz ≤ q) (ci := 6) (fs := [.int 0, .int 0, .int 0, .int 0, .null, .int 0, .int 0, .null, .null]) (C := "MetricLogMonitor$Since") (T := F_Since) (N := 9) S hC kf_Since t_Since (by decide +kernel) q_405 q_406 q_20 hS rfl (fun j hj => by rcases (show j = 0 ∨ j = 1 ∨ j = 2 ∨ j = 3 ∨ j = 4 ∨ j = 5 ∨ j = 6 ∨ j = 7 ∨ j = 8 by omega) with rfl | rfl | rfl | rfl | rfl | rfl | rfl | rfl | rfl <;> rfl) (Nat.le_of_ble_eq_true rfl) (Nat.le_of_ble_eq_true rfl) d_M_since_43 (fun q H hq0 hb o1 hz hS => ?_)
  have hq9 : q = sz := hq0.trans hsz
  clear hq0
  subst q
  have hp_k := (hfm k hkn).1.nw o1
  have hn_k : ad k ≠ sz := (hfm k hkn).1.apt hsz.symm
  have hp_k2 := (hfm k2 hk2n).1.nw o1
  have hn_k2 : ad k2 ≠ sz := (hfm k2 hk2n).1.apt hsz.symm
  have hsz1 : H.size = sz + 1 := by omega
  refine lv_dup S.1 S.2.1 d_M_since_46 rfl ?_
  refine lv_iload_n S.1 S.2.1 d_M_since_47 rfl (lv_at hl 3 rfl) ?_
  refine lv_iload_n S.1 S.2.1 d_M_since_48 rfl (lv_at hl 4 rfl) ?_
  refine lv_aload S.1 S.2.1 d_M_since_49 (lv_at hl 1 rfl) ?_
  refine lv_aload S.1 S.2.1 d_M_since_51 (lv_at hl 0 rfl) ?_
  refine kw_v (A := fun q => q = lst ∨ (0 < cap ∧ q = els) ∨ sz ≤ q) (k_I (rest := [.ref sz, .ref mon]) S (c_Since_init (b := sz) (sz := sz + 1) l (by have := hC.2.2.2.2.2.2.1; omega) l0 h0 (cx_lt (kd k)) hn_k (cx_lt (kd k2)) hn_k2) kc_Since_init ⟨q_407, q_408⟩ rfl rfl rfl ⟨Nat.le_of_ble_eq_true rfl, Nat.le_of_ble_eq_true rfl⟩ hC hS hA ⟨hsz1, hb, hp_k, hp_k2⟩ rfl hl.1 rfl (Nat.le_of_ble_eq_true rfl) ⟨(Nat.le_of_ble_eq_true rfl), (Nat.le_of_ble_eq_true rfl)⟩ d_M_since_53) hS (fun q h => Or.inr (Or.inr (h.elim (fun z => by rw [z]; exact Nat.le_refl _) (fun z => by omega)))) (fun H locs er hz hkp hS => ?_)
  obtain ⟨hsz2, hb, hsa⟩ := er
  have hw2 := cw_all (H1 := H) hH (fun q hq => (hkp q (by omega) (fun z => z.elim (by omega) (by omega))).trans (o1 q hq))
  obtain ⟨hm2, hls2, -, -, -, -⟩ := hw2
  refine kw_i (A := fun q => q = lst ∨ (0 < cap ∧ q = els) ∨ sz ≤ q) (k_V (rest := []) S (c_M_add (sz := sz + 2) (ad := ad) l (by decide) hD.2.2.2 hD.2.2.1 (hD.2.1 1 (by omega) (by omega)) (hD.fix (i := 1) (j := 2) (by omega) (by omega) (by omega)) (fun z => by have := hlt 1 (by omega); have e1 : ca mon lst els lg tm pr ad sa 1 = lst := rfl; omega) (fun z => by have := hlt 2 (by omega); have e1 : ca mon lst els lg tm pr ad sa 2 = els := rfl; omega) (fun k hk z => hD.fad (i := 1) (by omega) hk z.symm) hcase (hD.fix (i := 0) (j := 1) (by omega) (by omega) (by omega)) (hD.fix (i := 0) (j := 2) (by omega) (by omega) (by omega))) kc_M_add ⟨q_184, q_186, qp_1⟩ rfl rfl ⟨Nat.le_of_ble_eq_true rfl, Nat.le_of_ble_eq_true rfl⟩ hC hS hA ⟨hm2, hsz2, hls2, hb⟩ ⟨8, _, _, _, rfl, hm2⟩ rfl hl.1 rfl (Nat.le_of_ble_eq_true rfl) ⟨(Nat.le_of_ble_eq_true rfl), (Nat.le_of_ble_eq_true rfl)⟩ d_M_since_56) hS (fun q h => h.elim Or.inl (fun h => h.elim (fun z => Or.inr (Or.inl z)) (fun z => Or.inr (Or.inr (by omega))))) (fun r H locs er hz hkp hS => ?_)
  obtain ⟨er0, -, els2, cap2, g, ha, he, hg1, hg2, hc1, hcp, hc2, hor⟩ := er
  have nA : ∀ y, sz ≤ y → y < sz + 2 → ¬ (y = lst ∨ (0 < cap ∧ y = els) ∨ sz + 2 ≤ y) := fun y h1 h2 z => z.elim (fun z => by have := hlt 1 (by omega); have e1 : ca mon lst els lg tm pr ad sa 1 = lst := rfl; omega) (fun z => z.elim (fun z => by have := hlt 2 (by omega); have e1 : ca mon lst els lg tm pr ad sa 2 = els := rfl; omega) (by omega))
  have hb := hb.cl hkp (nA sz (Nat.le_refl _) (by omega))
  have hsa := hsa.cl hkp (nA (sz + 1) (by omega) (by omega))
  exact rw_i S hr hk hS d_M_since_59 ⟨er0, els2, cap2, g, cw_new hH hV hD (agn_up 8 0 k k2 l0 h0 (fr k ||| fr k2) (rg k2) (if xr k = 0 then 0 else if xr k2 = 0 then 0 else 1) 0 sz (sz + 1) (fun _ => 0)) (fun q h1 h2 => hS.2.1 q h1 (fun z => z.elim (fun z => h2 (Or.inl z)) (fun z => z.elim (fun z => h2 (Or.inr z)) (by omega)))) ha he hg1 (by rw [va_up_self]; exact hg2) hc1 hc2 (by rw [fo_8 (va_up_self kd n 8)]; simp only [va_up_self, va_up_ne ad sz (show k ≠ n by omega), va_up_ne ad sz (show k2 ≠ n by omega)]; exact hb) (by rw [va_up_self, va_up_self]; exact hsa), hcp, hor⟩
set_option maxHeartbeats 4000000 in
set_option maxRecDepth 100000 in
theorem c_M_until_y (l : Launch) {K : KT} {sz : Nat} {mon lst els lg tm pr : Nat} {wat md : Int32} {n cap : Nat} {fE : Nat → Option Nat} {kd wh fi se : Nat → Nat} {lo hi fr rg xr : Nat → Int32} {dc ad sa : Nat → Nat} {stt : Nat → Nat → Int64} {G : Int64} {N : Nat} {T : Nat → Int32} {Qp : Nat → Int64} (hD : dst K mon lst els lg tm pr ad sa n cap) (hV : tabOk kd wh fi se lo hi n) (hlt : ∀ i, i < 6 + 2 * n → ca mon lst els lg tm pr ad sa i < sz) (hyes : ¬ f_M_mayMake wat n = 0) (hcase : n < cap ∨ (n = 0 ∧ cap = 0) ∨ (n = 10 ∧ cap = 10)) (l0 h0 : Int32) (hiv : ¬ f_M_isInterval l0 h0 = 0) {k : Nat} (hkn : k < n) {k2 : Nat} (hk2n : k2 < n)  : Met l y_M_until (Cond.code y_M_until b_M_until 7 (some Jvm.ClassFile.FieldType.int) :: WALL) { frames := 8, cells := 3, slots := 48, locals := 192 } (pc0 K [.ref mon, .int l0, .int h0, .int (nI k), .int (nI k2)] (fun H => H.size = sz ∧ cw K mon lst els lg tm pr wat md n cap fE kd wh fi se lo hi fr rg xr dc ad sa stt G N T Qp H)) (va_Qi (fun r H => r = nI n ∧ ∃ els2 cap2 g, cw K mon lst els2 lg tm pr wat (md + 1) (n + 1) cap2 g (va_up kd n 9) (va_up wh n 0) (va_up fi n k) (va_up se n k2) (va_up lo n l0) (va_up hi n h0) (va_up fr n (fr k ||| fr k2)) (va_up rg n (rg k2)) (va_up xr n (if xr k = 0 then 0 else if xr k2 = 0 then 0 else 1)) (va_up dc n 0) (va_up ad n sz) (va_up sa n (sz + 1)) (va_up stt n (fun _ => 0)) G N T Qp H ∧ (cap2 = cap ∨ cap2 = 10 ∨ cap2 = 15) ∧ ((els2 = els ∧ cap2 = cap) ∨ els2 = sz + 2)) (fun u t => t.heap = u) (fun q => q = lst ∨ (0 < cap ∧ q = els) ∨ sz ≤ q)) 3 48 (fun q => q = lst ∨ (0 < cap ∧ q = els) ∨ sz ≤ q) := by
  refine met0 (own := "MetricLogMonitor") (by decide) rfl (Nat.le_of_ble_eq_true rfl) (fun p e s m below meth c ls S hr hk hnm hC hH hl => ?_)
  have hl : lv_has ls 7 [(0, .ref mon), (1, .int l0), (2, .int h0), (3, .int (nI k)), (4, .int (nI k2))] := hl
  have hS : va_S (fun q => q = lst ∨ (0 < cap ∧ q = els) ∨ sz ≤ q) s.heap s.heap [] := va_S.rf
  have hA : ∀ q, (fun q => q = lst ∨ (0 < cap ∧ q = els) ∨ sz ≤ q) q → kz K ≤ q := fun q h => h.elim (fun z => by rw [z]; exact hD.2.1 1 (by omega) (by omega)) (fun h => h.elim (fun z => by rw [z.2]; exact hD.2.2.1 z.1) (fun z => by have := hC.2.2.2.2.2.2.1; omega))
  obtain ⟨hsz, hH⟩ := hH
  obtain ⟨hm, hls, hg, ht, hq, hfm⟩ := hH
  have hH : cw K mon lst els lg tm pr wat md n cap fE kd wh fi se lo hi fr rg xr dc ad sa stt G N T Qp s.heap := ⟨hm, hls, hg, ht, hq, hfm⟩
  refine lv_aload_n S.1 S.2.1 d_M_until_0 rfl (lv_at hl 0 rfl) ?_
  refine lv_iload_n S.1 S.2.1 d_M_until_1 rfl (lv_at hl 3 rfl) ?_
  refine kVq (rest := []) S (c_M_find l) kc_M_find ⟨q_281, q_283, qp_5⟩ rfl rfl ⟨Nat.le_of_ble_eq_true rfl, Nat.le_of_ble_eq_true rfl⟩ hC hS hA ⟨hm, hls⟩ ⟨8, _, _, _, rfl, hm⟩ ⟨Nat.zero_le _, Nat.zero_le _⟩ hl.1 rfl rfl (Nat.le_of_ble_eq_true rfl) d_M_until_2 (fun r er => ?_)
  refine tpq (er.1 k hkn rfl) ?_
  refine lv_astore S.1 S.2.1 d_M_until_5 hl (by decide) rfl (fun ls hl => ?_)
  have hl : lv_has ls 7 [(5, .ref (ad k)), (0, .ref mon), (1, .int l0), (2, .int h0), (3, .int (nI k)), (4, .int (nI k2))] := hl
  refine lv_aload_n S.1 S.2.1 d_M_until_7 rfl (lv_at hl 1 rfl) ?_
  refine lv_iload S.1 S.2.1 d_M_until_8 (lv_at hl 5 rfl) ?_
  refine kVq (rest := []) S (c_M_find l) kc_M_find ⟨q_281, q_283, qp_5⟩ rfl rfl ⟨Nat.le_of_ble_eq_true rfl, Nat.le_of_ble_eq_true rfl⟩ hC hS hA ⟨hm, hls⟩ ⟨8, _, _, _, rfl, hm⟩ ⟨Nat.zero_le _, Nat.zero_le _⟩ hl.1 rfl rfl (Nat.le_of_ble_eq_true rfl) d_M_until_10 (fun r er => ?_)
  refine tpq (er.1 k2 hk2n rfl) ?_
  refine lv_astore S.1 S.2.1 d_M_until_13 hl (by decide) rfl (fun ls hl => ?_)
  have hl : lv_has ls 7 [(6, .ref (ad k2)), (5, .ref (ad k)), (0, .ref mon), (1, .int l0), (2, .int h0), (3, .int (nI k)), (4, .int (nI k2))] := hl
  refine lv_aload_n S.1 S.2.1 d_M_until_15 rfl (lv_at hl 2 rfl) ?_
  refine kVi (rest := []) S (c_M_mayMake l) kc_M_mayMake ⟨q_98, q_100, qp_0⟩ rfl rfl ⟨Nat.le_of_ble_eq_true rfl, Nat.le_of_ble_eq_true rfl⟩ hC hS hA ⟨hm, hls.1⟩ ⟨8, _, _, _, rfl, hm⟩ ⟨Nat.zero_le _, Nat.zero_le _⟩ hl.1 rfl rfl (Nat.le_of_ble_eq_true rfl) d_M_until_16 (fun r er => ?_)
  subst er
  refine lv_if_eq (tgt := 40) S.1 S.2.1 d_M_until_19 (by decide) (fun hx9 => absurd hx9 hyes) (fun _ => ?_)
  refine lv_iload_n S.1 S.2.1 d_M_until_22 rfl (lv_at hl 3 rfl) ?_
  refine lv_iload_n S.1 S.2.1 d_M_until_23 rfl (lv_at hl 4 rfl) ?_
  refine kSi (rest := []) S (c_M_isInterval l l0 h0) kc_M_isInterval ⟨q_377, q_378⟩ rfl rfl ⟨Nat.le_of_ble_eq_true rfl, Nat.le_of_ble_eq_true rfl⟩ hC hS hA trivial ⟨Nat.zero_le _, Nat.zero_le _⟩ hl.1 rfl rfl (Nat.le_of_ble_eq_true rfl) d_M_until_24 (fun r er => ?_)
  subst er
  refine lv_if_eq (tgt := 40) S.1 S.2.1 d_M_until_27 (by decide) (fun hx9 => absurd hx9 hiv) (fun _ => ?_)
  refine lv_aload S.1 S.2.1 d_M_until_30 (lv_at hl 1 rfl) ?_
  refine lv_ifnull S.1 S.2.1 d_M_until_32 ?_
  refine lv_aload S.1 S.2.1 d_M_until_35 (lv_at hl 0 rfl) ?_
  refine lv_ifnonnull (tgt := 42) S.1 S.2.1 d_M_until_37 (by decide) ?_
  refine lv_aload_n S.1 S.2.1 d_M_until_42 rfl (lv_at hl 2 rfl) ?_
  refine f_new (A := fun q => q = lst ∨ (0 < cap ∧ q = els) ∨ sz ≤ q) (ci := 7) (fs := [.int 0, .int 0, .int 0, .int 0, .null, .int 0, .int 0, .null, .null]) (C := "MetricLogMonitor$Until") (T := F_Until) (N := 9) S hC kf_Until t_Until (by decide +kernel) q_433 q_434 q_21 hS rfl (fun j hj => by rcases (show j = 0 ∨ j = 1 ∨ j = 2 ∨ j = 3 ∨ j = 4 ∨ j = 5 ∨ j = 6 ∨ j = 7 ∨ j = 8 by omega) with rfl | rfl | rfl | rfl | rfl | rfl | rfl | rfl | rfl <;> rfl) (Nat.le_of_ble_eq_true rfl) (Nat.le_of_ble_eq_true rfl) d_M_until_43 (fun q H hq0 hb o1 hz hS => ?_)
  have hq9 : q = sz := hq0.trans hsz
  clear hq0
  subst q
  have hp_k := (hfm k hkn).1.nw o1
  have hn_k : ad k ≠ sz := (hfm k hkn).1.apt hsz.symm
  have hp_k2 := (hfm k2 hk2n).1.nw o1
  have hn_k2 : ad k2 ≠ sz := (hfm k2 hk2n).1.apt hsz.symm
  have hsz1 : H.size = sz + 1 := by omega
  refine lv_dup S.1 S.2.1 d_M_until_46 rfl ?_
  refine lv_iload_n S.1 S.2.1 d_M_until_47 rfl (lv_at hl 3 rfl) ?_
  refine lv_iload_n S.1 S.2.1 d_M_until_48 rfl (lv_at hl 4 rfl) ?_
  refine lv_aload S.1 S.2.1 d_M_until_49 (lv_at hl 1 rfl) ?_
  refine lv_aload S.1 S.2.1 d_M_until_51 (lv_at hl 0 rfl) ?_
  refine kw_v (A := fun q => q = lst ∨ (0 < cap ∧ q = els) ∨ sz ≤ q) (k_I (rest := [.ref sz, .ref mon]) S (c_Until_init (b := sz) (sz := sz + 1) l (by have := hC.2.2.2.2.2.2.1; omega) l0 h0 (cx_lt (kd k)) hn_k (cx_lt (kd k2)) hn_k2) kc_Until_init ⟨q_435, q_436⟩ rfl rfl rfl ⟨Nat.le_of_ble_eq_true rfl, Nat.le_of_ble_eq_true rfl⟩ hC hS hA ⟨hsz1, hb, hp_k, hp_k2⟩ rfl hl.1 rfl (Nat.le_of_ble_eq_true rfl) ⟨(Nat.le_of_ble_eq_true rfl), (Nat.le_of_ble_eq_true rfl)⟩ d_M_until_53) hS (fun q h => Or.inr (Or.inr (h.elim (fun z => by rw [z]; exact Nat.le_refl _) (fun z => by omega)))) (fun H locs er hz hkp hS => ?_)
  obtain ⟨hsz2, hb, hsa⟩ := er
  have hw2 := cw_all (H1 := H) hH (fun q hq => (hkp q (by omega) (fun z => z.elim (by omega) (by omega))).trans (o1 q hq))
  obtain ⟨hm2, hls2, -, -, -, -⟩ := hw2
  refine kw_i (A := fun q => q = lst ∨ (0 < cap ∧ q = els) ∨ sz ≤ q) (k_V (rest := []) S (c_M_add (sz := sz + 2) (ad := ad) l (by decide) hD.2.2.2 hD.2.2.1 (hD.2.1 1 (by omega) (by omega)) (hD.fix (i := 1) (j := 2) (by omega) (by omega) (by omega)) (fun z => by have := hlt 1 (by omega); have e1 : ca mon lst els lg tm pr ad sa 1 = lst := rfl; omega) (fun z => by have := hlt 2 (by omega); have e1 : ca mon lst els lg tm pr ad sa 2 = els := rfl; omega) (fun k hk z => hD.fad (i := 1) (by omega) hk z.symm) hcase (hD.fix (i := 0) (j := 1) (by omega) (by omega) (by omega)) (hD.fix (i := 0) (j := 2) (by omega) (by omega) (by omega))) kc_M_add ⟨q_184, q_186, qp_1⟩ rfl rfl ⟨Nat.le_of_ble_eq_true rfl, Nat.le_of_ble_eq_true rfl⟩ hC hS hA ⟨hm2, hsz2, hls2, hb⟩ ⟨8, _, _, _, rfl, hm2⟩ rfl hl.1 rfl (Nat.le_of_ble_eq_true rfl) ⟨(Nat.le_of_ble_eq_true rfl), (Nat.le_of_ble_eq_true rfl)⟩ d_M_until_56) hS (fun q h => h.elim Or.inl (fun h => h.elim (fun z => Or.inr (Or.inl z)) (fun z => Or.inr (Or.inr (by omega))))) (fun r H locs er hz hkp hS => ?_)
  obtain ⟨er0, -, els2, cap2, g, ha, he, hg1, hg2, hc1, hcp, hc2, hor⟩ := er
  have nA : ∀ y, sz ≤ y → y < sz + 2 → ¬ (y = lst ∨ (0 < cap ∧ y = els) ∨ sz + 2 ≤ y) := fun y h1 h2 z => z.elim (fun z => by have := hlt 1 (by omega); have e1 : ca mon lst els lg tm pr ad sa 1 = lst := rfl; omega) (fun z => z.elim (fun z => by have := hlt 2 (by omega); have e1 : ca mon lst els lg tm pr ad sa 2 = els := rfl; omega) (by omega))
  have hb := hb.cl hkp (nA sz (Nat.le_refl _) (by omega))
  have hsa := hsa.cl hkp (nA (sz + 1) (by omega) (by omega))
  exact rw_i S hr hk hS d_M_until_59 ⟨er0, els2, cap2, g, cw_new hH hV hD (agn_up 9 0 k k2 l0 h0 (fr k ||| fr k2) (rg k2) (if xr k = 0 then 0 else if xr k2 = 0 then 0 else 1) 0 sz (sz + 1) (fun _ => 0)) (fun q h1 h2 => hS.2.1 q h1 (fun z => z.elim (fun z => h2 (Or.inl z)) (fun z => z.elim (fun z => h2 (Or.inr z)) (by omega)))) ha he hg1 (by rw [va_up_self]; exact hg2) hc1 hc2 (by rw [fo_9 (va_up_self kd n 9)]; simp only [va_up_self, va_up_ne ad sz (show k ≠ n by omega), va_up_ne ad sz (show k2 ≠ n by omega)]; exact hb) (by rw [va_up_self, va_up_self]; exact hsa), hcp, hor⟩
