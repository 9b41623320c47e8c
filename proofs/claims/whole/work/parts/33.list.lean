/-! reading the list of formulas; find, mayMake; fold -/
section
variable {p : Program} {l : Launch} {e : Env} {R : Room} {s : State} {m : MethodId} {args : Array Value} {below : List Frame} {meth : Method} {c : Code} {H : Heap} {locs : List Loc} {cells slots : Nat} {Q : State → Prop}
variable {cc : ByteArray} {pc nL : Nat} {ls : Array Slot} {st rest : List Value} {K : KT} {own : String} {A : Nat → Prop} {a : Nat} {H0 : Heap}
theorem o_aald {j n : Nat} {f : Nat → Option Nat} (S : CallFix p m c cc nL s args WALL own) (hC : CX K s) (h : va_at K.1 classes (a, .inl (kO K, n, .inr (.inr (.inr (.inr f))))) H) (hn : n < 2147483648) (hj : j < n) (hdg : decode cc pc = .ok (.aaload, 1))
    (kk : W p l e R s m args below meth c H locs cells slots Q (F0 m (pc + 1) ls (va_rf (f j) :: rest))) : W p l e R s m args below meth c H locs cells slots Q (F0 m pc ls (.int (nI j) :: .ref a :: rest)) := by
  refine va_aldq (n := n) (f := f) (C := "java/lang/Object") S.1 S.2.1 hC.1 (vs h) 0 3 rfl rfl (vp_in_nI hj hn) hdg ?_
  rw [clamp_nI hj hn]
  exact kk
theorem tpq {x y : Option Nat} (h : x = y) (k : W p l e R s m args below meth c H locs cells slots Q (F0 m pc ls (va_rf y :: rest))) : W p l e R s m args below meth c H locs cells slots Q (F0 m pc ls (va_rf x :: rest)) := h ▸ k
end
/-- the list holds n formulas (their addresses ad), in an array of cap places -/
def lsOk (K : KT) (lst els : Nat) (md : Int32) (n cap : Nat) (fE : Nat → Option Nat) (ad : Nat → Nat) (H : Heap) : Prop :=
  va_at K.1 classes (lst, .inr (10, [.int md, .ref els, .int (nI n)])) H ∧ cap < 2147483648 ∧ n ≤ cap ∧ (0 < cap → va_at K.1 classes (els, .inl (kO K, cap, .inr (.inr (.inr (.inr fE))))) H) ∧ ∀ k, k < n → fE k = some (ad k) ∧ ∃ (c : Nat) (fs : List Value), c < 8 ∧ va_at K.1 classes (ad k, .inr (c, fs)) H
theorem cst_0 : Cond.castable "MetricLogMonitor$Atom" "MetricLogMonitor$Formula" ∈ NALL := qn_904
theorem cst_1 : Cond.castable "MetricLogMonitor$Comparison" "MetricLogMonitor$Formula" ∈ NALL := qn_905
theorem cst_2 : Cond.castable "MetricLogMonitor$Not" "MetricLogMonitor$Formula" ∈ NALL := qn_908
theorem cst_3 : Cond.castable "MetricLogMonitor$Join" "MetricLogMonitor$Formula" ∈ NALL := qn_907
theorem cst_4 : Cond.castable "MetricLogMonitor$Exists" "MetricLogMonitor$Formula" ∈ NALL := qn_906
theorem cst_5 : Cond.castable "MetricLogMonitor$Previous" "MetricLogMonitor$Formula" ∈ NALL := qn_909
theorem cst_6 : Cond.castable "MetricLogMonitor$Since" "MetricLogMonitor$Formula" ∈ NALL := qn_910
theorem cst_7 : Cond.castable "MetricLogMonitor$Until" "MetricLogMonitor$Formula" ∈ NALL := qn_911
def isFc (c : Nat) : Prop := ∃ (C : String) (T : u_T) (N : Nat), classes[c]? = some (C, T, N) ∧ Cond.castable C "MetricLogMonitor$Formula" ∈ NALL
theorem fcast {c : Nat} (hc : c < 8) : isFc c := lt8 (P := isFc) ⟨_, _, _, rfl, cst_0⟩ ⟨_, _, _, rfl, cst_1⟩ ⟨_, _, _, rfl, cst_2⟩ ⟨_, _, _, rfl, cst_3⟩ ⟨_, _, _, rfl, cst_4⟩ ⟨_, _, _, rfl, cst_5⟩ ⟨_, _, _, rfl, cst_6⟩ ⟨_, _, _, rfl, cst_7⟩ hc
set_option maxHeartbeats 4000000 in
set_option maxRecDepth 100000 in
theorem c_Preconditions_checkIndex (l : Launch) {K : KT} {k n : Nat} (hk2 : k < n) (hn : n < 2147483648) : Met l y_Preconditions_checkIndex (Cond.code y_Preconditions_checkIndex b_Preconditions_checkIndex 3 (some Jvm.ClassFile.FieldType.int) :: WALL) { frames := 0, cells := 0, slots := 0, locals := 0 } (pc0 K [.int (nI k), .int (nI n), .null] (fun H => True)) (vp_Si (fun r => r = nI k)) 0 0 (fun _ => False) := by
  refine met0 (own := "jdk/internal/util/Preconditions") (by decide) rfl (Nat.le_of_ble_eq_true rfl) (fun p e s m below meth c ls S hr hk hnm hC hH hl => ?_)
  have hl : lv_has ls 3 [(0, .int (nI k)), (1, .int (nI n)), (2, .null)] := hl
  refine lv_iload_n S.1 S.2.1 d_Preconditions_checkIndex_0 rfl (lv_at hl 0 rfl) ?_
  refine lv_if_lt (tgt := 9) S.1 S.2.1 d_Preconditions_checkIndex_1 (by decide) (fun hx9 => absurd hx9 (nI_pos (by omega))) (fun _ => ?_)
  refine lv_iload_n S.1 S.2.1 d_Preconditions_checkIndex_4 rfl (lv_at hl 0 rfl) ?_
  refine lv_iload_n S.1 S.2.1 d_Preconditions_checkIndex_5 rfl (lv_at hl 1 rfl) ?_
  refine lv_icmp_lt (tgt := 16) S.1 S.2.1 d_Preconditions_checkIndex_6 (by decide) (fun _ => ?_) (fun hx9 => absurd (nI_lt hk2 hn) hx9)
  refine lv_iload_n S.1 S.2.1 d_Preconditions_checkIndex_16 rfl (lv_at hl 0 rfl) ?_
  exact r_i S hr hk d_Preconditions_checkIndex_17 rfl
set_option maxHeartbeats 4000000 in
set_option maxRecDepth 100000 in
theorem c_Objects_checkIndex (l : Launch) {K : KT} {k n : Nat} (hk2 : k < n) (hn : n < 2147483648) : Met l y_Objects_checkIndex (Cond.code y_Objects_checkIndex b_Objects_checkIndex 2 (some Jvm.ClassFile.FieldType.int) :: WALL) { frames := 1, cells := 0, slots := 0, locals := 22 } (pc0 K [.int (nI k), .int (nI n)] (fun H => True)) (vp_Si (fun r => r = nI k)) 0 0 (fun _ => False) := by
  refine met0 (own := "java/util/Objects") (by decide) rfl (Nat.le_of_ble_eq_true rfl) (fun p e s m below meth c ls S hr hk hnm hC hH hl => ?_)
  have hl : lv_has ls 2 [(0, .int (nI k)), (1, .int (nI n))] := hl
  refine lv_iload_n S.1 S.2.1 d_Objects_checkIndex_0 rfl (lv_at hl 0 rfl) ?_
  refine lv_iload_n S.1 S.2.1 d_Objects_checkIndex_1 rfl (lv_at hl 1 rfl) ?_
  refine lv_null S.1 S.2.1 d_Objects_checkIndex_2 ?_
  refine kSi (rest := []) S (c_Preconditions_checkIndex l hk2 hn) kc_Preconditions_checkIndex ⟨q_292, q_293⟩ rfl rfl ⟨Nat.le_of_ble_eq_true rfl, Nat.le_of_ble_eq_true rfl⟩ hC (hSF s) (hAF K) trivial ⟨Nat.zero_le _, Nat.zero_le _⟩ hl.1 rfl rfl (Nat.le_of_ble_eq_true rfl) d_Objects_checkIndex_3 (fun r er => ?_)
  subst er
  exact r_i S hr hk d_Objects_checkIndex_6 rfl
set_option maxHeartbeats 4000000 in
set_option maxRecDepth 100000 in
theorem c_AL_elementData (l : Launch) {K : KT} {lst els : Nat} {md : Int32} {n : Nat} {cap : Nat} {fE : Nat → Option Nat} {k : Nat} (hk2 : k < cap) (hcap : cap < 2147483648) : Met l y_AL_elementData (Cond.code y_AL_elementData b_AL_elementData 2 (some (Jvm.ClassFile.FieldType.object "java/lang/Object")) :: WALL) { frames := 0, cells := 0, slots := 0, locals := 0 } (pc0 K [.ref lst, .int (nI k)] (fun H => va_at K.1 classes (lst, .inr (10, [.int md, .ref els, .int (nI n)])) H ∧ va_at K.1 classes (els, .inl (kO K, cap, .inr (.inr (.inr (.inr fE))))) H)) (va_Sq (fun r => r = fE k)) 0 0 (fun _ => False) := by
  refine met0 (own := "java/util/ArrayList") (by decide) rfl (Nat.le_of_ble_eq_true rfl) (fun p e s m below meth c ls S hr hk hnm hC hH hl => ?_)
  obtain ⟨ha, he⟩ := hH
  have hl : lv_has ls 2 [(0, .ref lst), (1, .int (nI k))] := hl
  refine lv_aload_n S.1 S.2.1 d_AL_elementData_0 rfl (lv_at hl 0 rfl) ?_
  refine o_get (v := .ref els) S hC kf_AL ha rfl 1 (by decide) q_45 rfl d_AL_elementData_1 ?_
  refine lv_iload_n S.1 S.2.1 d_AL_elementData_4 rfl (lv_at hl 1 rfl) ?_
  refine o_aald (j := k) S hC he hcap (by omega) d_AL_elementData_5 ?_
  exact r_q (r := (fE k)) S hr hk d_AL_elementData_6 rfl
set_option maxHeartbeats 4000000 in
set_option maxRecDepth 100000 in
theorem c_AL_get (l : Launch) {K : KT} {lst els : Nat} {md : Int32} {n : Nat} {cap : Nat} {fE : Nat → Option Nat} {k : Nat} (hk2 : k < n) (hn : n ≤ cap) (hcap : cap < 2147483648) : Met l y_AL_get (Cond.code y_AL_get b_AL_get 2 (some (Jvm.ClassFile.FieldType.object "java/lang/Object")) :: WALL) { frames := 2, cells := 0, slots := 0, locals := 43 } (pc0 K [.ref lst, .int (nI k)] (fun H => va_at K.1 classes (lst, .inr (10, [.int md, .ref els, .int (nI n)])) H ∧ va_at K.1 classes (els, .inl (kO K, cap, .inr (.inr (.inr (.inr fE))))) H)) (va_Sq (fun r => r = fE k)) 0 0 (fun _ => False) := by
  refine met0 (own := "java/util/ArrayList") (by decide) rfl (Nat.le_of_ble_eq_true rfl) (fun p e s m below meth c ls S hr hk hnm hC hH hl => ?_)
  obtain ⟨ha, he⟩ := hH
  have hl : lv_has ls 2 [(0, .ref lst), (1, .int (nI k))] := hl
  refine lv_iload_n S.1 S.2.1 d_AL_get_0 rfl (lv_at hl 1 rfl) ?_
  refine lv_aload_n S.1 S.2.1 d_AL_get_1 rfl (lv_at hl 0 rfl) ?_
  refine o_get (v := .int (nI n)) S hC kf_AL ha rfl 2 (by decide) q_46 rfl d_AL_get_2 ?_
  refine kSi (rest := []) S (c_Objects_checkIndex l hk2 (by omega)) kc_Objects_checkIndex ⟨q_289, q_290⟩ rfl rfl ⟨Nat.le_of_ble_eq_true rfl, Nat.le_of_ble_eq_true rfl⟩ hC (hSF s) (hAF K) trivial ⟨Nat.zero_le _, Nat.zero_le _⟩ hl.1 rfl rfl (Nat.le_of_ble_eq_true rfl) d_AL_get_5 (fun r er => ?_)
  subst er
  refine lv_pop S.1 S.2.1 d_AL_get_8 rfl ?_
  refine lv_aload_n S.1 S.2.1 d_AL_get_9 rfl (lv_at hl 0 rfl) ?_
  refine lv_iload_n S.1 S.2.1 d_AL_get_10 rfl (lv_at hl 1 rfl) ?_
  refine kVq (rest := []) S (c_AL_elementData l (by omega) hcap) kc_AL_elementData ⟨q_295, q_296, q_297⟩ rfl rfl ⟨Nat.le_of_ble_eq_true rfl, Nat.le_of_ble_eq_true rfl⟩ hC (hSF s) (hAF K) ⟨ha, he⟩ ⟨10, _, _, _, rfl, ha⟩ ⟨Nat.zero_le _, Nat.zero_le _⟩ hl.1 rfl rfl (Nat.le_of_ble_eq_true rfl) d_AL_get_11 (fun r er => ?_)
  subst er
  exact r_q (r := (fE k)) S hr hk d_AL_get_14 rfl
def f_M_mayMake (wat : Int32) (n : Nat) : Int32 := (if wat = 0 then (if 12 ≤ (nI n) then 0 else 1) else 0)
theorem z_M_mayMake (wat : Int32) (n : Nat) : f_M_mayMake wat n = 0 ∨ f_M_mayMake wat n = 1 := by
  unfold f_M_mayMake
  repeat' split
  all_goals first | exact Or.inl rfl | exact Or.inr rfl
set_option maxHeartbeats 4000000 in
set_option maxRecDepth 100000 in
theorem c_M_mayMake (l : Launch) {K : KT} {mon lst lg : Nat} {wat : Int32} {els : Nat} {md : Int32} {n : Nat} : Met l y_M_mayMake (Cond.code y_M_mayMake b_M_mayMake 1 (some Jvm.ClassFile.FieldType.boolean) :: WALL) { frames := 1, cells := 0, slots := 0, locals := 20 } (pc0 K [.ref mon] (fun H => va_at K.1 classes (mon, .inr (8, [.ref lst, .ref lg, .int wat])) H ∧ va_at K.1 classes (lst, .inr (10, [.int md, .ref els, .int (nI n)])) H)) (vp_Si (fun r => r = f_M_mayMake wat n)) 0 0 (fun _ => False) := by
  refine met0 (own := "MetricLogMonitor") (by decide) rfl (Nat.le_of_ble_eq_true rfl) (fun p e s m below meth c ls S hr hk hnm hC hH hl => ?_)
  obtain ⟨hm, ha⟩ := hH
  have hl : lv_has ls 1 [(0, .ref mon)] := hl
  refine lv_aload_n S.1 S.2.1 d_M_mayMake_0 rfl (lv_at hl 0 rfl) ?_
  refine o_get (v := .int wat) S hC kf_M hm rfl 2 (by decide) q_86 rfl d_M_mayMake_1 ?_
  refine lv_if_ne (tgt := 23) S.1 S.2.1 d_M_mayMake_4 (by decide) (fun hbr1 => ?_) (fun hbr1 => ?_)
  · refine lv_iconst (v := 0) S.1 S.2.1 d_M_mayMake_23 (by decide) ?_
    exact r_z S hr hk rfl d_M_mayMake_24 (by unfold f_M_mayMake; simp only [if_neg hbr1])
  · refine lv_aload_n S.1 S.2.1 d_M_mayMake_7 rfl (lv_at hl 0 rfl) ?_
    refine o_get (v := .ref lst) S hC kf_M hm rfl 0 (by decide) q_84 rfl d_M_mayMake_8 ?_
    refine kVi (rest := []) S (c_AL_size l) kc_AL_size ⟨q_102, q_103, q_104⟩ rfl rfl ⟨Nat.le_of_ble_eq_true rfl, Nat.le_of_ble_eq_true rfl⟩ hC (hSF s) (hAF K) ha ⟨10, _, _, _, rfl, ha⟩ ⟨Nat.zero_le _, Nat.zero_le _⟩ hl.1 rfl rfl (Nat.le_of_ble_eq_true rfl) d_M_mayMake_11 (fun r er => ?_)
    subst er
    refine lv_bipush (v := 12) S.1 S.2.1 d_M_mayMake_14 (by decide) ?_
    refine lv_icmp_ge (tgt := 23) S.1 S.2.1 d_M_mayMake_16 (by decide) (fun hbr2 => ?_) (fun hbr2 => ?_)
    · refine lv_iconst (v := 0) S.1 S.2.1 d_M_mayMake_23 (by decide) ?_
      exact r_z S hr hk rfl d_M_mayMake_24 (by unfold f_M_mayMake; simp only [if_pos hbr1, if_pos hbr2])
    · refine lv_iconst (v := 1) S.1 S.2.1 d_M_mayMake_19 (by decide) ?_
      refine lv_goto (tgt := 24) S.1 S.2.1 d_M_mayMake_20 (by decide) ?_
      exact r_z S hr hk rfl d_M_mayMake_24 (by unfold f_M_mayMake; simp only [if_pos hbr1, if_neg hbr2])
set_option maxHeartbeats 4000000 in
set_option maxRecDepth 100000 in
theorem c_M_find (l : Launch) {K : KT} {mon lst lg : Nat} {wat : Int32} {els : Nat} {md : Int32} {n cap : Nat} {fE : Nat → Option Nat} {ad : Nat → Nat} {f : Int32} : Met l y_M_find (Cond.code y_M_find b_M_find 2 (some (Jvm.ClassFile.FieldType.object "MetricLogMonitor$Formula")) :: WALL) { frames := 3, cells := 0, slots := 0, locals := 64 } (pc0 K [.ref mon, .int f] (fun H => va_at K.1 classes (mon, .inr (8, [.ref lst, .ref lg, .int wat])) H ∧ lsOk K lst els md n cap fE ad H)) (va_Sq (fun r => (∀ k, k < n → f = nI k → r = some (ad k)) ∧ ((∀ k, k < n → ¬ f = nI k) → r = none))) 0 0 (fun _ => False) := by
  refine met0 (own := "MetricLogMonitor") (by decide) rfl (Nat.le_of_ble_eq_true rfl) (fun p e s m below meth c ls S hr hk hnm hC hH hl => ?_)
  obtain ⟨hm, ha, hcap, hn, hels, hks⟩ := hH
  have hl : lv_has ls 2 [(0, .ref mon), (1, .int f)] := hl
  refine lv_iload_n S.1 S.2.1 d_M_find_0 rfl (lv_at hl 1 rfl) ?_
  refine lv_if_lt (tgt := 29) S.1 S.2.1 d_M_find_1 (by decide) (fun hbr1 => ?_) (fun hbr1 => ?_)
  · refine lv_null S.1 S.2.1 d_M_find_29 ?_
    exact r_q (r := none) S hr hk d_M_find_30 ⟨fun k hk ek => absurd (by rw [← ek]; exact hbr1) (nI_pos (by omega)), fun _ => rfl⟩
  · refine lv_iload_n S.1 S.2.1 d_M_find_4 rfl (lv_at hl 1 rfl) ?_
    refine lv_aload_n S.1 S.2.1 d_M_find_5 rfl (lv_at hl 0 rfl) ?_
    refine o_get (v := .ref lst) S hC kf_M hm rfl 0 (by decide) q_84 rfl d_M_find_6 ?_
    refine kVi (rest := [.int f]) S (c_AL_size l) kc_AL_size ⟨q_102, q_103, q_104⟩ rfl rfl ⟨Nat.le_of_ble_eq_true rfl, Nat.le_of_ble_eq_true rfl⟩ hC (hSF s) (hAF K) ha ⟨10, _, _, _, rfl, ha⟩ ⟨Nat.zero_le _, Nat.zero_le _⟩ hl.1 rfl rfl (Nat.le_of_ble_eq_true rfl) d_M_find_9 (fun r er => ?_)
    subst er
    refine lv_icmp_ge (tgt := 29) S.1 S.2.1 d_M_find_12 (by decide) (fun hbr2 => ?_) (fun hbr2 => ?_)
    · refine lv_null S.1 S.2.1 d_M_find_29 ?_
      exact r_q (r := none) S hr hk d_M_find_30 ⟨fun k hk ek => absurd (by rw [← ek]; exact hbr2) (nI_ge hk (by omega)), fun _ => rfl⟩
    · refine lv_aload_n S.1 S.2.1 d_M_find_15 rfl (lv_at hl 0 rfl) ?_
      refine o_get (v := .ref lst) S hC kf_M hm rfl 0 (by decide) q_84 rfl d_M_find_16 ?_
      refine lv_iload_n S.1 S.2.1 d_M_find_19 rfl (lv_at hl 1 rfl) ?_
      obtain ⟨k, hk31, rfl⟩ := nI_of hbr1
      have hk2 : k < n := by rw [nI_leI (by omega) hk31] at hbr2; omega
      obtain ⟨hfe, c0, fs, hc8, hfo⟩ := hks k hk2
      obtain ⟨C, T0, N0, hcl, hct⟩ := fcast hc8
      refine kVq (rest := []) S (c_AL_get l hk2 hn hcap) kc_AL_get ⟨q_285, q_286, q_287⟩ rfl rfl ⟨Nat.le_of_ble_eq_true rfl, Nat.le_of_ble_eq_true rfl⟩ hC (hSF s) (hAF K) ⟨ha, hels (by omega)⟩ ⟨10, _, _, _, rfl, ha⟩ ⟨Nat.zero_le _, Nat.zero_le _⟩ hl.1 rfl rfl (Nat.le_of_ble_eq_true rfl) d_M_find_20 (fun r er => ?_)
      refine tpq (er.trans hfe) ?_
      refine va_castY (C := C) (nm := "MetricLogMonitor$Formula") S.1 S.2.1 S.2.2.2.1 (S.2.2.2.2 _ q_299) (hC.2.1 _ hct) (k_recv hC ⟨c0, T0, N0, fs, hcl, hfo⟩) d_M_find_23 ?_
      refine lv_goto (tgt := 30) S.1 S.2.1 d_M_find_26 (by decide) ?_
      exact r_q (r := some (ad k)) S hr hk d_M_find_30 ⟨fun k2 hk3 ek => by rw [(nI_eq (by omega) (by omega)).mp ek], fun h => absurd rfl (h k hk2)⟩
def f_M_fold (v : Nat) (x : Int64) : Int64 := ((((x ||| (((x : Int64).toUInt64 >>> ((((1 : Int32) <<< (((2 * nI v) : Int32) &&& 31)) : Int32).toInt64.toUInt64 &&& Int64.toUInt64 63)).toInt64)) ||| (((x : Int64).toUInt64 >>> (((2 * ((1 : Int32) <<< (((2 * nI v) : Int32) &&& 31))) : Int32).toInt64.toUInt64 &&& Int64.toUInt64 63)).toInt64)) ||| (((x : Int64).toUInt64 >>> (((3 * ((1 : Int32) <<< (((2 * nI v) : Int32) &&& 31))) : Int32).toInt64.toUInt64 &&& Int64.toUInt64 63)).toInt64)) &&& (zAt v))
set_option maxHeartbeats 4000000 in
set_option maxRecDepth 100000 in
theorem c_M_fold (l : Launch) {K : KT}  {v : Nat} (hv : v < 3) (x : Int64) : Met l y_M_fold (Cond.code y_M_fold b_M_fold 4 (some Jvm.ClassFile.FieldType.long) :: WALL) { frames := 0, cells := 0, slots := 0, locals := 0 } (pc0 K [.int (nI v), .long x] (fun H => True)) (vp_Sl (fun r => r = f_M_fold v x)) 0 0 (fun _ => False) := by
  refine met0 (own := "MetricLogMonitor") (by decide) rfl (Nat.le_of_ble_eq_true rfl) (fun p e s m below meth c ls S hr hk hnm hC hH hl => ?_)
  have hl : lv_has ls 4 [(0, .int (nI v)), (1, .long x)] := hl
  refine lv_iconst (v := 1) S.1 S.2.1 d_M_fold_0 (by decide) ?_
  refine lv_iconst (v := 2) S.1 S.2.1 d_M_fold_1 (by decide) ?_
  refine lv_iload_n S.1 S.2.1 d_M_fold_2 rfl (lv_at hl 0 rfl) ?_
  refine lv_imul S.1 S.2.1 d_M_fold_3 ?_
  refine lv_ishl S.1 S.2.1 d_M_fold_4 ?_
  refine lv_istore_n S.1 S.2.1 d_M_fold_5 rfl hl (by decide) rfl (fun ls hl => ?_)
  have hl : lv_has ls 4 [(3, .int ((1 : Int32) <<< (((2 * nI v) : Int32) &&& 31))), (0, .int (nI v)), (1, .long x)] := hl
  refine lv_lload_n S.1 S.2.1 d_M_fold_6 rfl (lv_at hl 2 rfl) ?_
  refine lv_lload_n S.1 S.2.1 d_M_fold_7 rfl (lv_at hl 2 rfl) ?_
  refine lv_iload_n S.1 S.2.1 d_M_fold_8 rfl (lv_at hl 0 rfl) ?_
  refine lv_lushr (v := (((x : Int64).toUInt64 >>> ((((1 : Int32) <<< (((2 * nI v) : Int32) &&& 31)) : Int32).toInt64.toUInt64 &&& Int64.toUInt64 63)).toInt64)) S.1 S.2.1 d_M_fold_9 rfl ?_
  refine lv_lor S.1 S.2.1 d_M_fold_10 ?_
  refine lv_lload_n S.1 S.2.1 d_M_fold_11 rfl (lv_at hl 2 rfl) ?_
  refine lv_iconst (v := 2) S.1 S.2.1 d_M_fold_12 (by decide) ?_
  refine lv_iload_n S.1 S.2.1 d_M_fold_13 rfl (lv_at hl 0 rfl) ?_
  refine lv_imul S.1 S.2.1 d_M_fold_14 ?_
  refine lv_lushr (v := (((x : Int64).toUInt64 >>> (((2 * ((1 : Int32) <<< (((2 * nI v) : Int32) &&& 31))) : Int32).toInt64.toUInt64 &&& Int64.toUInt64 63)).toInt64)) S.1 S.2.1 d_M_fold_15 rfl ?_
  refine lv_lor S.1 S.2.1 d_M_fold_16 ?_
  refine lv_lload_n S.1 S.2.1 d_M_fold_17 rfl (lv_at hl 2 rfl) ?_
  refine lv_iconst (v := 3) S.1 S.2.1 d_M_fold_18 (by decide) ?_
  refine lv_iload_n S.1 S.2.1 d_M_fold_19 rfl (lv_at hl 0 rfl) ?_
  refine lv_imul S.1 S.2.1 d_M_fold_20 ?_
  refine lv_lushr (v := (((x : Int64).toUInt64 >>> (((3 * ((1 : Int32) <<< (((2 * nI v) : Int32) &&& 31))) : Int32).toInt64.toUInt64 &&& Int64.toUInt64 63)).toInt64)) S.1 S.2.1 d_M_fold_21 rfl ?_
  refine lv_lor S.1 S.2.1 d_M_fold_22 ?_
  refine va_gets (C := "MetricLogMonitor") (n := "ZERO_AT") (d := "[J") (ref := "MetricLogMonitor") S.1 S.2.1 (hC.2.2.1.narrow (B := fun _ => False) (fun _ h => h.elim)) (hSF s) S.2.2.2.1 (S.2.2.2.2 _ q_608) (fun _ h9 => h9) d_M_fold_23 ?_
  refine lv_iload_n S.1 S.2.1 d_M_fold_26 rfl (lv_at hl 1 rfl) ?_
  refine va_tl (v := .long (zAt v)) S.1 S.2.1 (hC.2.2.2.1.narrow (B := fun _ => False) (fun _ h => h.elim)) (hSF s) (vp_in_nI hv (by decide)) (by rw [nI_clamp (by omega)]) d_M_fold_27 ?_
  refine lv_land S.1 S.2.1 d_M_fold_28 ?_
  exact r_l S hr hk d_M_fold_29 (by unfold f_M_fold; rfl)
