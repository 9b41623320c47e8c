/-! the law's loop -/
theorem ext_iff {L i : Nat} (hL : L ≤ 2560) (hi : i ≤ 5000) : nI L - 5 < nI i ↔ L < i + 5 := by
  rw [show (5 : Int32) = nI 5 from rfl, Int32.lt_iff_toInt_lt, pk_sub_toInt (by omega) (by omega), nI_toInt (by omega)]
  omega
section
variable {p : Program} {e : Env} {s : State} {m : MethodId} {below : List Frame} {meth : Method} {c : Code} {H : Heap} {locs : List Loc} {cells slots : Nat} {Q : State → Prop} {ls : Array Slot}
variable {K : KT} {mon lst lg tm pr b L i : Nat} {ma : Nat → Nat} {xs : Nat → Int32}
set_option maxHeartbeats 4000000 in
set_option maxRecDepth 100000 in
theorem law_loop (l : Launch) (S : CallFix p m c code 4 s #[Value.ref b] WALL "MetricLogMonitorLaw") (hC : CX K s) (hkz : kz K = s.heap.size) (hX : va_X b L xs s s.heap) (hbl : b < s.heap.size) (hL : L ≤ 2560)
    (hend : ∀ (H : Heap) (locs : List Loc) (cells slots : Nat) (ls : Array Slot), va_S (fun q : Nat => kz K ≤ q) s.heap H locs → cells ≤ room_1.cells → slots ≤ room_1.slots → W p l e room_1 s m #[Value.ref b] below meth c H locs cells slots Q (F0 m 767 ls [])) :
    ∀ (d i cells slots : Nat) (H : Heap) (locs : List Loc) (ls : Array Slot), L < i + 5 * (d + 1) → i ≤ L → cells + 3 * d ≤ room_1.cells → slots + 48 * d ≤ room_1.slots → inv K mon lst lg tm pr ma H → va_S (fun q : Nat => kz K ≤ q) s.heap H locs → lv_has ls 4 [(3, .int (nI i)), (2, .ref (ma 0)), (1, .ref mon), (0, .ref b)] → W p l e room_1 s m #[Value.ref b] below meth c H locs cells slots Q (F0 m 18 ls []) := by
  intro d
  have hbA : ¬ (fun q : Nat => kz K ≤ q) b := fun z => absurd (show kz K ≤ b from z) (by omega)
  induction d with
  | zero =>
    intro i cells slots H locs ls hd hiL hcc hss hv hS hl
    refine lv_iload_n S.1 S.2.1 d_Law_law_18 rfl (lv_at hl 0 rfl) ?_
    refine lv_aload_n S.1 S.2.1 d_Law_law_19 rfl (lv_at hl 3 rfl) ?_
    refine va_slen S.1 S.2.1 hX hbl hbA hS d_Law_law_20 ?_
    refine lv_iconst (v := 5) S.1 S.2.1 d_Law_law_21 (by decide) ?_
    refine lv_isub S.1 S.2.1 d_Law_law_22 ?_
    refine lv_icmp_gt (tgt := 767) S.1 S.2.1 d_Law_law_23 (by decide) (fun _ => ?_) (fun hx9 => absurd ((ext_iff hL (by omega)).mpr (by omega)) hx9)
    exact hend H locs cells slots ls hS (by omega) (by omega)
  | succ d ih =>
    intro i cells slots H locs ls hd hiL hcc hss hv hS hl
    refine lv_iload_n S.1 S.2.1 d_Law_law_18 rfl (lv_at hl 0 rfl) ?_
    refine lv_aload_n S.1 S.2.1 d_Law_law_19 rfl (lv_at hl 3 rfl) ?_
    refine va_slen S.1 S.2.1 hX hbl hbA hS d_Law_law_20 ?_
    refine lv_iconst (v := 5) S.1 S.2.1 d_Law_law_21 (by decide) ?_
    refine lv_isub S.1 S.2.1 d_Law_law_22 ?_
    refine lv_icmp_gt (tgt := 767) S.1 S.2.1 d_Law_law_23 (by decide) (fun _ => ?_) (fun hx9 => ?_)
    · exact hend H locs cells slots ls hS (by omega) (by omega)
    have hi5 : i + 5 ≤ L := by
      have := (not_congr (ext_iff (L := L) (i := i) hL (by omega))).mp hx9
      omega
    have kk : ∀ (H' : Heap) (locs' : List Loc), inv K mon lst lg tm pr ma H' → va_S (fun q : Nat => kz K ≤ q) s.heap H' locs' → W p l e room_1 s m #[Value.ref b] below meth c H' locs' (cells + 3) (slots + 48) Q (F0 m 761 ls []) := by
      intro H' locs' hv' hS'
      refine lv_iinc (v := nI (i + 5)) S.1 S.2.1 d_Law_law_761 hl (k := 0) rfl (nI_add i 5) (by decide) rfl (fun ls hl => ?_)
      have hl : lv_has ls 4 [(3, .int (nI (i + 5))), (2, .ref (ma 0)), (1, .ref mon), (0, .ref b)] := hl
      refine lv_goto (tgt := 18) S.1 S.2.1 d_Law_law_764 (by decide) ?_
      exact ih (i + 5) (cells + 3) (slots + 48) H' locs' ls (by omega) (by omega) (by omega) (by omega) hv' hS' hl
    refine lv_aload_n S.1 S.2.1 d_Law_law_26 rfl (lv_at hl 3 rfl) ?_
    refine lv_iload_n S.1 S.2.1 d_Law_law_27 rfl (lv_at hl 0 rfl) ?_
    refine s_ld (j := i) S hX hbl hbA hS (by omega) hL d_Law_law_28 ?_
    refine lv_bipush (v := 31) S.1 S.2.1 d_Law_law_29 (by decide) ?_
    refine lv_iand S.1 S.2.1 d_Law_law_31 ?_
    obtain ⟨j, hj, ej⟩ := pk_andE (xs i) (m := 31) 5 (by decide)
    have hj : j < 32 := hj
    refine tpi (y := nI j) ej ?_
    by_cases h18 : 18 ≤ j
    · refine lv_tableOut (tgt := 761) S.1 S.2.1 d_Law_law_32 (Or.inr (by rw [nI_toInt (by omega)]; omega)) (by decide) ?_
      exact W.widen (k := cells + 3) (n := slots + 48) (by omega) (by omega) (kk H locs hv hS)
    rcases (show j = 0 ∨ j = 1 ∨ j = 2 ∨ j = 3 ∨ j = 4 ∨ j = 5 ∨ j = 6 ∨ j = 7 ∨ j = 8 ∨ j = 9 ∨ j = 10 ∨ j = 11 ∨ j = 12 ∨ j = 13 ∨ j = 14 ∨ j = 15 ∨ j = 16 ∨ j = 17 by omega) with rfl | rfl | rfl | rfl | rfl | rfl | rfl | rfl | rfl | rfl | rfl | rfl | rfl | rfl | rfl | rfl | rfl | rfl
    · refine lv_tableIn (x := nI 0) (off := 88) (tgt := 120) S.1 S.2.1 d_Law_law_32 (by decide) (by decide) (by decide) (by decide) ?_
      exact law_0 l S hC hkz hX hbl hL hi5 (by omega) (by omega) hv hS hl kk
    · refine lv_tableIn (x := nI 1) (off := 131) (tgt := 163) S.1 S.2.1 d_Law_law_32 (by decide) (by decide) (by decide) (by decide) ?_
      exact law_1 l S hC hkz hX hbl hL hi5 (by omega) (by omega) hv hS hl kk
    · refine lv_tableIn (x := nI 2) (off := 190) (tgt := 222) S.1 S.2.1 d_Law_law_32 (by decide) (by decide) (by decide) (by decide) ?_
      exact law_2 l S hC hkz hX hbl hL hi5 (by omega) (by omega) hv hS hl kk
    · refine lv_tableIn (x := nI 3) (off := 213) (tgt := 245) S.1 S.2.1 d_Law_law_32 (by decide) (by decide) (by decide) (by decide) ?_
      exact law_3 l S hC hkz hX hbl hL hi5 (by omega) (by omega) hv hS hl kk
    · refine lv_tableIn (x := nI 4) (off := 272) (tgt := 304) S.1 S.2.1 d_Law_law_32 (by decide) (by decide) (by decide) (by decide) ?_
      exact law_4 l S hC hkz hX hbl hL hi5 (by omega) (by omega) hv hS hl kk
    · refine lv_tableIn (x := nI 5) (off := 305) (tgt := 337) S.1 S.2.1 d_Law_law_32 (by decide) (by decide) (by decide) (by decide) ?_
      exact law_5 l S hC hkz hX hbl hL hi5 (by omega) (by omega) hv hS hl kk
    · refine lv_tableIn (x := nI 6) (off := 348) (tgt := 380) S.1 S.2.1 d_Law_law_32 (by decide) (by decide) (by decide) (by decide) ?_
      exact law_6 l S hC hkz hX hbl hL hi5 (by omega) (by omega) hv hS hl kk
    · refine lv_tableIn (x := nI 7) (off := 401) (tgt := 433) S.1 S.2.1 d_Law_law_32 (by decide) (by decide) (by decide) (by decide) ?_
      exact law_7 l S hC hkz hX hbl hL hi5 (by omega) (by omega) hv hS hl kk
    · refine lv_tableIn (x := nI 8) (off := 454) (tgt := 486) S.1 S.2.1 d_Law_law_32 (by decide) (by decide) (by decide) (by decide) ?_
      exact law_8 l S hC hkz hX hbl hL hi5 (by omega) (by omega) hv hS hl kk
    · refine lv_tableIn (x := nI 9) (off := 477) (tgt := 509) S.1 S.2.1 d_Law_law_32 (by decide) (by decide) (by decide) (by decide) ?_
      exact law_9 l S hC hkz hX hbl hL hi5 (by omega) (by omega) hv hS hl kk
    · refine lv_tableIn (x := nI 10) (off := 500) (tgt := 532) S.1 S.2.1 d_Law_law_32 (by decide) (by decide) (by decide) (by decide) ?_
      exact law_10 l S hC hkz hX hbl hL hi5 (by omega) (by omega) hv hS hl kk
    · refine lv_tableIn (x := nI 11) (off := 523) (tgt := 555) S.1 S.2.1 d_Law_law_32 (by decide) (by decide) (by decide) (by decide) ?_
      exact law_11 l S hC hkz hX hbl hL hi5 (by omega) (by omega) hv hS hl kk
    · refine lv_tableIn (x := nI 12) (off := 536) (tgt := 568) S.1 S.2.1 d_Law_law_32 (by decide) (by decide) (by decide) (by decide) ?_
      exact law_12 l S hC hkz hX hbl hL hi5 (by omega) (by omega) hv hS hl kk
    · refine lv_tableIn (x := nI 13) (off := 579) (tgt := 611) S.1 S.2.1 d_Law_law_32 (by decide) (by decide) (by decide) (by decide) ?_
      exact law_13 l S hC hkz hX hbl hL hi5 (by omega) (by omega) hv hS hl kk
    · refine lv_tableIn (x := nI 14) (off := 602) (tgt := 634) S.1 S.2.1 d_Law_law_32 (by decide) (by decide) (by decide) (by decide) ?_
      exact law_14 l S hC hkz hX hbl hL hi5 (by omega) (by omega) hv hS hl kk
    · refine lv_tableIn (x := nI 15) (off := 639) (tgt := 671) S.1 S.2.1 d_Law_law_32 (by decide) (by decide) (by decide) (by decide) ?_
      exact law_15 l S hC hkz hX hbl hL hi5 (by omega) (by omega) hv hS hl kk
    · refine lv_tableIn (x := nI 16) (off := 662) (tgt := 694) S.1 S.2.1 d_Law_law_32 (by decide) (by decide) (by decide) (by decide) ?_
      exact law_16 l S hC hkz hX hbl hL hi5 (by omega) (by omega) hv hS hl kk
    · refine lv_tableIn (x := nI 17) (off := 696) (tgt := 728) S.1 S.2.1 d_Law_law_32 (by decide) (by decide) (by decide) (by decide) ?_
      exact law_17 l S hC hkz hX hbl hL hi5 (by omega) (by omega) hv hS hl kk
end
/-! the start: nothing made yet -/
section
variable {K : KT} {sz : Nat}
theorem ca_0 {z : Nat} : ∀ i, i < 6 → ca sz (sz + 1) z (sz + 1 + 1) (sz + 1 + 2) (sz + 1 + 3) (fun _ => 0) (fun _ => 0) i = if i = 2 then z else if i < 2 then sz + i else sz + (i - 1) := by
  intro i hi
  rcases (show i = 0 ∨ i = 1 ∨ i = 2 ∨ i = 3 ∨ i = 4 ∨ i = 5 by omega) with rfl | rfl | rfl | rfl | rfl | rfl <;> rfl
theorem dst_0 (hk : kz K = sz) (ht : kte K < sz) : dst K sz (sz + 1) (kte K) (sz + 1 + 1) (sz + 1 + 2) (sz + 1 + 3) (fun _ => 0) (fun _ => 0) 0 0 := by
  refine ⟨fun i j hi hj e => ?_, fun i hi h2 => ?_, fun h => absurd h (by omega), fun _ => rfl⟩
  · rw [ca_0 i (by omega), ca_0 j (by omega)] at e
    split at e <;> split at e <;> (try split at e) <;> (try split at e) <;> omega
  · rw [ca_0 i (by omega), if_neg h2]
    split <;> omega
theorem mD_0 (hk : kz K = sz) : mD K (fun i => if i = 0 then sz + 1 + 4 else sz + 1 + 4 + 1 + (i - 1)) := by
  refine ⟨fun i j hi hj e => ?_, fun i hi => ?_⟩
  · have e : (if i = 0 then sz + 1 + 4 else sz + 1 + 4 + 1 + (i - 1)) = (if j = 0 then sz + 1 + 4 else sz + 1 + 4 + 1 + (j - 1)) := e
    split at e <;> split at e <;> omega
  · show kz K ≤ if i = 0 then sz + 1 + 4 else sz + 1 + 4 + 1 + (i - 1)
    split <;> omega
theorem sep_0 (ht : kte K < sz) (hk : kz K = sz) : ∀ q, ac K sz (sz + 1) (kte K) (sz + 1 + 1) (sz + 1 + 2) (sz + 1 + 3) (fun _ => 0) (fun _ => 0) 0 q → ¬ mA (fun i => if i = 0 then sz + 1 + 4 else sz + 1 + 4 + 1 + (i - 1)) q := by
  rintro q ⟨h1, i, hi, e⟩ ⟨j, hj, e2⟩
  have e2 : q = if j = 0 then sz + 1 + 4 else sz + 1 + 4 + 1 + (j - 1) := e2
  rw [ca_0 i (by omega)] at e
  split at e <;> split at e2 <;> (try split at e) <;> omega
theorem tie_0 : tie 0 0 (fun _ => 0) (fun _ => 0) (fun _ => 0) (fun _ => 0) (fun _ => 0) (fun _ => 0) (fun _ => 0) (fun _ => 0) (fun _ => 0) (fun _ => 0) (fun _ _ => 0) 0 0 (fun _ => 0) (fun _ => 0) (fun _ _ => 0) (fun _ => 0) (fun _ => 0) (fun _ => false) :=
  ⟨by omega, by omega, Or.inl rfl, fun _ => ⟨rfl, rfl⟩, fun k hk => absurd hk (by omega), fun k hk => absurd hk (by omega), fun k hk => absurd hk (by omega), fun k hk => absurd hk (by omega), fun k hk => absurd hk (by omega), fun k hk => absurd hk (by omega), fun k hk => absurd hk (by omega), ⟨fun i hi => absurd hi (by omega), fun i j _ hj => absurd hj (by omega)⟩, rfl, fun k hk => absurd hk (by omega), fun r x y _ _ _ => by rw [tb_0, b_0], fun k hk => absurd hk (by omega), fun k hk => absurd hk (by omega)⟩
end
