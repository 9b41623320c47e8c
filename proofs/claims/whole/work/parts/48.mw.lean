/-! watch, gather; a list's clear; stop, place -/
section
variable {p : Program} {l : Launch} {e : Env} {R : Room} {s : State} {m : MethodId} {args : Array Value} {below : List Frame} {meth : Method} {c : Code} {H : Heap} {locs : List Loc} {cells slots : Nat} {Q : State → Prop}
variable {cc : ByteArray} {pc nL : Nat} {ls : Array Slot} {st rest : List Value} {K : KT} {own : String} {A : Nat → Prop} {a : Nat} {H0 : Heap}
/-- a list's modCount, named through the list's own class -/
theorem f_putM {index : Nat} {y x : Int32} {v1 v2 : Value} (S : CallFix p m c cc nL s args WALL own) (hC : CX K s) (h : va_at K.1 classes (a, .inr (10, [.int y, v1, v2])) H) (hAa : A a) (hS : va_S A H0 H locs) (hl : Cond.fieldLink own index "java/util/ArrayList" "modCount" "I" ∈ WALL) (hdg : decode cc pc = .ok (.putfield index, 3))
    (kk : ∀ (H1 : Heap) (locs : List Loc), va_at K.1 classes (a, .inr (10, [.int x, v1, v2])) H1 → (∀ q : Nat, q ≠ a → H1[q]? = H[q]?) → H1.size = H.size → va_S A H0 H1 locs → W p l e R s m args below meth c H1 locs cells slots Q (F0 m (pc + 3) ls rest)) : W p l e R s m args below meth c H locs cells slots Q (F0 m pc ls (.int x :: .ref a :: rest)) := by
  obtain ⟨h1, ⟨ty0, h2⟩, h3⟩ := kf_AL
  have hc : classes[10]? = some ("java/util/ArrayList", F_AL, 3) := rfl
  have hap := va_apart (own := own) S.2.2.2.2 h1 ty0 h2 h3 hC.1 hc
  obtain ⟨r, g1, cell, q1, q2, q3, q4⟩ := h
  have hr : r = ("java/util/ArrayList", F_AL, 3) := Option.some.inj (g1.symm.trans hc)
  subst hr
  obtain ⟨hSl, hfc, kC, hkC, hkind⟩ := hC.1.1 10 _ hc
  obtain ⟨cf, kf, fi, f, hi, hsl⟩ := hSl 0 (by decide)
  have hlay := S.2.2.2.2 _ (h1 _ (u_in_lay (k := 0) (by decide)))
  unfold u_lay at hlay
  rw [if_neg (by decide)] at hlay
  have hst := (u_facts hfc hkC (u_lays S.2.2.2.2 h1 (k := 0) (by decide)) hi).1
  have h6 := u_store (v := .int x) hfc hkC hkind hlay hi (ty := .int) (by decide +kernel) rfl rfl
  refine W.putK S.1 S.2.1 (f := f) (ref := "java/util/ArrayList") ⟨S.2.2.2.1, S.2.2.2.2 _ hl, ⟨_, _, _, u_same (S.2.2.2.2 _ q_49) _ hi⟩, hst⟩ (by rw [q2]; exact h6) q1 q3 (by rw [hsl]; exact k2_hasslot (q4 0 (by decide))) rfl rfl hdg fun H' e1 e2 e3 => ?_
  rw [hsl] at e1 ⊢
  exact kk H' _ ⟨_, hc, t_OB.to (V := updV (vp_V [.int y, v1, v2]) 0 (.int x)) ⟨_, e1, q2, q3, t_set q4 hap (by decide) (.int x)⟩ (fun j _ => vp_updV_set (by simp) (.int x) j)⟩ e3 e2 (hS.put e2 e3 hAa)
end
set_option maxHeartbeats 4000000 in
set_option maxRecDepth 100000 in
theorem c_M_watch (l : Launch) {K : KT} {mon lst lg els : Nat} {wat md : Int32} {n : Nat} (hne : lst ≠ mon) (hz1 : kz K ≤ mon) : Met l y_M_watch (Cond.code y_M_watch b_M_watch 1 (some Jvm.ClassFile.FieldType.boolean) :: WALL) { frames := 1, cells := 0, slots := 0, locals := 20 } (pc0 K [.ref mon] (fun H => va_at K.1 classes (mon, .inr (8, [.ref lst, .ref lg, .int wat])) H ∧ va_at K.1 classes (lst, .inr (10, [.int md, .ref els, .int (nI n)])) H)) (va_Qi (fun r H => ((wat = 0 ∧ f_AL_isEmpty n = 0) → r = 1 ∧ va_at K.1 classes (mon, .inr (8, [.ref lst, .ref lg, .int 1])) H) ∧ (¬ (wat = 0 ∧ f_AL_isEmpty n = 0) → r = 0 ∧ va_at K.1 classes (mon, .inr (8, [.ref lst, .ref lg, .int wat])) H)) (fun u t => t.heap = u) (fun q => q = mon)) 0 0 (fun q => q = mon) := by
  refine met0 (own := "MetricLogMonitor") (by decide) rfl (Nat.le_of_ble_eq_true rfl) (fun p e s m below meth c ls S hr hk hnm hC hH hl => ?_)
  obtain ⟨hm, ha⟩ := hH
  have hl : lv_has ls 1 [(0, .ref mon)] := hl
  have hS : va_S (fun q => q = mon) s.heap s.heap [] := va_S.rf
  have hA : ∀ q, (fun q => q = mon) q → kz K ≤ q := fun q h => by rw [h]; exact hz1
  refine lv_aload_n S.1 S.2.1 d_M_watch_0 rfl (lv_at hl 0 rfl) ?_
  refine o_get (v := .int wat) S hC kf_M hm rfl 2 (by decide) q_86 rfl d_M_watch_1 ?_
  refine lv_if_ne (tgt := 17) S.1 S.2.1 d_M_watch_4 (by decide) (fun hbr1 => ?_) (fun hbr1 => ?_)
  · refine lv_iconst (v := 0) S.1 S.2.1 d_M_watch_17 (by decide) ?_
    exact rw_z S hr hk rfl hS d_M_watch_18 ⟨fun h => absurd h.1 hbr1, fun _ => ⟨rfl, hm⟩⟩
  · refine lv_aload_n S.1 S.2.1 d_M_watch_7 rfl (lv_at hl 0 rfl) ?_
    refine o_get (v := .ref lst) S hC kf_M hm rfl 0 (by decide) q_84 rfl d_M_watch_8 ?_
    refine kVi (rest := []) S (c_AL_isEmpty l) kc_AL_isEmpty ⟨q_485, q_486, q_487⟩ rfl rfl ⟨Nat.le_of_ble_eq_true rfl, Nat.le_of_ble_eq_true rfl⟩ hC hS hA ha ⟨10, _, _, _, rfl, ha⟩ ⟨Nat.zero_le _, Nat.zero_le _⟩ hl.1 rfl rfl (Nat.le_of_ble_eq_true rfl) d_M_watch_11 (fun r er => ?_)
    subst er
    refine lv_if_eq (tgt := 19) S.1 S.2.1 d_M_watch_14 (by decide) (fun hbr2 => ?_) (fun hbr2 => ?_)
    · refine lv_aload_n S.1 S.2.1 d_M_watch_19 rfl (lv_at hl 0 rfl) ?_
      refine lv_iconst (v := 1) S.1 S.2.1 d_M_watch_20 (by decide) ?_
      refine f_put (A := fun q => q = mon) (ty := .boolean) (v := .int 1) S hC kf_M hm rfl hS rfl 2 (by decide) q_86 rfl (by decide +kernel) rfl rfl (Nat.le_of_ble_eq_true rfl) d_M_watch_21 (fun H locs hm oq hz hS => ?_)
      have hm : va_at K.1 classes (mon, .inr (8, [.ref lst, .ref lg, .int 1])) H := hm
      have ha := ha.sty oq hne
      refine lv_iconst (v := 1) S.1 S.2.1 d_M_watch_24 (by decide) ?_
      exact rw_z S hr hk rfl hS d_M_watch_25 ⟨fun _ => ⟨rfl, hm⟩, fun h => absurd ⟨hbr1, hbr2⟩ h⟩
    · refine lv_iconst (v := 0) S.1 S.2.1 d_M_watch_17 (by decide) ?_
      exact rw_z S hr hk rfl hS d_M_watch_18 ⟨fun h => absurd h.2 hbr2, fun _ => ⟨rfl, hm⟩⟩
set_option maxHeartbeats 4000000 in
set_option maxRecDepth 100000 in
theorem c_M_gather (l : Launch) {K : KT} {mon lst lg tm pr : Nat} {wat : Int32} {G : Int64} {N : Nat} (r1 x y : Int32) (hz1 : kz K ≤ lg) : Met l y_M_gather (Cond.code y_M_gather b_M_gather 4 (some Jvm.ClassFile.FieldType.boolean) :: WALL) { frames := 1, cells := 0, slots := 0, locals := 23 } (pc0 K [.ref mon, .int r1, .int x, .int y] (fun H => va_at K.1 classes (mon, .inr (8, [.ref lst, .ref lg, .int wat])) H ∧ va_at K.1 classes (lg, .inr (9, [.ref tm, .ref pr, .long G, .int (nI N)])) H)) (va_Qi (fun r H => ((¬ wat = 0 ∧ ¬ f_M_isRelation r1 = 0 ∧ ¬ f_M_isValue x = 0 ∧ ¬ f_M_isValue y = 0) → (r = if lg_cmp (G &&& f_M_pairBit r1 x y) 0 = 0 then 1 else 0) ∧ va_at K.1 classes (lg, .inr (9, [.ref tm, .ref pr, .long (G ||| f_M_pairBit r1 x y), .int (nI N)])) H) ∧ (¬ (¬ wat = 0 ∧ ¬ f_M_isRelation r1 = 0 ∧ ¬ f_M_isValue x = 0 ∧ ¬ f_M_isValue y = 0) → r = 0 ∧ va_at K.1 classes (lg, .inr (9, [.ref tm, .ref pr, .long G, .int (nI N)])) H)) (fun u t => t.heap = u) (fun q => q = lg)) 0 0 (fun q => q = lg) := by
  refine met0 (own := "MetricLogMonitor") (by decide) rfl (Nat.le_of_ble_eq_true rfl) (fun p e s m below meth c ls S hr hk hnm hC hH hl => ?_)
  obtain ⟨hm, hg⟩ := hH
  have hl : lv_has ls 4 [(0, .ref mon), (1, .int r1), (2, .int x), (3, .int y)] := hl
  have hS : va_S (fun q => q = lg) s.heap s.heap [] := va_S.rf
  have hA : ∀ q, (fun q => q = lg) q → kz K ≤ q := fun q h => by rw [h]; exact hz1
  refine lv_aload_n S.1 S.2.1 d_M_gather_0 rfl (lv_at hl 0 rfl) ?_
  refine o_get (v := .int wat) S hC kf_M hm rfl 2 (by decide) q_86 rfl d_M_gather_1 ?_
  refine lv_if_eq (tgt := 28) S.1 S.2.1 d_M_gather_4 (by decide) (fun hbr1 => ?_) (fun hbr1 => ?_)
  · refine lv_iconst (v := 0) S.1 S.2.1 d_M_gather_28 (by decide) ?_
    exact rw_z S hr hk rfl hS d_M_gather_29 ⟨fun h => absurd hbr1 h.1, fun _ => ⟨rfl, hg⟩⟩
  · refine lv_iload_n S.1 S.2.1 d_M_gather_7 rfl (lv_at hl 1 rfl) ?_
    refine kSi (rest := []) S (c_M_isRelation l r1) kc_M_isRelation ⟨q_106, q_107⟩ rfl rfl ⟨Nat.le_of_ble_eq_true rfl, Nat.le_of_ble_eq_true rfl⟩ hC hS hA trivial ⟨Nat.zero_le _, Nat.zero_le _⟩ hl.1 rfl rfl (Nat.le_of_ble_eq_true rfl) d_M_gather_8 (fun r er => ?_)
    subst er
    refine lv_if_eq (tgt := 28) S.1 S.2.1 d_M_gather_11 (by decide) (fun hbr2 => ?_) (fun hbr2 => ?_)
    · refine lv_iconst (v := 0) S.1 S.2.1 d_M_gather_28 (by decide) ?_
      exact rw_z S hr hk rfl hS d_M_gather_29 ⟨fun h => absurd hbr2 h.2.1, fun _ => ⟨rfl, hg⟩⟩
    · refine lv_iload_n S.1 S.2.1 d_M_gather_14 rfl (lv_at hl 2 rfl) ?_
      refine kSi (rest := []) S (c_M_isValue l x) kc_M_isValue ⟨q_493, q_494⟩ rfl rfl ⟨Nat.le_of_ble_eq_true rfl, Nat.le_of_ble_eq_true rfl⟩ hC hS hA trivial ⟨Nat.zero_le _, Nat.zero_le _⟩ hl.1 rfl rfl (Nat.le_of_ble_eq_true rfl) d_M_gather_15 (fun r er => ?_)
      subst er
      refine lv_if_eq (tgt := 28) S.1 S.2.1 d_M_gather_18 (by decide) (fun hbr3 => ?_) (fun hbr3 => ?_)
      · refine lv_iconst (v := 0) S.1 S.2.1 d_M_gather_28 (by decide) ?_
        exact rw_z S hr hk rfl hS d_M_gather_29 ⟨fun h => absurd hbr3 h.2.2.1, fun _ => ⟨rfl, hg⟩⟩
      · refine lv_iload_n S.1 S.2.1 d_M_gather_21 rfl (lv_at hl 3 rfl) ?_
        refine kSi (rest := []) S (c_M_isValue l y) kc_M_isValue ⟨q_493, q_494⟩ rfl rfl ⟨Nat.le_of_ble_eq_true rfl, Nat.le_of_ble_eq_true rfl⟩ hC hS hA trivial ⟨Nat.zero_le _, Nat.zero_le _⟩ hl.1 rfl rfl (Nat.le_of_ble_eq_true rfl) d_M_gather_22 (fun r er => ?_)
        subst er
        refine lv_if_ne (tgt := 30) S.1 S.2.1 d_M_gather_25 (by decide) (fun hbr4 => ?_) (fun hbr4 => ?_)
        · refine lv_aload_n S.1 S.2.1 d_M_gather_30 rfl (lv_at hl 0 rfl) ?_
          refine o_get (v := .ref lg) S hC kf_M hm rfl 1 (by decide) q_85 rfl d_M_gather_31 ?_
          refine lv_iload_n S.1 S.2.1 d_M_gather_34 rfl (lv_at hl 1 rfl) ?_
          refine lv_iload_n S.1 S.2.1 d_M_gather_35 rfl (lv_at hl 2 rfl) ?_
          refine lv_iload_n S.1 S.2.1 d_M_gather_36 rfl (lv_at hl 3 rfl) ?_
          refine kSl (rest := [.ref lg]) S (c_M_pairBit l r1 x y) kc_M_pairBit ⟨q_496, q_497⟩ rfl rfl ⟨Nat.le_of_ble_eq_true rfl, Nat.le_of_ble_eq_true rfl⟩ hC hS hA trivial ⟨Nat.zero_le _, Nat.zero_le _⟩ hl.1 rfl rfl (Nat.le_of_ble_eq_true rfl) d_M_gather_37 (fun r er => ?_)
          subst er
          refine kw_i (A := fun q => q = lg) (k_V (rest := []) S (c_Log_collect l (f_M_pairBit r1 x y)) kc_Log_collect ⟨q_499, q_500, q_501⟩ rfl rfl ⟨Nat.le_of_ble_eq_true rfl, Nat.le_of_ble_eq_true rfl⟩ hC hS hA hg ⟨9, _, _, _, rfl, hg⟩ rfl hl.1 rfl (Nat.le_of_ble_eq_true rfl) ⟨Nat.zero_le _, Nat.zero_le _⟩ d_M_gather_40) hS (fun q h => h) (fun r H locs er hz hkp hS => ?_)
          exact rw_z S hr hk (nz (by rw [er.1]; split; exact Or.inr rfl; exact Or.inl rfl)) hS d_M_gather_43 ⟨fun _ => er, fun hz9 => absurd ⟨hbr1, hbr2, hbr3, hbr4⟩ hz9⟩
        · refine lv_iconst (v := 0) S.1 S.2.1 d_M_gather_28 (by decide) ?_
          exact rw_z S hr hk rfl hS d_M_gather_29 ⟨fun h => absurd hbr4 h.2.2.2, fun _ => ⟨rfl, hg⟩⟩
set_option maxHeartbeats 4000000 in
set_option maxRecDepth 100000 in
theorem c_AL_clear (l : Launch) {K : KT} {lst els : Nat} {md : Int32} {n : Nat} {cap : Nat} {fE : Nat → Option Nat} (hn : n ≤ cap) (hcap : cap < 2147483648) (hne : lst ≠ els) : Met l y_AL_clear (Cond.code y_AL_clear b_AL_clear 4 none :: WALL) { frames := 0, cells := 0, slots := 0, locals := 0 } (pc0 K [.ref lst] (fun H => va_at K.1 classes (lst, .inr (10, [.int md, .ref els, .int (nI n)])) H ∧ va_at K.1 classes (els, .inl (kO K, cap, .inr (.inr (.inr (.inr fE))))) H)) (va_Qv (fun H => va_at K.1 classes (lst, .inr (10, [.int (md + 1), .ref els, .int (nI 0)])) H ∧ ∃ g, va_at K.1 classes (els, .inl (kO K, cap, .inr (.inr (.inr (.inr g))))) H) (fun u t => t.heap = u) (fun q => q = lst ∨ q = els)) 0 0 (fun q => q = lst ∨ q = els) := by
  refine met0 (own := "java/util/ArrayList") (by decide) rfl (Nat.le_of_ble_eq_true rfl) (fun p e s m below meth c ls S hr hk hnm hC hH hl => ?_)
  obtain ⟨ha, he⟩ := hH
  have hl : lv_has ls 4 [(0, .ref lst)] := hl
  have hS : va_S (fun q => q = lst ∨ q = els) s.heap s.heap [] := va_S.rf
  refine lv_aload_n S.1 S.2.1 d_AL_clear_0 rfl (lv_at hl 0 rfl) ?_
  refine lv_dup S.1 S.2.1 d_AL_clear_1 rfl ?_
  refine va_get (D := K.1) (cl := classes) (ci := 10) (v := .int md) (C := "java/util/ArrayList") (T := F_AL) (N := 3) S.1 S.2.1 S.2.2.2.2 kf_AL.1 S.2.2.2.1 hC.1 (vs ha) 0 rfl rfl 0 (by decide) (S.2.2.2.2 _ q_48) (fun x9 h9 => u_same (S.2.2.2.2 _ q_49) x9 h9) rfl d_AL_clear_2 ?_
  refine lv_iconst (v := 1) S.1 S.2.1 d_AL_clear_5 (by decide) ?_
  refine lv_iadd S.1 S.2.1 d_AL_clear_6 ?_
  refine f_putM (A := fun q => q = lst ∨ q = els) (x := md + 1) S hC ha (Or.inl rfl) hS q_48 d_AL_clear_7 (fun H locs ha oq hz hS => ?_)
  have ha : va_at K.1 classes (lst, .inr (10, [.int (md + 1), .ref els, .int (nI n)])) H := ha
  have he := he.sty oq hne.symm
  refine lv_aload_n S.1 S.2.1 d_AL_clear_10 rfl (lv_at hl 0 rfl) ?_
  refine o_get (v := .ref els) S hC kf_AL ha rfl 1 (by decide) q_45 rfl d_AL_clear_11 ?_
  refine lv_astore_n S.1 S.2.1 d_AL_clear_14 rfl hl (by decide) rfl (fun ls hl => ?_)
  have hl : lv_has ls 4 [(1, .ref els), (0, .ref lst)] := hl
  refine lv_aload_n S.1 S.2.1 d_AL_clear_15 rfl (lv_at hl 1 rfl) ?_
  refine o_get (v := .int (nI n)) S hC kf_AL ha rfl 2 (by decide) q_46 rfl d_AL_clear_16 ?_
  refine lv_istore_n S.1 S.2.1 d_AL_clear_19 rfl hl (by decide) rfl (fun ls hl => ?_)
  have hl : lv_has ls 4 [(2, .int (nI n)), (1, .ref els), (0, .ref lst)] := hl
  refine lv_aload_n S.1 S.2.1 d_AL_clear_20 rfl (lv_at hl 2 rfl) ?_
  refine lv_iconst (v := 0) S.1 S.2.1 d_AL_clear_21 (by decide) ?_
  refine lv_dup_x1 S.1 S.2.1 d_AL_clear_22 rfl rfl ?_
  refine f_put (A := fun q => q = lst ∨ q = els) (ty := .int) (v := .int 0) S hC kf_AL ha (Or.inl rfl) hS rfl 2 (by decide) q_46 rfl (by decide +kernel) rfl rfl (Nat.le_of_ble_eq_true rfl) d_AL_clear_23 (fun H locs ha oq hz hS => ?_)
  have ha : va_at K.1 classes (lst, .inr (10, [.int (md + 1), .ref els, .int 0])) H := ha
  have he := he.sty oq hne.symm
  refine lv_istore_n S.1 S.2.1 d_AL_clear_26 rfl hl (by decide) rfl (fun ls hl => ?_)
  have hl : lv_has ls 4 [(3, .int 0), (2, .int (nI n)), (1, .ref els), (0, .ref lst)] := hl
  have key27 : ∀ (d27 : Nat) (i : Nat) (g : Nat → Option Nat) (H : Heap) (locs : List Loc) (ls : Array Slot), i + d27 = n → (va_at K.1 classes (lst, .inr (10, [.int (md + 1), .ref els, .int 0])) H) → (va_at K.1 classes (els, .inl (kO K, cap, .inr (.inr (.inr (.inr g))))) H) → (va_S (fun q => q = lst ∨ q = els) s.heap H locs) → lv_has ls 4 [(3, .int (nI i)), (2, .int (nI n)), (1, .ref els), (0, .ref lst)] → W p l e ({ frames := 0, cells := 0, slots := 0, locals := 0 } : Room) s m ([.ref lst] : List Value).toArray below meth c H locs 0 0 (MQ below (va_Qv (fun H => va_at K.1 classes (lst, .inr (10, [.int (md + 1), .ref els, .int (nI 0)])) H ∧ ∃ g, va_at K.1 classes (els, .inl (kO K, cap, .inr (.inr (.inr (.inr g))))) H) (fun u t => t.heap = u) (fun q => q = lst ∨ q = els)) ([.ref lst] : List Value).toArray s 0 0 (fun q => q = lst ∨ q = els)) (F0 m 27 ls []) := by
    intro d27
    induction d27 with
    | zero =>
      intro i g H locs ls hd27 ha he hS hl
      refine lv_iload_n S.1 S.2.1 d_AL_clear_27 rfl (lv_at hl 0 rfl) ?_
      refine lv_iload_n S.1 S.2.1 d_AL_clear_28 rfl (lv_at hl 1 rfl) ?_
      refine lv_icmp_ge (tgt := 42) S.1 S.2.1 d_AL_clear_29 (by decide) (fun _ => ?_) (fun hx9 => absurd (nI_le (by omega) (by omega)) hx9)
      exact rw_v S hr hk hS d_AL_clear_42 ⟨ha, g, he⟩
    | succ d27 ih27 =>
      intro i g H locs ls hd27 ha he hS hl
      refine lv_iload_n S.1 S.2.1 d_AL_clear_27 rfl (lv_at hl 0 rfl) ?_
      refine lv_iload_n S.1 S.2.1 d_AL_clear_28 rfl (lv_at hl 1 rfl) ?_
      refine lv_icmp_ge (tgt := 42) S.1 S.2.1 d_AL_clear_29 (by decide) (fun hx9 => absurd hx9 (nI_ge (by omega) (by omega))) (fun _ => ?_)
      refine lv_aload_n S.1 S.2.1 d_AL_clear_32 rfl (lv_at hl 2 rfl) ?_
      refine lv_iload_n S.1 S.2.1 d_AL_clear_33 rfl (lv_at hl 0 rfl) ?_
      refine lv_null S.1 S.2.1 d_AL_clear_34 ?_
      refine f_aastN (A := fun q => q = lst ∨ q = els) (j := i) S hC he (Or.inr rfl) hS hcap (by omega) d_AL_clear_35 (fun H locs he oq hz hS => ?_)
      have ha := ha.sty oq hne
      refine lv_iinc (v := nI (i + 1)) S.1 S.2.1 d_AL_clear_36 hl (k := 0) rfl (nI_1 i) (by decide) rfl (fun ls hl => ?_)
      have hl : lv_has ls 4 [(3, .int (nI (i + 1))), (2, .int (nI n)), (1, .ref els), (0, .ref lst)] := hl
      refine lv_goto (tgt := 27) S.1 S.2.1 d_AL_clear_39 (by decide) ?_
      exact ih27 (i + 1) _ _ _ ls (by omega) ha he hS (lv_sub hl [0, 1, 2, 3] rfl)
  exact key27 n 0 fE _ _ ls (by omega) ha he hS (lv_sub hl [0, 1, 2, 3] rfl)
set_option maxHeartbeats 4000000 in
set_option maxRecDepth 100000 in
theorem c_AL_clear_0 (l : Launch) {K : KT} {lst els : Nat} {md : Int32} {n : Nat} (hn : n = 0) : Met l y_AL_clear (Cond.code y_AL_clear b_AL_clear 4 none :: WALL) { frames := 0, cells := 0, slots := 0, locals := 0 } (pc0 K [.ref lst] (fun H => va_at K.1 classes (lst, .inr (10, [.int md, .ref els, .int (nI n)])) H)) (va_Qv (fun H => va_at K.1 classes (lst, .inr (10, [.int (md + 1), .ref els, .int (nI 0)])) H) (fun u t => t.heap = u) (fun q => q = lst)) 0 0 (fun q => q = lst) := by
  refine met0 (own := "java/util/ArrayList") (by decide) rfl (Nat.le_of_ble_eq_true rfl) (fun p e s m below meth c ls S hr hk hnm hC hH hl => ?_)
  have hl : lv_has ls 4 [(0, .ref lst)] := hl
  have hS : va_S (fun q => q = lst) s.heap s.heap [] := va_S.rf
  have ha := hH
  refine lv_aload_n S.1 S.2.1 d_AL_clear_0 rfl (lv_at hl 0 rfl) ?_
  refine lv_dup S.1 S.2.1 d_AL_clear_1 rfl ?_
  refine va_get (D := K.1) (cl := classes) (ci := 10) (v := .int md) (C := "java/util/ArrayList") (T := F_AL) (N := 3) S.1 S.2.1 S.2.2.2.2 kf_AL.1 S.2.2.2.1 hC.1 (vs ha) 0 rfl rfl 0 (by decide) (S.2.2.2.2 _ q_48) (fun x9 h9 => u_same (S.2.2.2.2 _ q_49) x9 h9) rfl d_AL_clear_2 ?_
  refine lv_iconst (v := 1) S.1 S.2.1 d_AL_clear_5 (by decide) ?_
  refine lv_iadd S.1 S.2.1 d_AL_clear_6 ?_
  refine f_putM (A := fun q => q = lst) (x := md + 1) S hC ha rfl hS q_48 d_AL_clear_7 (fun H locs ha oq hz hS => ?_)
  have ha : va_at K.1 classes (lst, .inr (10, [.int (md + 1), .ref els, .int (nI n)])) H := ha
  refine lv_aload_n S.1 S.2.1 d_AL_clear_10 rfl (lv_at hl 0 rfl) ?_
  refine o_get (v := .ref els) S hC kf_AL ha rfl 1 (by decide) q_45 rfl d_AL_clear_11 ?_
  refine lv_astore_n S.1 S.2.1 d_AL_clear_14 rfl hl (by decide) rfl (fun ls hl => ?_)
  have hl : lv_has ls 4 [(1, .ref els), (0, .ref lst)] := hl
  refine lv_aload_n S.1 S.2.1 d_AL_clear_15 rfl (lv_at hl 1 rfl) ?_
  refine o_get (v := .int (nI n)) S hC kf_AL ha rfl 2 (by decide) q_46 rfl d_AL_clear_16 ?_
  refine lv_istore_n S.1 S.2.1 d_AL_clear_19 rfl hl (by decide) rfl (fun ls hl => ?_)
  have hl : lv_has ls 4 [(2, .int (nI n)), (1, .ref els), (0, .ref lst)] := hl
  refine lv_aload_n S.1 S.2.1 d_AL_clear_20 rfl (lv_at hl 2 rfl) ?_
  refine lv_iconst (v := 0) S.1 S.2.1 d_AL_clear_21 (by decide) ?_
  refine lv_dup_x1 S.1 S.2.1 d_AL_clear_22 rfl rfl ?_
  refine f_put (A := fun q => q = lst) (ty := .int) (v := .int 0) S hC kf_AL ha rfl hS rfl 2 (by decide) q_46 rfl (by decide +kernel) rfl rfl (Nat.le_of_ble_eq_true rfl) d_AL_clear_23 (fun H locs ha oq hz hS => ?_)
  have ha : va_at K.1 classes (lst, .inr (10, [.int (md + 1), .ref els, .int 0])) H := ha
  refine lv_istore_n S.1 S.2.1 d_AL_clear_26 rfl hl (by decide) rfl (fun ls hl => ?_)
  have hl : lv_has ls 4 [(3, .int 0), (2, .int (nI n)), (1, .ref els), (0, .ref lst)] := hl
  refine lv_iload_n S.1 S.2.1 d_AL_clear_27 rfl (lv_at hl 0 rfl) ?_
  refine lv_iload_n S.1 S.2.1 d_AL_clear_28 rfl (lv_at hl 1 rfl) ?_
  refine lv_icmp_ge (tgt := 42) S.1 S.2.1 d_AL_clear_29 (by decide) (fun _ => ?_) (fun hx9 => absurd (by rw [hn]; decide) hx9)
  exact rw_v S hr hk hS d_AL_clear_42 ha
set_option maxHeartbeats 4000000 in
set_option maxRecDepth 100000 in
theorem c_M_stop (l : Launch) {K : KT} {mon lst els lg tm pr : Nat} {wat md : Int32} {n cap : Nat} {fE : Nat → Option Nat} {kd wh fi se : Nat → Nat} {lo hi fr rg xr : Nat → Int32} {dc ad sa : Nat → Nat} {stt : Nat → Nat → Int64} {G : Int64} {N : Nat} {T : Nat → Int32} {Qp : Nat → Int64} (hD : dst K mon lst els lg tm pr ad sa n cap) (hn12 : n < 2147483648) (al : Int32) : Met l y_M_stop (Cond.code y_M_stop b_M_stop 3 none :: WALL) { frames := 3, cells := 0, slots := 0, locals := 64 } (pc0 K [.ref mon, .int al] (fun H => cw K mon lst els lg tm pr wat md n cap fE kd wh fi se lo hi fr rg xr dc ad sa stt G N T Qp H)) (va_Qv (fun H => (al = 0 → ∃ dc', (∀ k, k < n → dc' k = 0) ∧ cw K mon lst els lg tm pr 0 md n cap fE kd wh fi se lo hi fr rg xr dc' ad sa stt 0 0 T Qp H) ∧ (¬ al = 0 → ∃ dc' g, cw K mon lst els lg tm pr 0 (md + 1) 0 cap g kd wh fi se lo hi fr rg xr dc' ad sa stt 0 0 T Qp H)) (fun u t => t.heap = u) (ac K mon lst els lg tm pr ad sa n)) 0 0 (ac K mon lst els lg tm pr ad sa n) := by
  refine met0 (own := "MetricLogMonitor") (by decide) rfl (Nat.le_of_ble_eq_true rfl) (fun p e s m below meth c ls S hr hk hnm hC hH hl => ?_)
  have hl : lv_has ls 3 [(0, .ref mon), (1, .int al)] := hl
  have hS : va_S (ac K mon lst els lg tm pr ad sa n) s.heap s.heap [] := va_S.rf
  have hA : ∀ q, (ac K mon lst els lg tm pr ad sa n) q → kz K ≤ q := fun q h => h.1
  have hm := hH.1
  refine lv_aload_n S.1 S.2.1 d_M_stop_0 rfl (lv_at hl 0 rfl) ?_
  refine lv_iconst (v := 0) S.1 S.2.1 d_M_stop_1 (by decide) ?_
  refine f_put (A := ac K mon lst els lg tm pr ad sa n) (ty := .boolean) (v := .int 0) S hC kf_M hm (ac_fix hD (i := 0) (by omega) (by omega)) hS rfl 2 (by decide) q_86 rfl (by decide +kernel) rfl rfl (Nat.le_of_ble_eq_true rfl) d_M_stop_2 (fun H locs hm oq hz hS => ?_)
  have hw0 := cw_mon hH hD (wat' := 0) hm (fun q _ h2 => oq q h2)
  obtain ⟨hm, hls, hg, ht, hq, hfm⟩ := hw0
  have hw0 : cw K mon lst els lg tm pr 0 md n cap fE kd wh fi se lo hi fr rg xr dc ad sa stt G N T Qp H := ⟨hm, hls, hg, ht, hq, hfm⟩
  refine lv_aload_n S.1 S.2.1 d_M_stop_5 rfl (lv_at hl 0 rfl) ?_
  refine o_get (v := .ref lg) S hC kf_M hm rfl 1 (by decide) q_85 rfl d_M_stop_6 ?_
  refine kw_v (A := ac K mon lst els lg tm pr ad sa n) (k_V (rest := []) S (c_Log_clear l) kc_Log_clear ⟨q_646, q_647, q_648⟩ rfl rfl ⟨Nat.le_of_ble_eq_true rfl, Nat.le_of_ble_eq_true rfl⟩ hC hS hA hg ⟨9, _, _, _, rfl, hg⟩ rfl hl.1 rfl (Nat.le_of_ble_eq_true rfl) ⟨Nat.zero_le _, Nat.zero_le _⟩ d_M_stop_9) hS (fun q h => by rw [h]; exact ac_fix hD (i := 3) (by omega) (by omega)) (fun H locs er hz hkp hS => ?_)
  have hw := cw_log hw0 hD er (ht.cl hkp (fun z => hD.fix (i := 4) (j := 3) (by omega) (by omega) (by omega) z)) (hq.cl hkp (fun z => hD.fix (i := 5) (j := 3) (by omega) (by omega) (by omega) z)) (fun q h1 h2 => hkp q h1 (fun z => h2 (Or.inl z)))
  refine lv_iconst (v := 0) S.1 S.2.1 d_M_stop_12 (by decide) ?_
  refine lv_istore_n S.1 S.2.1 d_M_stop_13 rfl hl (by decide) rfl (fun ls hl => ?_)
  have hl : lv_has ls 3 [(2, .int 0), (0, .ref mon), (1, .int al)] := hl
  have key14 : ∀ (d14 : Nat) (f : Nat) (dcF : Nat → Nat) (H : Heap) (locs : List Loc) (ls : Array Slot), f + d14 = n → (∀ k, k < f → dcF k = 0) → (cw K mon lst els lg tm pr 0 md n cap fE kd wh fi se lo hi fr rg xr dcF ad sa stt 0 0 T Qp H) → (va_S (ac K mon lst els lg tm pr ad sa n) s.heap H locs) → lv_has ls 3 [(2, .int (nI f)), (0, .ref mon), (1, .int al)] → W p l e ({ frames := 3, cells := 0, slots := 0, locals := 64 } : Room) s m ([.ref mon, .int al] : List Value).toArray below meth c H locs 0 0 (MQ below (va_Qv (fun H => (al = 0 → ∃ dc', (∀ k, k < n → dc' k = 0) ∧ cw K mon lst els lg tm pr 0 md n cap fE kd wh fi se lo hi fr rg xr dc' ad sa stt 0 0 T Qp H) ∧ (¬ al = 0 → ∃ dc' g, cw K mon lst els lg tm pr 0 (md + 1) 0 cap g kd wh fi se lo hi fr rg xr dc' ad sa stt 0 0 T Qp H)) (fun u t => t.heap = u) (ac K mon lst els lg tm pr ad sa n)) ([.ref mon, .int al] : List Value).toArray s 0 0 (ac K mon lst els lg tm pr ad sa n)) (F0 m 14 ls []) := by
    intro d14
    induction d14 with
    | zero =>
      intro f dcF H locs ls hd14 h0 hw hS hl
      have hw0 := hw
      obtain ⟨hm, hls, hg, ht, hq, hfm⟩ := hw
      have hw := hw0
      refine lv_iload_n S.1 S.2.1 d_M_stop_14 rfl (lv_at hl 0 rfl) ?_
      refine lv_aload_n S.1 S.2.1 d_M_stop_15 rfl (lv_at hl 1 rfl) ?_
      refine o_get (v := .ref lst) S hC kf_M hm rfl 0 (by decide) q_84 rfl d_M_stop_16 ?_
      refine kVi (rest := [.int (nI f)]) S (c_AL_size l) kc_AL_size ⟨q_102, q_103, q_104⟩ rfl rfl ⟨Nat.le_of_ble_eq_true rfl, Nat.le_of_ble_eq_true rfl⟩ hC hS hA hls.1 ⟨10, _, _, _, rfl, hls.1⟩ ⟨Nat.zero_le _, Nat.zero_le _⟩ hl.1 rfl rfl (Nat.le_of_ble_eq_true rfl) d_M_stop_19 (fun r er => ?_)
      subst er
      refine lv_icmp_ge (tgt := 45) S.1 S.2.1 d_M_stop_22 (by decide) (fun _ => ?_) (fun hx9 => absurd (nI_le (by omega) (by omega)) hx9)
      refine lv_iload_n S.1 S.2.1 d_M_stop_45 rfl (lv_at hl 2 rfl) ?_
      refine lv_if_eq (tgt := 56) S.1 S.2.1 d_M_stop_46 (by decide) (fun hbr1 => ?_) (fun hbr1 => ?_)
      · exact rw_v S hr hk hS d_M_stop_56 ⟨fun _ => ⟨dcF, fun k hk => h0 k (by omega), hw⟩, fun h => absurd hbr1 h⟩
      · by_cases hcp : 0 < cap
        · refine lv_aload_n S.1 S.2.1 d_M_stop_49 rfl (lv_at hl 1 rfl) ?_
          refine o_get (v := .ref lst) S hC kf_M hm rfl 0 (by decide) q_84 rfl d_M_stop_50 ?_
          refine kw_v (A := ac K mon lst els lg tm pr ad sa n) (k_V (rest := []) S (c_AL_clear l hls.2.2.1 hls.2.1 (hD.fix (i := 1) (j := 2) (by omega) (by omega) (by omega))) kc_AL_clear ⟨q_662, q_663, q_664⟩ rfl rfl ⟨Nat.le_of_ble_eq_true rfl, Nat.le_of_ble_eq_true rfl⟩ hC hS hA ⟨hls.1, hls.2.2.2.1 hcp⟩ ⟨10, _, _, _, rfl, hls.1⟩ rfl hl.1 rfl (Nat.le_of_ble_eq_true rfl) ⟨Nat.zero_le _, Nat.zero_le _⟩ d_M_stop_53) hS (fun q h => h.elim (fun z => by rw [z]; exact ac_fix hD (i := 1) (by omega) (by omega)) (fun z => by rw [z]; exact ac_els hD hcp)) (fun H locs er hz hkp hS => ?_)
          exact rw_v S hr hk hS d_M_stop_56 (⟨fun h => absurd h hbr1, fun _ => by
              obtain ⟨ea, g, eg⟩ := er
              exact ⟨dcF, g, hm.cl hkp (fun z => z.elim (hD.fix (i := 0) (j := 1) (by omega) (by omega) (by omega)) (hD.fix (i := 0) (j := 2) (by omega) (by omega) (by omega))), ⟨ea, hls.2.1, Nat.zero_le _, fun _ => eg, fun k hk => absurd hk (by omega)⟩, hg.cl hkp (fun z => z.elim (hD.fix (i := 3) (j := 1) (by omega) (by omega) (by omega)) (hD.fix (i := 3) (j := 2) (by omega) (by omega) (by omega))), ht.cl hkp (fun z => z.elim (hD.fix (i := 4) (j := 1) (by omega) (by omega) (by omega)) (hD.fix (i := 4) (j := 2) (by omega) (by omega) (by omega))), hq.cl hkp (fun z => z.elim (hD.fix (i := 5) (j := 1) (by omega) (by omega) (by omega)) (hD.fix (i := 5) (j := 2) (by omega) (by omega) (by omega))), fun k hk => absurd hk (by omega)⟩⟩)
        · refine lv_aload_n S.1 S.2.1 d_M_stop_49 rfl (lv_at hl 1 rfl) ?_
          refine o_get (v := .ref lst) S hC kf_M hm rfl 0 (by decide) q_84 rfl d_M_stop_50 ?_
          refine kw_v (A := ac K mon lst els lg tm pr ad sa n) (k_V (rest := []) S (c_AL_clear_0 l (by have := hls.2.2.1; omega)) kc_AL_clear ⟨q_662, q_663, q_664⟩ rfl rfl ⟨Nat.le_of_ble_eq_true rfl, Nat.le_of_ble_eq_true rfl⟩ hC hS hA hls.1 ⟨10, _, _, _, rfl, hls.1⟩ rfl hl.1 rfl (Nat.le_of_ble_eq_true rfl) ⟨Nat.zero_le _, Nat.zero_le _⟩ d_M_stop_53) hS (fun q h => by rw [h]; exact ac_fix hD (i := 1) (by omega) (by omega)) (fun H locs er hz hkp hS => ?_)
          exact rw_v S hr hk hS d_M_stop_56 (⟨fun h => absurd h hbr1, fun _ => ⟨dcF, fE, hm.cl hkp (hD.fix (i := 0) (j := 1) (by omega) (by omega) (by omega)), ⟨er, hls.2.1, Nat.zero_le _, fun h => absurd h hcp, fun k hk => absurd hk (by omega)⟩, hg.cl hkp (hD.fix (i := 3) (j := 1) (by omega) (by omega) (by omega)), ht.cl hkp (hD.fix (i := 4) (j := 1) (by omega) (by omega) (by omega)), hq.cl hkp (hD.fix (i := 5) (j := 1) (by omega) (by omega) (by omega)), fun k hk => absurd hk (by omega)⟩⟩)
    | succ d14 ih14 =>
      intro f dcF H locs ls hd14 h0 hw hS hl
      have hfn : f < n := by omega
      have hw0 := hw
      obtain ⟨hm, hls, hg, ht, hq, hfm⟩ := hw
      have hw := hw0
      refine lv_iload_n S.1 S.2.1 d_M_stop_14 rfl (lv_at hl 0 rfl) ?_
      refine lv_aload_n S.1 S.2.1 d_M_stop_15 rfl (lv_at hl 1 rfl) ?_
      refine o_get (v := .ref lst) S hC kf_M hm rfl 0 (by decide) q_84 rfl d_M_stop_16 ?_
      refine kVi (rest := [.int (nI f)]) S (c_AL_size l) kc_AL_size ⟨q_102, q_103, q_104⟩ rfl rfl ⟨Nat.le_of_ble_eq_true rfl, Nat.le_of_ble_eq_true rfl⟩ hC hS hA hls.1 ⟨10, _, _, _, rfl, hls.1⟩ ⟨Nat.zero_le _, Nat.zero_le _⟩ hl.1 rfl rfl (Nat.le_of_ble_eq_true rfl) d_M_stop_19 (fun r er => ?_)
      subst er
      refine lv_icmp_ge (tgt := 45) S.1 S.2.1 d_M_stop_22 (by decide) (fun hx9 => absurd hx9 (nI_ge (by omega) (by omega))) (fun _ => ?_)
      refine lv_aload_n S.1 S.2.1 d_M_stop_25 rfl (lv_at hl 1 rfl) ?_
      refine o_get (v := .ref lst) S hC kf_M hm rfl 0 (by decide) q_84 rfl d_M_stop_26 ?_
      refine lv_iload_n S.1 S.2.1 d_M_stop_29 rfl (lv_at hl 0 rfl) ?_
      obtain ⟨hfe, -⟩ := hls.2.2.2.2 f hfn
      obtain ⟨C, T0, N0, hcl, hct⟩ := fcast (cx_lt (kd f))
      refine kVq (rest := []) S (c_AL_get l hfn hls.2.2.1 hls.2.1) kc_AL_get ⟨q_285, q_286, q_287⟩ rfl rfl ⟨Nat.le_of_ble_eq_true rfl, Nat.le_of_ble_eq_true rfl⟩ hC hS hA ⟨hls.1, hls.2.2.2.1 (by have := hls.2.2.1; omega)⟩ ⟨10, _, _, _, rfl, hls.1⟩ ⟨Nat.zero_le _, Nat.zero_le _⟩ hl.1 rfl rfl (Nat.le_of_ble_eq_true rfl) d_M_stop_30 (fun r er => ?_)
      refine tpq (er.trans hfe) ?_
      refine va_castY (C := C) (nm := "MetricLogMonitor$Formula") S.1 S.2.1 S.2.2.2.1 (S.2.2.2.2 _ q_299) (hC.2.1 _ hct) (k_recv hC ⟨_, T0, N0, _, hcl, (hfm f hfn).1⟩) d_M_stop_33 ?_
      refine kw_v (A := ac K mon lst els lg tm pr ad sa n) (k_F (rest := []) S (c_Form_forget l (cx_lt (kd f))) kc_Form_forget fm_4 ⟨q_650, q_652, q_651⟩ rfl rfl rfl ⟨Nat.le_of_ble_eq_true rfl, Nat.le_of_ble_eq_true rfl⟩ hC hS hA (hfm f hfn).1 (cx_lt (kd f)) (hfm f hfn).1 ⟨Nat.zero_le _, Nat.zero_le _⟩ hl.1 rfl rfl (Nat.le_of_ble_eq_true rfl) d_M_stop_36) hS (fun q h => by rw [h]; exact ac_ad hD hfn) (fun H locs er hz hkp hS => ?_)
      have hw := cw_form (dc' := va_up dcF f 0) (stt' := stt) hw hD hfn (by unfold fo; rw [va_up_self]; exact er) ((hfm f hfn).2.cl (A1 := fun q => q = ad f) hkp (fun z => hD.as hfn hfn z.symm)) (fun q h1 h2 => hkp q h1 (fun z => h2 (Or.inl z))) (fun j hj => va_up_ne _ _ hj) (fun _ _ => rfl)
      refine lv_iinc (v := nI (f + 1)) S.1 S.2.1 d_M_stop_39 hl (k := 0) rfl (nI_1 f) (by decide) rfl (fun ls hl => ?_)
      have hl : lv_has ls 3 [(2, .int (nI (f + 1))), (0, .ref mon), (1, .int al)] := hl
      refine lv_goto (tgt := 14) S.1 S.2.1 d_M_stop_42 (by decide) ?_
      exact ih14 (f + 1) _ _ _ ls (by omega) (fun k hk => if e0 : k = f then by rw [e0, va_up_self] else by rw [va_up_ne _ _ e0]; exact h0 k (by omega)) hw hS (lv_sub hl [0, 1, 2] rfl)
  exact key14 n 0 dc _ _ ls (by omega) (fun k hk => absurd hk (by omega)) hw hS (lv_sub hl [0, 1, 2] rfl)
set_option maxHeartbeats 4000000 in
set_option maxRecDepth 100000 in
theorem c_M_place_n (l : Launch) {K : KT} {mon lst els lg tm pr : Nat} {wat md : Int32} {n cap : Nat} {fE : Nat → Option Nat} {kd wh fi se : Nat → Nat} {lo hi fr rg xr : Nat → Int32} {dc ad sa : Nat → Nat} {stt : Nat → Nat → Int64} {G : Int64} {N : Nat} {T : Nat → Int32} {Qp : Nat → Int64} (time : Int32) (hN : N ≤ 24) (hno : ¬ (¬ wat = 0 ∧ ¬ f_Log_accepts T N time = 0)) : Met l y_M_place (Cond.code y_M_place b_M_place 3 (some Jvm.ClassFile.FieldType.int) :: WALL) { frames := 2, cells := 0, slots := 0, locals := 41 } (pc0 K [.ref mon, .int time] (fun H => cw K mon lst els lg tm pr wat md n cap fE kd wh fi se lo hi fr rg xr dc ad sa stt G N T Qp H)) (va_Qi (fun r H => r = -1 ∧ cw K mon lst els lg tm pr wat md n cap fE kd wh fi se lo hi fr rg xr dc ad sa stt G N T Qp H) (fun u t => t.heap = u) (fun _ => False)) 0 0 (fun _ => False) := by
  refine met0 (own := "MetricLogMonitor") (by decide) rfl (Nat.le_of_ble_eq_true rfl) (fun p e s m below meth c ls S hr hk hnm hC hH hl => ?_)
  obtain ⟨hm, hls, hg, ht, hq, hfm⟩ := hH
  have hl : lv_has ls 3 [(0, .ref mon), (1, .int time)] := hl
  have hS : va_S (fun _ => False) s.heap s.heap [] := va_S.rf
  have hA : ∀ q, (fun _ => False) q → kz K ≤ q := fun q h => h.elim
  refine lv_aload_n S.1 S.2.1 d_M_place_0 rfl (lv_at hl 0 rfl) ?_
  refine o_get (v := .int wat) S hC kf_M hm rfl 2 (by decide) q_86 rfl d_M_place_1 ?_
  refine lv_if_eq (tgt := 18) S.1 S.2.1 d_M_place_4 (by decide) (fun hbr1 => ?_) (fun hbr1 => ?_)
  · refine lv_iconst (v := (-1)) S.1 S.2.1 d_M_place_18 (by decide) ?_
    exact rw_i S hr hk hS d_M_place_19 ⟨rfl, hm, hls, hg, ht, hq, hfm⟩
  · refine lv_aload_n S.1 S.2.1 d_M_place_7 rfl (lv_at hl 0 rfl) ?_
    refine o_get (v := .ref lg) S hC kf_M hm rfl 1 (by decide) q_85 rfl d_M_place_8 ?_
    refine lv_iload_n S.1 S.2.1 d_M_place_11 rfl (lv_at hl 1 rfl) ?_
    refine kVi (rest := []) S (c_Log_accepts l time hN) kc_Log_accepts ⟨q_507, q_508, q_509⟩ rfl rfl ⟨Nat.le_of_ble_eq_true rfl, Nat.le_of_ble_eq_true rfl⟩ hC hS hA ⟨hg, ht⟩ ⟨9, _, _, _, rfl, hg⟩ ⟨Nat.zero_le _, Nat.zero_le _⟩ hl.1 rfl rfl (Nat.le_of_ble_eq_true rfl) d_M_place_12 (fun r er => ?_)
    subst er
    refine lv_if_ne (tgt := 20) S.1 S.2.1 d_M_place_15 (by decide) (fun hbr2 => ?_) (fun hbr2 => ?_)
    · exact absurd ⟨hbr1, hbr2⟩ hno
    · refine lv_iconst (v := (-1)) S.1 S.2.1 d_M_place_18 (by decide) ?_
      exact rw_i S hr hk hS d_M_place_19 ⟨rfl, hm, hls, hg, ht, hq, hfm⟩
set_option maxHeartbeats 4000000 in
set_option maxRecDepth 100000 in
theorem c_M_place_y (l : Launch) {K : KT} {mon lst els lg tm pr : Nat} {wat md : Int32} {n cap : Nat} {fE : Nat → Option Nat} {kd wh fi se : Nat → Nat} {lo hi fr rg xr : Nat → Int32} {dc ad sa : Nat → Nat} {stt : Nat → Nat → Int64} {G : Int64} {N : Nat} {T : Nat → Int32} {Qp : Nat → Int64} {t : Nat → Nat} {P : Nat → Int32} (hD : dst K mon lst els lg tm pr ad sa n cap) (hV : tabOk kd wh fi se lo hi n) (hn12 : n < 2147483648) (time : Int32) (hN : N < 24) (hdc : ∀ k, k < n → dc k ≤ 24) (hyes : (¬ wat = 0 ∧ ¬ f_Log_accepts T N time = 0)) (hT : tmOk (upd T N time) t (N + 1)) (hQP : ∀ i, i < N + 1 → ∀ r x y, r < 3 → x < 4 → y < 4 → tb ((vp_updL Qp N G) i) (16 * r + 4 * x + y) = bt (P (24 * r + i)) (x + 4 * y)) : Met l y_M_place (Cond.code y_M_place b_M_place 3 (some Jvm.ClassFile.FieldType.int) :: WALL) { frames := 5, cells := 0, slots := 0, locals := 123 } (pc0 K [.ref mon, .int time] (fun H => cw K mon lst els lg tm pr wat md n cap fE kd wh fi se lo hi fr rg xr dc ad sa stt G N T Qp H)) (va_Qi (fun r H => r = nI N ∧ ∃ dc' stt', plc kd wh fi se lo hi (upd T N time) P dc stt (N + 1) n dc' stt' n ∧ cw K mon lst els lg tm pr wat md n cap fE kd wh fi se lo hi fr rg xr dc' ad sa stt' 0 (N + 1) (upd T N time) (vp_updL Qp N G) H) (fun u t => t.heap = u) (ac K mon lst els lg tm pr ad sa n)) 0 0 (ac K mon lst els lg tm pr ad sa n) := by
  refine met0 (own := "MetricLogMonitor") (by decide) rfl (Nat.le_of_ble_eq_true rfl) (fun p e s m below meth c ls S hr hk hnm hC hH hl => ?_)
  have hl : lv_has ls 3 [(0, .ref mon), (1, .int time)] := hl
  have hS : va_S (ac K mon lst els lg tm pr ad sa n) s.heap s.heap [] := va_S.rf
  have hA : ∀ q, (ac K mon lst els lg tm pr ad sa n) q → kz K ≤ q := fun q h => h.1
  obtain ⟨hm, hls, hg, ht, hq, hfm⟩ := hH
  have hH : cw K mon lst els lg tm pr wat md n cap fE kd wh fi se lo hi fr rg xr dc ad sa stt G N T Qp s.heap := ⟨hm, hls, hg, ht, hq, hfm⟩
  refine lv_aload_n S.1 S.2.1 d_M_place_0 rfl (lv_at hl 0 rfl) ?_
  refine o_get (v := .int wat) S hC kf_M hm rfl 2 (by decide) q_86 rfl d_M_place_1 ?_
  refine lv_if_eq (tgt := 18) S.1 S.2.1 d_M_place_4 (by decide) (fun hx9 => absurd hx9 hyes.1) (fun _ => ?_)
  refine lv_aload_n S.1 S.2.1 d_M_place_7 rfl (lv_at hl 0 rfl) ?_
  refine o_get (v := .ref lg) S hC kf_M hm rfl 1 (by decide) q_85 rfl d_M_place_8 ?_
  refine lv_iload_n S.1 S.2.1 d_M_place_11 rfl (lv_at hl 1 rfl) ?_
  refine kVi (rest := []) S (c_Log_accepts l time (by omega)) kc_Log_accepts ⟨q_507, q_508, q_509⟩ rfl rfl ⟨Nat.le_of_ble_eq_true rfl, Nat.le_of_ble_eq_true rfl⟩ hC hS hA ⟨hg, ht⟩ ⟨9, _, _, _, rfl, hg⟩ ⟨Nat.zero_le _, Nat.zero_le _⟩ hl.1 rfl rfl (Nat.le_of_ble_eq_true rfl) d_M_place_12 (fun r er => ?_)
  subst er
  refine lv_if_ne (tgt := 20) S.1 S.2.1 d_M_place_15 (by decide) (fun _ => ?_) (fun hx9 => absurd hx9 hyes.2)
  refine lv_aload_n S.1 S.2.1 d_M_place_20 rfl (lv_at hl 0 rfl) ?_
  refine o_get (v := .ref lg) S hC kf_M hm rfl 1 (by decide) q_85 rfl d_M_place_21 ?_
  refine lv_iload_n S.1 S.2.1 d_M_place_24 rfl (lv_at hl 1 rfl) ?_
  refine kw_v (A := ac K mon lst els lg tm pr ad sa n) (k_V (rest := []) S (c_Log_append l time (by omega) (hD.fix (i := 3) (j := 4) (by omega) (by omega) (by omega)) (hD.fix (i := 3) (j := 5) (by omega) (by omega) (by omega)) (hD.fix (i := 4) (j := 5) (by omega) (by omega) (by omega))) kc_Log_append ⟨q_512, q_513, q_514⟩ rfl rfl ⟨Nat.le_of_ble_eq_true rfl, Nat.le_of_ble_eq_true rfl⟩ hC hS hA ⟨hg, ht, hq⟩ ⟨9, _, _, _, rfl, hg⟩ rfl hl.1 rfl (Nat.le_of_ble_eq_true rfl) ⟨Nat.zero_le _, Nat.zero_le _⟩ d_M_place_25) hS (fun q h => h.elim (fun z => by rw [z]; exact ac_fix hD (i := 3) (by omega) (by omega)) (fun h => h.elim (fun z => by rw [z]; exact ac_fix hD (i := 4) (by omega) (by omega)) (fun z => by rw [z]; exact ac_fix hD (i := 5) (by omega) (by omega)))) (fun H locs er hz hkp hS => ?_)
  have hw := cw_log hH hD er.1 er.2.1 er.2.2 hkp
  refine lv_iconst (v := 0) S.1 S.2.1 d_M_place_28 (by decide) ?_
  refine lv_istore_n S.1 S.2.1 d_M_place_29 rfl hl (by decide) rfl (fun ls hl => ?_)
  have hl : lv_has ls 3 [(2, .int 0), (0, .ref mon), (1, .int time)] := hl
  have key30 : ∀ (d30 : Nat) (f : Nat) (dcF : Nat → Nat) (stF : Nat → Nat → Int64) (H : Heap) (locs : List Loc) (ls : Array Slot), f + d30 = n → (plc kd wh fi se lo hi (upd T N time) P dc stt (N + 1) n dcF stF f) → (cw K mon lst els lg tm pr wat md n cap fE kd wh fi se lo hi fr rg xr dcF ad sa stF 0 (N + 1) (upd T N time) (vp_updL Qp N G) H) → (va_S (ac K mon lst els lg tm pr ad sa n) s.heap H locs) → lv_has ls 3 [(2, .int (nI f)), (0, .ref mon), (1, .int time)] → W p l e ({ frames := 5, cells := 0, slots := 0, locals := 123 } : Room) s m ([.ref mon, .int time] : List Value).toArray below meth c H locs 0 0 (MQ below (va_Qi (fun r H => r = nI N ∧ ∃ dc' stt', plc kd wh fi se lo hi (upd T N time) P dc stt (N + 1) n dc' stt' n ∧ cw K mon lst els lg tm pr wat md n cap fE kd wh fi se lo hi fr rg xr dc' ad sa stt' 0 (N + 1) (upd T N time) (vp_updL Qp N G) H) (fun u t => t.heap = u) (ac K mon lst els lg tm pr ad sa n)) ([.ref mon, .int time] : List Value).toArray s 0 0 (ac K mon lst els lg tm pr ad sa n)) (F0 m 30 ls []) := by
    intro d30
    induction d30 with
    | zero =>
      intro f dcF stF H locs ls hd30 hpl hw hS hl
      have hw0 := hw
      obtain ⟨hm, hls, hg, ht, hq, hfm⟩ := hw
      have hw := hw0
      obtain rfl : f = n := by omega
      refine lv_iload_n S.1 S.2.1 d_M_place_30 rfl (lv_at hl 0 rfl) ?_
      refine lv_aload_n S.1 S.2.1 d_M_place_31 rfl (lv_at hl 1 rfl) ?_
      refine o_get (v := .ref lst) S hC kf_M hm rfl 0 (by decide) q_84 rfl d_M_place_32 ?_
      refine kVi (rest := [.int (nI f)]) S (c_AL_size l) kc_AL_size ⟨q_102, q_103, q_104⟩ rfl rfl ⟨Nat.le_of_ble_eq_true rfl, Nat.le_of_ble_eq_true rfl⟩ hC hS hA hls.1 ⟨10, _, _, _, rfl, hls.1⟩ ⟨Nat.zero_le _, Nat.zero_le _⟩ hl.1 rfl rfl (Nat.le_of_ble_eq_true rfl) d_M_place_35 (fun r er => ?_)
      subst er
      refine lv_icmp_ge (tgt := 65) S.1 S.2.1 d_M_place_38 (by decide) (fun _ => ?_) (fun hx9 => absurd (nI_le (by omega) (by omega)) hx9)
      refine lv_aload_n S.1 S.2.1 d_M_place_65 rfl (lv_at hl 1 rfl) ?_
      refine o_get (v := .ref lg) S hC kf_M hm rfl 1 (by decide) q_85 rfl d_M_place_66 ?_
      refine o_get (v := .int (nI (N + 1))) S hC kf_Log hg rfl 3 (by decide) q_72 rfl d_M_place_69 ?_
      refine lv_iconst (v := 1) S.1 S.2.1 d_M_place_72 (by decide) ?_
      refine lv_isub S.1 S.2.1 d_M_place_73 ?_
      refine tpi (y := nI N) (nI_pred N) ?_
      exact rw_i S hr hk hS d_M_place_74 ⟨rfl, dcF, stF, hpl, hw⟩
    | succ d30 ih30 =>
      intro f dcF stF H locs ls hd30 hpl hw hS hl
      have hfn : f < n := by omega
      have hw0 := hw
      obtain ⟨hm, hls, hg, ht, hq, hfm⟩ := hw
      have hw := hw0
      refine lv_iload_n S.1 S.2.1 d_M_place_30 rfl (lv_at hl 0 rfl) ?_
      refine lv_aload_n S.1 S.2.1 d_M_place_31 rfl (lv_at hl 1 rfl) ?_
      refine o_get (v := .ref lst) S hC kf_M hm rfl 0 (by decide) q_84 rfl d_M_place_32 ?_
      refine kVi (rest := [.int (nI f)]) S (c_AL_size l) kc_AL_size ⟨q_102, q_103, q_104⟩ rfl rfl ⟨Nat.le_of_ble_eq_true rfl, Nat.le_of_ble_eq_true rfl⟩ hC hS hA hls.1 ⟨10, _, _, _, rfl, hls.1⟩ ⟨Nat.zero_le _, Nat.zero_le _⟩ hl.1 rfl rfl (Nat.le_of_ble_eq_true rfl) d_M_place_35 (fun r er => ?_)
      subst er
      refine lv_icmp_ge (tgt := 65) S.1 S.2.1 d_M_place_38 (by decide) (fun hx9 => absurd hx9 (nI_ge (by omega) (by omega))) (fun _ => ?_)
      refine lv_aload_n S.1 S.2.1 d_M_place_41 rfl (lv_at hl 1 rfl) ?_
      refine o_get (v := .ref lst) S hC kf_M hm rfl 0 (by decide) q_84 rfl d_M_place_42 ?_
      refine lv_iload_n S.1 S.2.1 d_M_place_45 rfl (lv_at hl 0 rfl) ?_
      obtain ⟨hfe, -⟩ := hls.2.2.2.2 f hfn
      obtain ⟨C, T0, N0, hcl, hct⟩ := fcast (cx_lt (kd f))
      refine kVq (rest := []) S (c_AL_get l hfn hls.2.2.1 hls.2.1) kc_AL_get ⟨q_285, q_286, q_287⟩ rfl rfl ⟨Nat.le_of_ble_eq_true rfl, Nat.le_of_ble_eq_true rfl⟩ hC hS hA ⟨hls.1, hls.2.2.2.1 (by have := hls.2.2.1; omega)⟩ ⟨10, _, _, _, rfl, hls.1⟩ ⟨Nat.zero_le _, Nat.zero_le _⟩ hl.1 rfl rfl (Nat.le_of_ble_eq_true rfl) d_M_place_46 (fun r er => ?_)
      refine tpq (er.trans hfe) ?_
      refine va_castY (C := C) (nm := "MetricLogMonitor$Formula") S.1 S.2.1 S.2.2.2.1 (S.2.2.2.2 _ q_299) (hC.2.1 _ hct) (k_recv hC ⟨_, T0, N0, _, hcl, (hfm f hfn).1⟩) d_M_place_49 ?_
      refine lv_aload_n S.1 S.2.1 d_M_place_52 rfl (lv_at hl 1 rfl) ?_
      refine o_get (v := .ref lg) S hC kf_M hm rfl 1 (by decide) q_85 rfl d_M_place_53 ?_
      refine kw_v (A := ac K mon lst els lg tm pr ad sa n) (k_F (rest := []) S (c_Form_advance (k := f) (ad := ad) (sa := sa) (dc := dcF) (stt := stF) (fr := fr) (rg := rg) (er := xr) (t := t) (P := P) l hV hfn (fun j hj => hpl.2.2.2.2 j (by omega)) (plc_le hV hfn hpl) hT (by omega) (by omega) hQP (fun j hj => ⟨hD.aa (by omega) hfn (by omega), hD.as (by omega) hfn, (fun z => hD.as hfn (by omega) z.symm), hD.ss (by omega) hfn (by omega)⟩) (hD.as hfn hfn) (fun x h => h.elim (fun z => by rw [z]; exact ⟨hD.fad (i := 3) (by omega) hfn, hD.fsa (i := 3) (by omega) hfn⟩) (fun h => h.elim (fun z => by rw [z]; exact ⟨hD.fad (i := 4) (by omega) hfn, hD.fsa (i := 4) (by omega) hfn⟩) (fun z => by rw [z]; exact ⟨hD.fad (i := 5) (by omega) hfn, hD.fsa (i := 5) (by omega) hfn⟩))) (hD.zad hfn) (hD.zsa hfn)) kc_Form_advance fm_1 ⟨q_516, q_518, q_517⟩ rfl rfl rfl ⟨Nat.le_of_ble_eq_true rfl, Nat.le_of_ble_eq_true rfl⟩ hC hS hA ⟨fun j hj => hfm j (by omega), hg, ht, hq⟩ (cx_lt (kd f)) (hfm f hfn).1 ⟨Nat.zero_le _, Nat.zero_le _⟩ hl.1 rfl rfl (Nat.le_of_ble_eq_true rfl) d_M_place_56) hS (fun q h => h.elim (fun z => by rw [z]; exact ac_ad hD hfn) (fun z => by rw [z]; exact ac_sa hD hfn)) (fun H locs er hz hkp hS => ?_)
      obtain ⟨g, g1, g2, eo, es⟩ := er
      have hw := cw_form (dc' := va_up dcF f (rch kd fi se hi (upd T N time) dcF (N + 1) f)) (stt' := va_up stF f g) hw hD hfn eo (by rw [va_up_self]; exact es) hkp (fun j hj => va_up_ne _ _ hj) (fun j hj => va_up_ne _ _ hj)
      refine lv_iinc (v := nI (f + 1)) S.1 S.2.1 d_M_place_59 hl (k := 0) rfl (nI_1 f) (by decide) rfl (fun ls hl => ?_)
      have hl : lv_has ls 3 [(2, .int (nI (f + 1))), (0, .ref mon), (1, .int time)] := hl
      refine lv_goto (tgt := 30) S.1 S.2.1 d_M_place_62 (by decide) ?_
      exact ih30 (f + 1) _ _ _ _ ls (by omega) (plc_s hV (by omega) hfn hpl g1 g2) hw hS (lv_sub hl [0, 1, 2] rfl)
  exact key30 n 0 dc stt _ _ ls (by omega) (plc_0 hdc) hw hS (lv_sub hl [0, 1, 2] rfl)
