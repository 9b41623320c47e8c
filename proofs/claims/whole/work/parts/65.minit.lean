/-! the reference's constructor -/
set_option maxHeartbeats 4000000 in
set_option maxRecDepth 100000 in
theorem c_R_init (l : Launch) {K : KT} {b sz : Nat} (hzb : kz K ≤ b) : Met l y_R_init (Cond.code y_R_init b_R_init 1 none :: WALL) { frames := 1, cells := 14, slots := 507, locals := 12 } (pc0 K [.ref b] (fun H => H.size = sz ∧ va_at K.1 classes (b, .inr (11, [.int 0, .int 0, .int 0, .null, .null, .null, .null, .null, .null, .null, .null, .null, .null, .null, .null, .null, .null])) H)) (va_Qv (fun H => H.size = sz + 14 ∧ mW K (fun i => if i = 0 then b else sz + (i - 1)) 0 0 0 (fun _ _ => 0) (fun _ => 0) H) (fun u t => t.heap = u) (fun q => q = b ∨ sz ≤ q)) 14 507 (fun q => q = b ∨ sz ≤ q) := by
  refine met0 (own := "MetricLogMonitorModel") (by decide) rfl (Nat.le_of_ble_eq_true rfl) (fun p e s m below meth c ls S hr hk hnm hC hH hl => ?_)
  obtain ⟨hsz, hb⟩ := hH
  have hl : lv_has ls 1 [(0, .ref b)] := hl
  have hS : va_S (fun q => q = b ∨ sz ≤ q) s.heap s.heap [] := va_S.rf
  have hA : ∀ q, (fun q => q = b ∨ sz ≤ q) q → kz K ≤ q := fun q h => h.elim (fun z => by rw [z]; exact hzb) (fun z => by have := hC.2.2.2.2.2.2.1; omega)
  refine lv_aload_n S.1 S.2.1 d_R_init_0 rfl (lv_at hl 0 rfl) ?_
  refine W.objInit S.1 S.2.1 S.2.2.2.1 (S.2.2.2.2 _ q_692) (S.2.2.2.2 _ q_29) (S.2.2.2.2 _ q_30) rfl (by rw [S.2.2.1]; exact hl.1) rfl d_R_init_1 (Nat.le_of_ble_eq_true rfl) (Nat.le_of_ble_eq_true rfl) ?_
  refine W.eq (g2 := F0 m 4 ls []) rfl ?_
  refine lv_aload_n S.1 S.2.1 d_R_init_4 rfl (lv_at hl 0 rfl) ?_
  refine lv_bipush (v := 12) S.1 S.2.1 d_R_init_5 (by decide) ?_
  refine f_newI (A := fun q => q = b ∨ sz ≤ q) (N' := 12) S hC q_82 hS (by decide) (by decide) (by decide) (Nat.le_of_ble_eq_true rfl) (Nat.le_of_ble_eq_true rfl) d_R_init_7 (fun q H hq0 h1 o1 hz hS => ?_)
  have hq : q = sz := hq0.trans hsz
  clear hq0
  subst q
  have ne_hb_h1 := hb.apt hsz.symm
  have hb := hb.nw o1
  have hsz : H.size = (sz + 1) := by omega
  refine f_put (A := fun q => q = b ∨ sz ≤ q) (ty := (.array .int)) (v := .ref sz) S hC kf_R hb (Or.inl rfl) hS rfl 3 (by decide) q_694 rfl (by decide +kernel) rfl rfl (Nat.le_of_ble_eq_true rfl) d_R_init_9 (fun H locs hb oq hz hS => ?_)
  have hb : va_at K.1 classes (b, .inr (11, [.int 0, .int 0, .int 0, .ref sz, .null, .null, .null, .null, .null, .null, .null, .null, .null, .null, .null, .null, .null])) H := hb
  have h1 := h1.sty oq (fun z => ne_hb_h1 z.symm)
  have hsz := hz.trans hsz
  refine lv_aload_n S.1 S.2.1 d_R_init_12 rfl (lv_at hl 0 rfl) ?_
  refine lv_bipush (v := 12) S.1 S.2.1 d_R_init_13 (by decide) ?_
  refine f_newI (A := fun q => q = b ∨ sz ≤ q) (N' := 12) S hC q_82 hS (by decide) (by decide) (by decide) (Nat.le_of_ble_eq_true rfl) (Nat.le_of_ble_eq_true rfl) d_R_init_15 (fun q H hq0 h2 o1 hz hS => ?_)
  have hq : q = (sz + 1) := hq0.trans hsz
  clear hq0
  subst q
  have ne_hb_h2 := hb.apt hsz.symm
  have hb := hb.nw o1
  have ne_h1_h2 := h1.apt hsz.symm
  have h1 := h1.nw o1
  have hsz : H.size = (sz + 2) := by omega
  refine f_put (A := fun q => q = b ∨ sz ≤ q) (ty := (.array .int)) (v := .ref (sz + 1)) S hC kf_R hb (Or.inl rfl) hS rfl 4 (by decide) q_695 rfl (by decide +kernel) rfl rfl (Nat.le_of_ble_eq_true rfl) d_R_init_17 (fun H locs hb oq hz hS => ?_)
  have hb : va_at K.1 classes (b, .inr (11, [.int 0, .int 0, .int 0, .ref sz, .ref (sz + 1), .null, .null, .null, .null, .null, .null, .null, .null, .null, .null, .null, .null])) H := hb
  have h1 := h1.sty oq (fun z => ne_hb_h1 z.symm)
  have h2 := h2.sty oq (fun z => ne_hb_h2 z.symm)
  have hsz := hz.trans hsz
  refine lv_aload_n S.1 S.2.1 d_R_init_20 rfl (lv_at hl 0 rfl) ?_
  refine lv_bipush (v := 12) S.1 S.2.1 d_R_init_21 (by decide) ?_
  refine f_newI (A := fun q => q = b ∨ sz ≤ q) (N' := 12) S hC q_82 hS (by decide) (by decide) (by decide) (Nat.le_of_ble_eq_true rfl) (Nat.le_of_ble_eq_true rfl) d_R_init_23 (fun q H hq0 h3 o1 hz hS => ?_)
  have hq : q = (sz + 2) := hq0.trans hsz
  clear hq0
  subst q
  have ne_hb_h3 := hb.apt hsz.symm
  have hb := hb.nw o1
  have ne_h1_h3 := h1.apt hsz.symm
  have h1 := h1.nw o1
  have ne_h2_h3 := h2.apt hsz.symm
  have h2 := h2.nw o1
  have hsz : H.size = (sz + 3) := by omega
  refine f_put (A := fun q => q = b ∨ sz ≤ q) (ty := (.array .int)) (v := .ref (sz + 2)) S hC kf_R hb (Or.inl rfl) hS rfl 5 (by decide) q_696 rfl (by decide +kernel) rfl rfl (Nat.le_of_ble_eq_true rfl) d_R_init_25 (fun H locs hb oq hz hS => ?_)
  have hb : va_at K.1 classes (b, .inr (11, [.int 0, .int 0, .int 0, .ref sz, .ref (sz + 1), .ref (sz + 2), .null, .null, .null, .null, .null, .null, .null, .null, .null, .null, .null])) H := hb
  have h1 := h1.sty oq (fun z => ne_hb_h1 z.symm)
  have h2 := h2.sty oq (fun z => ne_hb_h2 z.symm)
  have h3 := h3.sty oq (fun z => ne_hb_h3 z.symm)
  have hsz := hz.trans hsz
  refine lv_aload_n S.1 S.2.1 d_R_init_28 rfl (lv_at hl 0 rfl) ?_
  refine lv_bipush (v := 12) S.1 S.2.1 d_R_init_29 (by decide) ?_
  refine f_newI (A := fun q => q = b ∨ sz ≤ q) (N' := 12) S hC q_82 hS (by decide) (by decide) (by decide) (Nat.le_of_ble_eq_true rfl) (Nat.le_of_ble_eq_true rfl) d_R_init_31 (fun q H hq0 h4 o1 hz hS => ?_)
  have hq : q = (sz + 3) := hq0.trans hsz
  clear hq0
  subst q
  have ne_hb_h4 := hb.apt hsz.symm
  have hb := hb.nw o1
  have ne_h1_h4 := h1.apt hsz.symm
  have h1 := h1.nw o1
  have ne_h2_h4 := h2.apt hsz.symm
  have h2 := h2.nw o1
  have ne_h3_h4 := h3.apt hsz.symm
  have h3 := h3.nw o1
  have hsz : H.size = (sz + 4) := by omega
  refine f_put (A := fun q => q = b ∨ sz ≤ q) (ty := (.array .int)) (v := .ref (sz + 3)) S hC kf_R hb (Or.inl rfl) hS rfl 6 (by decide) q_697 rfl (by decide +kernel) rfl rfl (Nat.le_of_ble_eq_true rfl) d_R_init_33 (fun H locs hb oq hz hS => ?_)
  have hb : va_at K.1 classes (b, .inr (11, [.int 0, .int 0, .int 0, .ref sz, .ref (sz + 1), .ref (sz + 2), .ref (sz + 3), .null, .null, .null, .null, .null, .null, .null, .null, .null, .null])) H := hb
  have h1 := h1.sty oq (fun z => ne_hb_h1 z.symm)
  have h2 := h2.sty oq (fun z => ne_hb_h2 z.symm)
  have h3 := h3.sty oq (fun z => ne_hb_h3 z.symm)
  have h4 := h4.sty oq (fun z => ne_hb_h4 z.symm)
  have hsz := hz.trans hsz
  refine lv_aload_n S.1 S.2.1 d_R_init_36 rfl (lv_at hl 0 rfl) ?_
  refine lv_bipush (v := 12) S.1 S.2.1 d_R_init_37 (by decide) ?_
  refine f_newI (A := fun q => q = b ∨ sz ≤ q) (N' := 12) S hC q_82 hS (by decide) (by decide) (by decide) (Nat.le_of_ble_eq_true rfl) (Nat.le_of_ble_eq_true rfl) d_R_init_39 (fun q H hq0 h5 o1 hz hS => ?_)
  have hq : q = (sz + 4) := hq0.trans hsz
  clear hq0
  subst q
  have ne_hb_h5 := hb.apt hsz.symm
  have hb := hb.nw o1
  have ne_h1_h5 := h1.apt hsz.symm
  have h1 := h1.nw o1
  have ne_h2_h5 := h2.apt hsz.symm
  have h2 := h2.nw o1
  have ne_h3_h5 := h3.apt hsz.symm
  have h3 := h3.nw o1
  have ne_h4_h5 := h4.apt hsz.symm
  have h4 := h4.nw o1
  have hsz : H.size = (sz + 5) := by omega
  refine f_put (A := fun q => q = b ∨ sz ≤ q) (ty := (.array .int)) (v := .ref (sz + 4)) S hC kf_R hb (Or.inl rfl) hS rfl 7 (by decide) q_698 rfl (by decide +kernel) rfl rfl (Nat.le_of_ble_eq_true rfl) d_R_init_41 (fun H locs hb oq hz hS => ?_)
  have hb : va_at K.1 classes (b, .inr (11, [.int 0, .int 0, .int 0, .ref sz, .ref (sz + 1), .ref (sz + 2), .ref (sz + 3), .ref (sz + 4), .null, .null, .null, .null, .null, .null, .null, .null, .null])) H := hb
  have h1 := h1.sty oq (fun z => ne_hb_h1 z.symm)
  have h2 := h2.sty oq (fun z => ne_hb_h2 z.symm)
  have h3 := h3.sty oq (fun z => ne_hb_h3 z.symm)
  have h4 := h4.sty oq (fun z => ne_hb_h4 z.symm)
  have h5 := h5.sty oq (fun z => ne_hb_h5 z.symm)
  have hsz := hz.trans hsz
  refine lv_aload_n S.1 S.2.1 d_R_init_44 rfl (lv_at hl 0 rfl) ?_
  refine lv_bipush (v := 12) S.1 S.2.1 d_R_init_45 (by decide) ?_
  refine f_newI (A := fun q => q = b ∨ sz ≤ q) (N' := 12) S hC q_82 hS (by decide) (by decide) (by decide) (Nat.le_of_ble_eq_true rfl) (Nat.le_of_ble_eq_true rfl) d_R_init_47 (fun q H hq0 h6 o1 hz hS => ?_)
  have hq : q = (sz + 5) := hq0.trans hsz
  clear hq0
  subst q
  have ne_hb_h6 := hb.apt hsz.symm
  have hb := hb.nw o1
  have ne_h1_h6 := h1.apt hsz.symm
  have h1 := h1.nw o1
  have ne_h2_h6 := h2.apt hsz.symm
  have h2 := h2.nw o1
  have ne_h3_h6 := h3.apt hsz.symm
  have h3 := h3.nw o1
  have ne_h4_h6 := h4.apt hsz.symm
  have h4 := h4.nw o1
  have ne_h5_h6 := h5.apt hsz.symm
  have h5 := h5.nw o1
  have hsz : H.size = (sz + 6) := by omega
  refine f_put (A := fun q => q = b ∨ sz ≤ q) (ty := (.array .int)) (v := .ref (sz + 5)) S hC kf_R hb (Or.inl rfl) hS rfl 8 (by decide) q_699 rfl (by decide +kernel) rfl rfl (Nat.le_of_ble_eq_true rfl) d_R_init_49 (fun H locs hb oq hz hS => ?_)
  have hb : va_at K.1 classes (b, .inr (11, [.int 0, .int 0, .int 0, .ref sz, .ref (sz + 1), .ref (sz + 2), .ref (sz + 3), .ref (sz + 4), .ref (sz + 5), .null, .null, .null, .null, .null, .null, .null, .null])) H := hb
  have h1 := h1.sty oq (fun z => ne_hb_h1 z.symm)
  have h2 := h2.sty oq (fun z => ne_hb_h2 z.symm)
  have h3 := h3.sty oq (fun z => ne_hb_h3 z.symm)
  have h4 := h4.sty oq (fun z => ne_hb_h4 z.symm)
  have h5 := h5.sty oq (fun z => ne_hb_h5 z.symm)
  have h6 := h6.sty oq (fun z => ne_hb_h6 z.symm)
  have hsz := hz.trans hsz
  refine lv_aload_n S.1 S.2.1 d_R_init_52 rfl (lv_at hl 0 rfl) ?_
  refine lv_bipush (v := 24) S.1 S.2.1 d_R_init_53 (by decide) ?_
  refine f_newI (A := fun q => q = b ∨ sz ≤ q) (N' := 24) S hC q_82 hS (by decide) (by decide) (by decide) (Nat.le_of_ble_eq_true rfl) (Nat.le_of_ble_eq_true rfl) d_R_init_55 (fun q H hq0 h7 o1 hz hS => ?_)
  have hq : q = (sz + 6) := hq0.trans hsz
  clear hq0
  subst q
  have ne_hb_h7 := hb.apt hsz.symm
  have hb := hb.nw o1
  have ne_h1_h7 := h1.apt hsz.symm
  have h1 := h1.nw o1
  have ne_h2_h7 := h2.apt hsz.symm
  have h2 := h2.nw o1
  have ne_h3_h7 := h3.apt hsz.symm
  have h3 := h3.nw o1
  have ne_h4_h7 := h4.apt hsz.symm
  have h4 := h4.nw o1
  have ne_h5_h7 := h5.apt hsz.symm
  have h5 := h5.nw o1
  have ne_h6_h7 := h6.apt hsz.symm
  have h6 := h6.nw o1
  have hsz : H.size = (sz + 7) := by omega
  refine f_put (A := fun q => q = b ∨ sz ≤ q) (ty := (.array .int)) (v := .ref (sz + 6)) S hC kf_R hb (Or.inl rfl) hS rfl 9 (by decide) q_702 rfl (by decide +kernel) rfl rfl (Nat.le_of_ble_eq_true rfl) d_R_init_57 (fun H locs hb oq hz hS => ?_)
  have hb : va_at K.1 classes (b, .inr (11, [.int 0, .int 0, .int 0, .ref sz, .ref (sz + 1), .ref (sz + 2), .ref (sz + 3), .ref (sz + 4), .ref (sz + 5), .ref (sz + 6), .null, .null, .null, .null, .null, .null, .null])) H := hb
  have h1 := h1.sty oq (fun z => ne_hb_h1 z.symm)
  have h2 := h2.sty oq (fun z => ne_hb_h2 z.symm)
  have h3 := h3.sty oq (fun z => ne_hb_h3 z.symm)
  have h4 := h4.sty oq (fun z => ne_hb_h4 z.symm)
  have h5 := h5.sty oq (fun z => ne_hb_h5 z.symm)
  have h6 := h6.sty oq (fun z => ne_hb_h6 z.symm)
  have h7 := h7.sty oq (fun z => ne_hb_h7 z.symm)
  have hsz := hz.trans hsz
  refine lv_aload_n S.1 S.2.1 d_R_init_60 rfl (lv_at hl 0 rfl) ?_
  refine lv_bipush (v := 72) S.1 S.2.1 d_R_init_61 (by decide) ?_
  refine f_newI (A := fun q => q = b ∨ sz ≤ q) (N' := 72) S hC q_82 hS (by decide) (by decide) (by decide) (Nat.le_of_ble_eq_true rfl) (Nat.le_of_ble_eq_true rfl) d_R_init_63 (fun q H hq0 h8 o1 hz hS => ?_)
  have hq : q = (sz + 7) := hq0.trans hsz
  clear hq0
  subst q
  have ne_hb_h8 := hb.apt hsz.symm
  have hb := hb.nw o1
  have ne_h1_h8 := h1.apt hsz.symm
  have h1 := h1.nw o1
  have ne_h2_h8 := h2.apt hsz.symm
  have h2 := h2.nw o1
  have ne_h3_h8 := h3.apt hsz.symm
  have h3 := h3.nw o1
  have ne_h4_h8 := h4.apt hsz.symm
  have h4 := h4.nw o1
  have ne_h5_h8 := h5.apt hsz.symm
  have h5 := h5.nw o1
  have ne_h6_h8 := h6.apt hsz.symm
  have h6 := h6.nw o1
  have ne_h7_h8 := h7.apt hsz.symm
  have h7 := h7.nw o1
  have hsz : H.size = (sz + 8) := by omega
  refine f_put (A := fun q => q = b ∨ sz ≤ q) (ty := (.array .int)) (v := .ref (sz + 7)) S hC kf_R hb (Or.inl rfl) hS rfl 10 (by decide) q_703 rfl (by decide +kernel) rfl rfl (Nat.le_of_ble_eq_true rfl) d_R_init_65 (fun H locs hb oq hz hS => ?_)
  have hb : va_at K.1 classes (b, .inr (11, [.int 0, .int 0, .int 0, .ref sz, .ref (sz + 1), .ref (sz + 2), .ref (sz + 3), .ref (sz + 4), .ref (sz + 5), .ref (sz + 6), .ref (sz + 7), .null, .null, .null, .null, .null, .null])) H := hb
  have h1 := h1.sty oq (fun z => ne_hb_h1 z.symm)
  have h2 := h2.sty oq (fun z => ne_hb_h2 z.symm)
  have h3 := h3.sty oq (fun z => ne_hb_h3 z.symm)
  have h4 := h4.sty oq (fun z => ne_hb_h4 z.symm)
  have h5 := h5.sty oq (fun z => ne_hb_h5 z.symm)
  have h6 := h6.sty oq (fun z => ne_hb_h6 z.symm)
  have h7 := h7.sty oq (fun z => ne_hb_h7 z.symm)
  have h8 := h8.sty oq (fun z => ne_hb_h8 z.symm)
  have hsz := hz.trans hsz
  refine lv_aload_n S.1 S.2.1 d_R_init_68 rfl (lv_at hl 0 rfl) ?_
  refine lv_iconst (v := 3) S.1 S.2.1 d_R_init_69 (by decide) ?_
  refine f_newI (A := fun q => q = b ∨ sz ≤ q) (N' := 3) S hC q_82 hS (by decide) (by decide) (by decide) (Nat.le_of_ble_eq_true rfl) (Nat.le_of_ble_eq_true rfl) d_R_init_70 (fun q H hq0 h9 o1 hz hS => ?_)
  have hq : q = (sz + 8) := hq0.trans hsz
  clear hq0
  subst q
  have ne_hb_h9 := hb.apt hsz.symm
  have hb := hb.nw o1
  have ne_h1_h9 := h1.apt hsz.symm
  have h1 := h1.nw o1
  have ne_h2_h9 := h2.apt hsz.symm
  have h2 := h2.nw o1
  have ne_h3_h9 := h3.apt hsz.symm
  have h3 := h3.nw o1
  have ne_h4_h9 := h4.apt hsz.symm
  have h4 := h4.nw o1
  have ne_h5_h9 := h5.apt hsz.symm
  have h5 := h5.nw o1
  have ne_h6_h9 := h6.apt hsz.symm
  have h6 := h6.nw o1
  have ne_h7_h9 := h7.apt hsz.symm
  have h7 := h7.nw o1
  have ne_h8_h9 := h8.apt hsz.symm
  have h8 := h8.nw o1
  have hsz : H.size = (sz + 9) := by omega
  refine f_put (A := fun q => q = b ∨ sz ≤ q) (ty := (.array .int)) (v := .ref (sz + 8)) S hC kf_R hb (Or.inl rfl) hS rfl 11 (by decide) q_704 rfl (by decide +kernel) rfl rfl (Nat.le_of_ble_eq_true rfl) d_R_init_72 (fun H locs hb oq hz hS => ?_)
  have hb : va_at K.1 classes (b, .inr (11, [.int 0, .int 0, .int 0, .ref sz, .ref (sz + 1), .ref (sz + 2), .ref (sz + 3), .ref (sz + 4), .ref (sz + 5), .ref (sz + 6), .ref (sz + 7), .ref (sz + 8), .null, .null, .null, .null, .null])) H := hb
  have h1 := h1.sty oq (fun z => ne_hb_h1 z.symm)
  have h2 := h2.sty oq (fun z => ne_hb_h2 z.symm)
  have h3 := h3.sty oq (fun z => ne_hb_h3 z.symm)
  have h4 := h4.sty oq (fun z => ne_hb_h4 z.symm)
  have h5 := h5.sty oq (fun z => ne_hb_h5 z.symm)
  have h6 := h6.sty oq (fun z => ne_hb_h6 z.symm)
  have h7 := h7.sty oq (fun z => ne_hb_h7 z.symm)
  have h8 := h8.sty oq (fun z => ne_hb_h8 z.symm)
  have h9 := h9.sty oq (fun z => ne_hb_h9 z.symm)
  have hsz := hz.trans hsz
  refine lv_aload_n S.1 S.2.1 d_R_init_75 rfl (lv_at hl 0 rfl) ?_
  refine lv_sipush (v := 288) S.1 S.2.1 d_R_init_76 (by decide) ?_
  refine f_newJ (A := fun q => q = b ∨ sz ≤ q) (N' := 288) S hC q_83 hS (by decide) (by decide) (by decide) (Nat.le_of_ble_eq_true rfl) (Nat.le_of_ble_eq_true rfl) d_R_init_79 (fun q H hq0 h10 o1 hz hS => ?_)
  have hq : q = (sz + 9) := hq0.trans hsz
  clear hq0
  subst q
  have ne_hb_h10 := hb.apt hsz.symm
  have hb := hb.nw o1
  have ne_h1_h10 := h1.apt hsz.symm
  have h1 := h1.nw o1
  have ne_h2_h10 := h2.apt hsz.symm
  have h2 := h2.nw o1
  have ne_h3_h10 := h3.apt hsz.symm
  have h3 := h3.nw o1
  have ne_h4_h10 := h4.apt hsz.symm
  have h4 := h4.nw o1
  have ne_h5_h10 := h5.apt hsz.symm
  have h5 := h5.nw o1
  have ne_h6_h10 := h6.apt hsz.symm
  have h6 := h6.nw o1
  have ne_h7_h10 := h7.apt hsz.symm
  have h7 := h7.nw o1
  have ne_h8_h10 := h8.apt hsz.symm
  have h8 := h8.nw o1
  have ne_h9_h10 := h9.apt hsz.symm
  have h9 := h9.nw o1
  have hsz : H.size = (sz + 10) := by omega
  refine f_put (A := fun q => q = b ∨ sz ≤ q) (ty := (.array .long)) (v := .ref (sz + 9)) S hC kf_R hb (Or.inl rfl) hS rfl 12 (by decide) q_705 rfl (by decide +kernel) rfl rfl (Nat.le_of_ble_eq_true rfl) d_R_init_81 (fun H locs hb oq hz hS => ?_)
  have hb : va_at K.1 classes (b, .inr (11, [.int 0, .int 0, .int 0, .ref sz, .ref (sz + 1), .ref (sz + 2), .ref (sz + 3), .ref (sz + 4), .ref (sz + 5), .ref (sz + 6), .ref (sz + 7), .ref (sz + 8), .ref (sz + 9), .null, .null, .null, .null])) H := hb
  have h1 := h1.sty oq (fun z => ne_hb_h1 z.symm)
  have h2 := h2.sty oq (fun z => ne_hb_h2 z.symm)
  have h3 := h3.sty oq (fun z => ne_hb_h3 z.symm)
  have h4 := h4.sty oq (fun z => ne_hb_h4 z.symm)
  have h5 := h5.sty oq (fun z => ne_hb_h5 z.symm)
  have h6 := h6.sty oq (fun z => ne_hb_h6 z.symm)
  have h7 := h7.sty oq (fun z => ne_hb_h7 z.symm)
  have h8 := h8.sty oq (fun z => ne_hb_h8 z.symm)
  have h9 := h9.sty oq (fun z => ne_hb_h9 z.symm)
  have h10 := h10.sty oq (fun z => ne_hb_h10 z.symm)
  have hsz := hz.trans hsz
  refine lv_aload_n S.1 S.2.1 d_R_init_84 rfl (lv_at hl 0 rfl) ?_
  refine lv_bipush (v := 12) S.1 S.2.1 d_R_init_85 (by decide) ?_
  refine f_newZ (A := fun q => q = b ∨ sz ≤ q) (N' := 12) S hC q_745 hS (by decide) (by decide) (by decide) (Nat.le_of_ble_eq_true rfl) (Nat.le_of_ble_eq_true rfl) d_R_init_87 (fun q H hq0 h11 o1 hz hS => ?_)
  have hq : q = (sz + 10) := hq0.trans hsz
  clear hq0
  subst q
  have ne_hb_h11 := hb.apt hsz.symm
  have hb := hb.nw o1
  have ne_h1_h11 := h1.apt hsz.symm
  have h1 := h1.nw o1
  have ne_h2_h11 := h2.apt hsz.symm
  have h2 := h2.nw o1
  have ne_h3_h11 := h3.apt hsz.symm
  have h3 := h3.nw o1
  have ne_h4_h11 := h4.apt hsz.symm
  have h4 := h4.nw o1
  have ne_h5_h11 := h5.apt hsz.symm
  have h5 := h5.nw o1
  have ne_h6_h11 := h6.apt hsz.symm
  have h6 := h6.nw o1
  have ne_h7_h11 := h7.apt hsz.symm
  have h7 := h7.nw o1
  have ne_h8_h11 := h8.apt hsz.symm
  have h8 := h8.nw o1
  have ne_h9_h11 := h9.apt hsz.symm
  have h9 := h9.nw o1
  have ne_h10_h11 := h10.apt hsz.symm
  have h10 := h10.nw o1
  have hsz : H.size = (sz + 11) := by omega
  refine f_put (A := fun q => q = b ∨ sz ≤ q) (ty := (.array .boolean)) (v := .ref (sz + 10)) S hC kf_R hb (Or.inl rfl) hS rfl 13 (by decide) q_706 rfl (by decide +kernel) rfl rfl (Nat.le_of_ble_eq_true rfl) d_R_init_89 (fun H locs hb oq hz hS => ?_)
  have hb : va_at K.1 classes (b, .inr (11, [.int 0, .int 0, .int 0, .ref sz, .ref (sz + 1), .ref (sz + 2), .ref (sz + 3), .ref (sz + 4), .ref (sz + 5), .ref (sz + 6), .ref (sz + 7), .ref (sz + 8), .ref (sz + 9), .ref (sz + 10), .null, .null, .null])) H := hb
  have h1 := h1.sty oq (fun z => ne_hb_h1 z.symm)
  have h2 := h2.sty oq (fun z => ne_hb_h2 z.symm)
  have h3 := h3.sty oq (fun z => ne_hb_h3 z.symm)
  have h4 := h4.sty oq (fun z => ne_hb_h4 z.symm)
  have h5 := h5.sty oq (fun z => ne_hb_h5 z.symm)
  have h6 := h6.sty oq (fun z => ne_hb_h6 z.symm)
  have h7 := h7.sty oq (fun z => ne_hb_h7 z.symm)
  have h8 := h8.sty oq (fun z => ne_hb_h8 z.symm)
  have h9 := h9.sty oq (fun z => ne_hb_h9 z.symm)
  have h10 := h10.sty oq (fun z => ne_hb_h10 z.symm)
  have h11 := h11.sty oq (fun z => ne_hb_h11 z.symm)
  have hsz := hz.trans hsz
  refine lv_aload_n S.1 S.2.1 d_R_init_92 rfl (lv_at hl 0 rfl) ?_
  refine lv_bipush (v := 12) S.1 S.2.1 d_R_init_93 (by decide) ?_
  refine f_newI (A := fun q => q = b ∨ sz ≤ q) (N' := 12) S hC q_82 hS (by decide) (by decide) (by decide) (Nat.le_of_ble_eq_true rfl) (Nat.le_of_ble_eq_true rfl) d_R_init_95 (fun q H hq0 h12 o1 hz hS => ?_)
  have hq : q = (sz + 11) := hq0.trans hsz
  clear hq0
  subst q
  have ne_hb_h12 := hb.apt hsz.symm
  have hb := hb.nw o1
  have ne_h1_h12 := h1.apt hsz.symm
  have h1 := h1.nw o1
  have ne_h2_h12 := h2.apt hsz.symm
  have h2 := h2.nw o1
  have ne_h3_h12 := h3.apt hsz.symm
  have h3 := h3.nw o1
  have ne_h4_h12 := h4.apt hsz.symm
  have h4 := h4.nw o1
  have ne_h5_h12 := h5.apt hsz.symm
  have h5 := h5.nw o1
  have ne_h6_h12 := h6.apt hsz.symm
  have h6 := h6.nw o1
  have ne_h7_h12 := h7.apt hsz.symm
  have h7 := h7.nw o1
  have ne_h8_h12 := h8.apt hsz.symm
  have h8 := h8.nw o1
  have ne_h9_h12 := h9.apt hsz.symm
  have h9 := h9.nw o1
  have ne_h10_h12 := h10.apt hsz.symm
  have h10 := h10.nw o1
  have ne_h11_h12 := h11.apt hsz.symm
  have h11 := h11.nw o1
  have hsz : H.size = (sz + 12) := by omega
  refine f_put (A := fun q => q = b ∨ sz ≤ q) (ty := (.array .int)) (v := .ref (sz + 11)) S hC kf_R hb (Or.inl rfl) hS rfl 14 (by decide) q_707 rfl (by decide +kernel) rfl rfl (Nat.le_of_ble_eq_true rfl) d_R_init_97 (fun H locs hb oq hz hS => ?_)
  have hb : va_at K.1 classes (b, .inr (11, [.int 0, .int 0, .int 0, .ref sz, .ref (sz + 1), .ref (sz + 2), .ref (sz + 3), .ref (sz + 4), .ref (sz + 5), .ref (sz + 6), .ref (sz + 7), .ref (sz + 8), .ref (sz + 9), .ref (sz + 10), .ref (sz + 11), .null, .null])) H := hb
  have h1 := h1.sty oq (fun z => ne_hb_h1 z.symm)
  have h2 := h2.sty oq (fun z => ne_hb_h2 z.symm)
  have h3 := h3.sty oq (fun z => ne_hb_h3 z.symm)
  have h4 := h4.sty oq (fun z => ne_hb_h4 z.symm)
  have h5 := h5.sty oq (fun z => ne_hb_h5 z.symm)
  have h6 := h6.sty oq (fun z => ne_hb_h6 z.symm)
  have h7 := h7.sty oq (fun z => ne_hb_h7 z.symm)
  have h8 := h8.sty oq (fun z => ne_hb_h8 z.symm)
  have h9 := h9.sty oq (fun z => ne_hb_h9 z.symm)
  have h10 := h10.sty oq (fun z => ne_hb_h10 z.symm)
  have h11 := h11.sty oq (fun z => ne_hb_h11 z.symm)
  have h12 := h12.sty oq (fun z => ne_hb_h12 z.symm)
  have hsz := hz.trans hsz
  refine lv_aload_n S.1 S.2.1 d_R_init_100 rfl (lv_at hl 0 rfl) ?_
  refine lv_bipush (v := 12) S.1 S.2.1 d_R_init_101 (by decide) ?_
  refine f_newI (A := fun q => q = b ∨ sz ≤ q) (N' := 12) S hC q_82 hS (by decide) (by decide) (by decide) (Nat.le_of_ble_eq_true rfl) (Nat.le_of_ble_eq_true rfl) d_R_init_103 (fun q H hq0 h13 o1 hz hS => ?_)
  have hq : q = (sz + 12) := hq0.trans hsz
  clear hq0
  subst q
  have ne_hb_h13 := hb.apt hsz.symm
  have hb := hb.nw o1
  have ne_h1_h13 := h1.apt hsz.symm
  have h1 := h1.nw o1
  have ne_h2_h13 := h2.apt hsz.symm
  have h2 := h2.nw o1
  have ne_h3_h13 := h3.apt hsz.symm
  have h3 := h3.nw o1
  have ne_h4_h13 := h4.apt hsz.symm
  have h4 := h4.nw o1
  have ne_h5_h13 := h5.apt hsz.symm
  have h5 := h5.nw o1
  have ne_h6_h13 := h6.apt hsz.symm
  have h6 := h6.nw o1
  have ne_h7_h13 := h7.apt hsz.symm
  have h7 := h7.nw o1
  have ne_h8_h13 := h8.apt hsz.symm
  have h8 := h8.nw o1
  have ne_h9_h13 := h9.apt hsz.symm
  have h9 := h9.nw o1
  have ne_h10_h13 := h10.apt hsz.symm
  have h10 := h10.nw o1
  have ne_h11_h13 := h11.apt hsz.symm
  have h11 := h11.nw o1
  have ne_h12_h13 := h12.apt hsz.symm
  have h12 := h12.nw o1
  have hsz : H.size = (sz + 13) := by omega
  refine f_put (A := fun q => q = b ∨ sz ≤ q) (ty := (.array .int)) (v := .ref (sz + 12)) S hC kf_R hb (Or.inl rfl) hS rfl 15 (by decide) q_708 rfl (by decide +kernel) rfl rfl (Nat.le_of_ble_eq_true rfl) d_R_init_105 (fun H locs hb oq hz hS => ?_)
  have hb : va_at K.1 classes (b, .inr (11, [.int 0, .int 0, .int 0, .ref sz, .ref (sz + 1), .ref (sz + 2), .ref (sz + 3), .ref (sz + 4), .ref (sz + 5), .ref (sz + 6), .ref (sz + 7), .ref (sz + 8), .ref (sz + 9), .ref (sz + 10), .ref (sz + 11), .ref (sz + 12), .null])) H := hb
  have h1 := h1.sty oq (fun z => ne_hb_h1 z.symm)
  have h2 := h2.sty oq (fun z => ne_hb_h2 z.symm)
  have h3 := h3.sty oq (fun z => ne_hb_h3 z.symm)
  have h4 := h4.sty oq (fun z => ne_hb_h4 z.symm)
  have h5 := h5.sty oq (fun z => ne_hb_h5 z.symm)
  have h6 := h6.sty oq (fun z => ne_hb_h6 z.symm)
  have h7 := h7.sty oq (fun z => ne_hb_h7 z.symm)
  have h8 := h8.sty oq (fun z => ne_hb_h8 z.symm)
  have h9 := h9.sty oq (fun z => ne_hb_h9 z.symm)
  have h10 := h10.sty oq (fun z => ne_hb_h10 z.symm)
  have h11 := h11.sty oq (fun z => ne_hb_h11 z.symm)
  have h12 := h12.sty oq (fun z => ne_hb_h12 z.symm)
  have h13 := h13.sty oq (fun z => ne_hb_h13 z.symm)
  have hsz := hz.trans hsz
  refine lv_aload_n S.1 S.2.1 d_R_init_108 rfl (lv_at hl 0 rfl) ?_
  refine lv_bipush (v := 12) S.1 S.2.1 d_R_init_109 (by decide) ?_
  refine f_newI (A := fun q => q = b ∨ sz ≤ q) (N' := 12) S hC q_82 hS (by decide) (by decide) (by decide) (Nat.le_of_ble_eq_true rfl) (Nat.le_of_ble_eq_true rfl) d_R_init_111 (fun q H hq0 h14 o1 hz hS => ?_)
  have hq : q = (sz + 13) := hq0.trans hsz
  clear hq0
  subst q
  have ne_hb_h14 := hb.apt hsz.symm
  have hb := hb.nw o1
  have ne_h1_h14 := h1.apt hsz.symm
  have h1 := h1.nw o1
  have ne_h2_h14 := h2.apt hsz.symm
  have h2 := h2.nw o1
  have ne_h3_h14 := h3.apt hsz.symm
  have h3 := h3.nw o1
  have ne_h4_h14 := h4.apt hsz.symm
  have h4 := h4.nw o1
  have ne_h5_h14 := h5.apt hsz.symm
  have h5 := h5.nw o1
  have ne_h6_h14 := h6.apt hsz.symm
  have h6 := h6.nw o1
  have ne_h7_h14 := h7.apt hsz.symm
  have h7 := h7.nw o1
  have ne_h8_h14 := h8.apt hsz.symm
  have h8 := h8.nw o1
  have ne_h9_h14 := h9.apt hsz.symm
  have h9 := h9.nw o1
  have ne_h10_h14 := h10.apt hsz.symm
  have h10 := h10.nw o1
  have ne_h11_h14 := h11.apt hsz.symm
  have h11 := h11.nw o1
  have ne_h12_h14 := h12.apt hsz.symm
  have h12 := h12.nw o1
  have ne_h13_h14 := h13.apt hsz.symm
  have h13 := h13.nw o1
  have hsz : H.size = (sz + 14) := by omega
  refine f_put (A := fun q => q = b ∨ sz ≤ q) (ty := (.array .int)) (v := .ref (sz + 13)) S hC kf_R hb (Or.inl rfl) hS rfl 16 (by decide) q_709 rfl (by decide +kernel) rfl rfl (Nat.le_of_ble_eq_true rfl) d_R_init_113 (fun H locs hb oq hz hS => ?_)
  have hb : va_at K.1 classes (b, .inr (11, [.int 0, .int 0, .int 0, .ref sz, .ref (sz + 1), .ref (sz + 2), .ref (sz + 3), .ref (sz + 4), .ref (sz + 5), .ref (sz + 6), .ref (sz + 7), .ref (sz + 8), .ref (sz + 9), .ref (sz + 10), .ref (sz + 11), .ref (sz + 12), .ref (sz + 13)])) H := hb
  have h1 := h1.sty oq (fun z => ne_hb_h1 z.symm)
  have h2 := h2.sty oq (fun z => ne_hb_h2 z.symm)
  have h3 := h3.sty oq (fun z => ne_hb_h3 z.symm)
  have h4 := h4.sty oq (fun z => ne_hb_h4 z.symm)
  have h5 := h5.sty oq (fun z => ne_hb_h5 z.symm)
  have h6 := h6.sty oq (fun z => ne_hb_h6 z.symm)
  have h7 := h7.sty oq (fun z => ne_hb_h7 z.symm)
  have h8 := h8.sty oq (fun z => ne_hb_h8 z.symm)
  have h9 := h9.sty oq (fun z => ne_hb_h9 z.symm)
  have h10 := h10.sty oq (fun z => ne_hb_h10 z.symm)
  have h11 := h11.sty oq (fun z => ne_hb_h11 z.symm)
  have h12 := h12.sty oq (fun z => ne_hb_h12 z.symm)
  have h13 := h13.sty oq (fun z => ne_hb_h13 z.symm)
  have h14 := h14.sty oq (fun z => ne_hb_h14 z.symm)
  have hsz := hz.trans hsz
  have hmw : mW K (fun i => if i = 0 then b else sz + (i - 1)) 0 0 0 (fun _ _ => 0) (fun _ => 0) H := by
    refine ⟨hb, fun j j1 j2 j3 => ?_, h10⟩
    rcases (show j = 1 ∨ j = 2 ∨ j = 3 ∨ j = 4 ∨ j = 5 ∨ j = 6 ∨ j = 7 ∨ j = 8 ∨ j = 9 ∨ j = 11 ∨ j = 12 ∨ j = 13 ∨ j = 14 by omega) with rfl | rfl | rfl | rfl | rfl | rfl | rfl | rfl | rfl | rfl | rfl | rfl | rfl
    · exact h1
    · exact h2
    · exact h3
    · exact h4
    · exact h5
    · exact h6
    · exact h7
    · exact h8
    · exact h9
    · exact h11
    · exact h12
    · exact h13
    · exact h14
  exact rw_v S hr hk hS d_R_init_116 ⟨hsz, hmw⟩
