/-! the law's making calls -/
section
variable {wat : Int32} {n N : Nat} {kd wh fi se : Nat → Nat} {lo hi fr rg xr T : Nat → Int32} {dc t : Nat → Nat} {stt : Nat → Nat → Int64} {G : Int64} {Qp X : Nat → Int64} {J J' : Nat → Nat → Int32} {er : Nat → Bool} {x y : Int32}
theorem tie.new {kd0 wh0 fi0 se0 : Nat} {lo0 hi0 fr0 rg0 xr0 : Int32} (h : tie wat n kd wh fi se lo hi fr rg xr dc stt G N T Qp J X t er) (hwz : wat = 0) (hn : n < 12)
    (hrow : kd0 ≤ 9 ∧ wh0 ≤ 2 ∧ (kd0 ≤ 2 → (fi0 ≤ 2 ∨ (4 ≤ fi0 ∧ fi0 ≤ 7)) ∧ (se0 ≤ 2 ∨ (4 ≤ se0 ∧ se0 ≤ 7))) ∧ (3 ≤ kd0 → fi0 < n ∧ se0 < n) ∧ ((kd0 = 3 ∨ kd0 = 6 ∨ kd0 = 7) → se0 = fi0) ∧ (kd0 = 9 → ∃ h : Nat, h ≤ 1000000 ∧ hi0 = nI h))
    (hfr0 : fr0 = frE (fun _ => kd0) (fun _ => wh0) (fun _ => fi0) (fun _ => se0) fr 0) (hrg0 : rg0 = rgE (fun _ => kd0) (fun _ => wh0) (fun _ => fi0) (fun _ => se0) rg 0) (hxr0 : xr0 = bI (erE (fun _ => kd0) (fun _ => wh0) (fun _ => fi0) (fun _ => se0) rg er 0)) (hmk : mMk J J' n (nI kd0) (nI wh0) (nI fi0) (nI se0) lo0 hi0) : tie wat (n + 1) (va_up kd n kd0) (va_up wh n wh0) (va_up fi n fi0) (va_up se n se0) (va_up lo n lo0) (va_up hi n hi0) (va_up fr n fr0) (va_up rg n rg0) (va_up xr n xr0) (va_up dc n 0) (va_up stt n (fun _ => 0)) G N T Qp J' X t (va_up er n (erE (fun _ => kd0) (fun _ => wh0) (fun _ => fi0) (fun _ => se0) rg er 0)) := by
  obtain ⟨h12, h24, hwt, hw0, hV, hT, hfr, hrg, hxr, her, hrc, htm, hJ7, hQP, hGJ, hst, hXs⟩ := h
  obtain ⟨hN0, hG0⟩ := hw0 hwz
  subst hN0
  have hdc0 : ∀ k, k < n → dc k = 0 := fun k hk => by have := rch_all hV (Nat.le_refl n) hrc k hk; omega
  have hdn : ∀ k, k < n + 1 → va_up dc n 0 k = 0 := fun k hk => by
    by_cases e : k = n
    · rw [e, va_up_self]
    · rw [va_up_ne _ _ e]; exact hdc0 k (by omega)
  have hV' : tabOk (va_up kd n kd0) (va_up wh n wh0) (va_up fi n fi0) (va_up se n se0) (va_up lo n lo0) (va_up hi n hi0) (n + 1) := fun k hk => by
    by_cases e : k = n
    · subst e
      rw [va_up_self, va_up_self, va_up_self, va_up_self, va_up_self]
      exact hrow
    · rw [va_up_ne _ _ e, va_up_ne _ _ e, va_up_ne _ _ e, va_up_ne _ _ e, va_up_ne _ _ e]
      exact hV k (by omega)
  obtain ⟨m1, m2, m3, m4, m5, m6, m7, m8⟩ := hmk
  refine ⟨by omega, h24, hwt, fun _ => ⟨rfl, hG0⟩, hV', fun k hk => ?_, ?_, ?_, ?_, ?_, fun j hj => ?_, htm, by rw [m8 7 (by decide)]; exact hJ7, fun i hi => absurd hi (by omega), by rw [m8 9 (by decide)]; exact hGJ, fun k hk i hi => absurd hi (by rw [hdn k hk]; omega), fun k hk i hi => absurd hi (by omega)⟩
  · by_cases e : k = n
    · subst e
      rw [va_up_self, va_up_self, va_up_self, va_up_self, va_up_self, va_up_self]
      exact ⟨m1, m2, m3, m4, m5, m6⟩
    · rw [va_up_ne _ _ e, va_up_ne _ _ e, va_up_ne _ _ e, va_up_ne _ _ e, va_up_ne _ _ e, va_up_ne _ _ e, m7 _ _ e, m7 _ _ e, m7 _ _ e, m7 _ _ e, m7 _ _ e, m7 _ _ e]
      exact hT k (by omega)
  · -- free
    intro j hj
    by_cases e : j = n
    · subst e
      rw [va_up_self]
      refine Eq.trans hfr0 ?_
      show frE (fun _ => kd0) (fun _ => wh0) (fun _ => fi0) (fun _ => se0) fr 0 = frE (fun _ => va_up kd j kd0 j) (fun _ => va_up wh j wh0 j) (fun _ => va_up fi j fi0 j) (fun _ => va_up se j se0 j) (va_up fr j fr0) 0
      rw [va_up_self, va_up_self, va_up_self, va_up_self]
      exact frE_congr (fun h3 => (va_up_ne _ _ (by have := (hrow.2.2.2.1 h3).1; omega)).symm) (fun h3 => (va_up_ne _ _ (by have := (hrow.2.2.2.1 h3).2; omega)).symm)
    · rw [va_up_ne _ _ e, hfr j (by omega)]
      show frE (fun _ => kd j) (fun _ => wh j) (fun _ => fi j) (fun _ => se j) fr 0 = frE (fun _ => va_up kd n kd0 j) (fun _ => va_up wh n wh0 j) (fun _ => va_up fi n fi0 j) (fun _ => va_up se n se0 j) (va_up fr n fr0) 0
      rw [va_up_ne _ _ e, va_up_ne _ _ e, va_up_ne _ _ e, va_up_ne _ _ e]
      exact frE_congr (fun h3 => (va_up_ne _ _ (by have := ((hV j (by omega)).2.2.2.1 h3).1; omega)).symm) (fun h3 => (va_up_ne _ _ (by have := ((hV j (by omega)).2.2.2.1 h3).2; omega)).symm)
  · -- ranged
    intro j hj
    by_cases e : j = n
    · subst e
      rw [va_up_self]
      refine Eq.trans hrg0 ?_
      show rgE (fun _ => kd0) (fun _ => wh0) (fun _ => fi0) (fun _ => se0) rg 0 = rgE (fun _ => va_up kd j kd0 j) (fun _ => va_up wh j wh0 j) (fun _ => va_up fi j fi0 j) (fun _ => va_up se j se0 j) (va_up rg j rg0) 0
      rw [va_up_self, va_up_self, va_up_self, va_up_self]
      exact rgE_congr (fun h3 => (va_up_ne _ _ (by have := (hrow.2.2.2.1 h3).1; omega)).symm) (fun h3 => (va_up_ne _ _ (by have := (hrow.2.2.2.1 h3).2; omega)).symm)
    · rw [va_up_ne _ _ e, hrg j (by omega)]
      show rgE (fun _ => kd j) (fun _ => wh j) (fun _ => fi j) (fun _ => se j) rg 0 = rgE (fun _ => va_up kd n kd0 j) (fun _ => va_up wh n wh0 j) (fun _ => va_up fi n fi0 j) (fun _ => va_up se n se0 j) (va_up rg n rg0) 0
      rw [va_up_ne _ _ e, va_up_ne _ _ e, va_up_ne _ _ e, va_up_ne _ _ e]
      exact rgE_congr (fun h3 => (va_up_ne _ _ (by have := ((hV j (by omega)).2.2.2.1 h3).1; omega)).symm) (fun h3 => (va_up_ne _ _ (by have := ((hV j (by omega)).2.2.2.1 h3).2; omega)).symm)
  · intro j hj
    by_cases e : j = n
    · subst e; rw [va_up_self, va_up_self]; exact hxr0
    · rw [va_up_ne _ _ e, va_up_ne _ _ e]; exact hxr j (by omega)
  · intro j hj
    by_cases e : j = n
    · subst e
      rw [va_up_self]
      show erE (fun _ => kd0) (fun _ => wh0) (fun _ => fi0) (fun _ => se0) rg er 0 = erE (fun _ => va_up kd j kd0 j) (fun _ => va_up wh j wh0 j) (fun _ => va_up fi j fi0 j) (fun _ => va_up se j se0 j) (va_up rg j rg0) (va_up er j (erE (fun _ => kd0) (fun _ => wh0) (fun _ => fi0) (fun _ => se0) rg er 0)) 0
      rw [va_up_self, va_up_self, va_up_self, va_up_self]
      exact erE_congr (fun h3 => (va_up_ne _ _ (by have := (hrow.2.2.2.1 h3).1; omega)).symm) (fun h3 => (va_up_ne _ _ (by have := (hrow.2.2.2.1 h3).1; omega)).symm) (fun h3 => (va_up_ne _ _ (by have := (hrow.2.2.2.1 h3).2; omega)).symm)
    · rw [va_up_ne _ _ e, her j (by omega)]
      show erE (fun _ => kd j) (fun _ => wh j) (fun _ => fi j) (fun _ => se j) rg er 0 = erE (fun _ => va_up kd n kd0 j) (fun _ => va_up wh n wh0 j) (fun _ => va_up fi n fi0 j) (fun _ => va_up se n se0 j) (va_up rg n rg0) (va_up er n (erE (fun _ => kd0) (fun _ => wh0) (fun _ => fi0) (fun _ => se0) rg er 0)) 0
      rw [va_up_ne _ _ e, va_up_ne _ _ e, va_up_ne _ _ e, va_up_ne _ _ e]
      exact erE_congr (fun h3 => (va_up_ne _ _ (by have := ((hV j (by omega)).2.2.2.1 h3).1; omega)).symm) (fun h3 => (va_up_ne _ _ (by have := ((hV j (by omega)).2.2.2.1 h3).1; omega)).symm) (fun h3 => (va_up_ne _ _ (by have := ((hV j (by omega)).2.2.2.1 h3).2; omega)).symm)
  · rw [hdn j hj]
    exact (rch_0 _ _ (fun h3 => ⟨hdn _ (by have := ((hV' j hj).2.2.2.1 h3).1; omega), hdn _ (by have := ((hV' j hj).2.2.2.1 h3).2; omega)⟩)).symm
theorem rel_iff : ¬ f_M_isRelation x = 0 ↔ ¬ x < 0 ∧ ¬ 2 < x := by
  constructor
  · intro h
    obtain ⟨r, hr, e⟩ := rel_of h
    subst e
    rcases (show r = 0 ∨ r = 1 ∨ r = 2 by omega) with rfl | rfl | rfl <;> decide
  · rintro ⟨h1, h2⟩
    obtain ⟨r, hr, e⟩ := r2_of h1 h2
    rw [e]; exact rel_y r hr
theorem tm_of (h : ¬ f_M_isTerm x = 0) : ∃ t, tmr t ∧ x = nI t := by
  unfold f_M_isTerm f_M_isVariable f_M_isValueTerm at h
  rcases pk_ix x (n := 8) (by decide) with c | c | ⟨j, hj, e⟩
  · simp [c, Int32.lt_trans c (show (0 : Int32) < 4 by decide)] at h
  · simp [show (8 : Int32) ≤ x from c, Int32.le_trans (show (3 : Int32) ≤ 8 by decide) c] at h
  · subst e
    refine ⟨j, ?_, rfl⟩
    unfold tmr
    by_cases e3 : j = 3
    · subst e3; exact absurd (by decide) h
    · omega
theorem tmR_of (h : ¬ f_R_isTerm x = 0) : ∃ t, tmr t ∧ x = nI t := by
  unfold f_R_isTerm at h
  rcases pk_ix x (n := 8) (by decide) with c | c | ⟨j, hj, e⟩
  · simp [c, Int32.lt_trans c (show (0 : Int32) < 4 by decide)] at h
  · have c1 : (7 : Int32) < x := Int32.lt_of_lt_of_le (by decide) (show (8 : Int32) ≤ x from c)
    have c2 : ¬ x ≤ 2 := fun z => absurd (Int32.le_trans (show (8 : Int32) ≤ x from c) z) (by decide)
    simp [c1, c2] at h
  · subst e
    refine ⟨j, ?_, rfl⟩
    unfold tmr
    by_cases e3 : j = 3
    · subst e3; exact absurd (by decide) h
    · omega
theorem tm_all : ∀ t, t < 8 → t = 3 ∨ (¬ f_M_isTerm (nI t) = 0 ∧ ¬ f_R_isTerm (nI t) = 0) := by decide
theorem tm_y {t : Nat} (h : tmr t) : ¬ f_M_isTerm (nI t) = 0 ∧ ¬ f_R_isTerm (nI t) = 0 := by
  unfold tmr at h
  rcases tm_all t (by omega) with e | e
  · omega
  · exact e
theorem frm_iff (hn : n < 2147483648) : (∃ k, k < n ∧ x = nI k) ↔ ¬ f_R_isFormula n x = 0 := by
  constructor
  · rintro ⟨k, hk, e⟩
    rw [e]; exact isF_y hn hk
  · intro h
    apply Classical.byContradiction
    intro hno
    exact h (isF_n hn (fun k hk e => hno ⟨k, hk, e⟩))
theorem ivl_iff : ¬ f_M_isInterval x y = 0 ↔ ¬ f_R_isInterval x y 0 = 0 := by
  unfold f_M_isInterval f_M_isTime f_R_isInterval
  by_cases c1 : x < 0
  · simp [c1]
  · by_cases c2 : 1000000 < x
    · simp [c1, c2]
    · by_cases c3 : y < x
      · simp [c1, c2, c3]
      · have c4 : ¬ y < 0 := fun z => c3 (Int32.lt_of_lt_of_le z (Int32.not_lt.mp c1))
        by_cases c5 : 1000000 < y
        · simp [c1, c2, c3, c4, c5, Int32.not_le.mpr c5]
        · simp [c1, c2, c3, c4, c5, Int32.not_lt.mp c5]
theorem pst_iff : ¬ f_M_isPastInterval x y = 0 ↔ ¬ f_R_isInterval x y 1 = 0 := by
  unfold f_M_isPastInterval
  by_cases e : y = -1
  · rw [if_pos e]
    unfold f_M_isTime f_R_isInterval
    by_cases c1 : x < 0
    · simp [c1]
    · by_cases c2 : 1000000 < x
      · simp [c1, c2]
      · subst e
        by_cases c3 : (-1 : Int32) < x <;> simp [c1, c2, c3]
  · rw [if_neg e, ivl_iff]
    unfold f_R_isInterval
    simp [e]
theorem ivl_hi (h : ¬ f_M_isInterval x y = 0) : ∃ k : Nat, k ≤ 1000000 ∧ y = nI k := by
  unfold f_M_isInterval at h
  have h1 : ¬ f_M_isTime y = 0 := fun z => by rw [z] at h; simp at h
  unfold f_M_isTime at h1
  by_cases c1 : y < 0
  · simp [c1] at h1
  · by_cases c2 : 1000000 < y
    · simp [c1, c2] at h1
    · exact nI_of2 (n := 1000000) (M := 1000000) (by decide) c1 (Int32.not_lt.mp c2)
theorem amg_all : ∀ a, a < 8 → ∀ b, b < 8 → a = 3 ∨ b = 3 ∨ (f_M_variablesAmong (nI a) (nI b) = (vr a ||| vr b) ∧ f_Comp_rangedBy 0 (nI a) (nI b) = (if vr a = 0 ∨ vr b = 0 then vr a ||| vr b else 0)) := by decide +kernel
theorem amg {a b : Nat} (ha : tmr a) (hb : tmr b) : f_M_variablesAmong (nI a) (nI b) = (vr a ||| vr b) ∧ f_Comp_rangedBy 0 (nI a) (nI b) = (if vr a = 0 ∨ vr b = 0 then vr a ||| vr b else 0) := by
  unfold tmr at ha hb
  rcases amg_all a (by omega) b (by omega) with e | e | e
  · omega
  · omega
  · exact e
theorem xr2 {p q : Bool} (hx : x = bI p) (hy : y = bI q) : (if x = 0 then (0 : Int32) else if y = 0 then 0 else 1) = bI (p && q) := by
  subst hx; subst hy; cases p <;> cases q <;> rfl
theorem may_w (h : ¬ f_M_mayMake wat n = 0) : wat = 0 := by
  unfold f_M_mayMake at h
  by_cases e : wat = 0
  · exact e
  · rw [if_neg e] at h; exact absurd rfl h
theorem cap_case {cap : Nat} (h : capOk cap n) (hn : n < 12) : n < cap ∨ (n = 0 ∧ cap = 0) ∨ (n = 10 ∧ cap = 10) := by
  unfold capOk at h; omega
theorem exf (a : Int32) (v : Nat) : (a &&& (f_M_variableBit (nI v) ^^^ (-1))) = ((a ||| a) &&& mskN v) := by
  rw [b_orx]; rfl
theorem exx {r : Int32} {v : Nat} {p : Bool} (hv : v < 3) (hx : x = bI p) : (if x = 0 then (0 : Int32) else if r &&& f_M_variableBit (nI v) = 0 then 0 else 1) = bI (bt r v && (p && p)) := by
  subst hx
  have h := b_andbit r (k := v) (by omega)
  cases p
  · rw [if_pos (show bI false = 0 from rfl)]; cases bt r v <;> rfl
  · rw [if_neg (by decide)]
    by_cases c : r &&& f_M_variableBit (nI v) = 0
    · rw [if_pos c, h.mp c]; rfl
    · rw [if_neg c, bnf (fun z => c (h.mpr z))]; rfl
end
section
variable {K : KT} {mon lst els els2 lg tm pr : Nat} {ad sa : Nat → Nat} {n sz q : Nat}
theorem ac_new (h2 : els2 = els ∨ sz ≤ els2) (h : ac K mon lst els2 lg tm pr (va_up ad n sz) (va_up sa n (sz + 1)) (n + 1) q) : ac K mon lst els lg tm pr ad sa n q ∨ sz ≤ q := by
  obtain ⟨h1, i, hi, e⟩ := h
  by_cases e2 : i = 2
  · subst e2
    rcases h2 with z | z
    · left; exact ⟨h1, 2, by omega, by rw [e]; exact z⟩
    · right; rw [e]; exact z
  · by_cases h6 : i < 6
    · left
      refine ⟨h1, i, by omega, e.trans ?_⟩
      rcases (show i = 0 ∨ i = 1 ∨ i = 3 ∨ i = 4 ∨ i = 5 by omega) with rfl | rfl | rfl | rfl | rfl <;> rfl
    · have hc : ∀ (el : Nat) (ad sa : Nat → Nat), ca mon lst el lg tm pr ad sa i = if i % 2 = 0 then ad ((i - 6) / 2) else sa ((i - 6) / 2) := fun el ad sa => by
        unfold ca
        rw [if_neg (by omega), if_neg (by omega), if_neg (by omega), if_neg (by omega), if_neg (by omega), if_neg (by omega)]
      by_cases hk : (i - 6) / 2 = n
      · right
        rw [e, hc, hk, va_up_self, va_up_self]
        split <;> omega
      · left
        refine ⟨h1, i, by omega, ?_⟩
        rw [e, hc, hc, va_up_ne _ _ hk, va_up_ne _ _ hk]
end
section
variable {p : Program} {e : Env} {s : State} {m : MethodId} {below : List Frame} {meth : Method} {c : Code} {H : Heap} {locs : List Loc} {cells slots : Nat} {Q : State → Prop} {ls : Array Slot}
variable {K : KT} {mon lst lg tm pr b L i : Nat} {ma : Nat → Nat} {xs : Nat → Int32}
set_option maxHeartbeats 4000000 in
set_option maxRecDepth 100000 in
theorem law_0 (l : Launch) (S : CallFix p m c code 4 s #[Value.ref b] WALL "MetricLogMonitorLaw") (hC : CX K s) (hkz : kz K = s.heap.size) (hX : va_X b L xs s s.heap) (hbl : b < s.heap.size) (hL : L ≤ 2560) (hiL : i + 5 ≤ L) (hcc : cells + 3 ≤ room_1.cells) (hss : slots + 48 ≤ room_1.slots) (hv : inv K mon lst lg tm pr ma H) (hS : va_S (fun q : Nat => kz K ≤ q) s.heap H locs) (hl : lv_has ls 4 [(3, .int (nI i)), (2, .ref (ma 0)), (1, .ref mon), (0, .ref b)])
    (kk : ∀ (H' : Heap) (locs' : List Loc), inv K mon lst lg tm pr ma H' → va_S (fun q : Nat => kz K ≤ q) s.heap H' locs' → W p l e room_1 s m #[Value.ref b] below meth c H' locs' (cells + 3) (slots + 48) Q (F0 m 761 ls [])) : W p l e room_1 s m #[Value.ref b] below meth c H locs cells slots Q (F0 m 120 ls []) := by
  have hbA : ¬ (fun q : Nat => kz K ≤ q) b := fun z => absurd (show kz K ≤ b from z) (by omega)
  have hA : ∀ q, (fun q : Nat => kz K ≤ q) q → kz K ≤ q := fun _ h => h
  have hzH : kz K ≤ H.size := by have := hS.1; omega
  obtain ⟨els, wat, md, n, cap, fE, kd, wh, fi, se, lo, hi, fr, rg, xr, dc, ad, sa, stt, G, N, T, Qp, J, X, t, eb, hcw, hD, hcap, hw, hDm, hsep, htie⟩ := hv
  have htie0 := htie
  obtain ⟨hrcJ, hdcN⟩ := htie.rcJ
  obtain ⟨h12, h24, hwt, hw0, hV, hT, hfr, hrg, hxr, her, hrc, htm, hJ7, hQP, hGJ, hst, hXs⟩ := htie
  have hdc24 : ∀ j, j < n → dc j ≤ 24 := fun j hj => Nat.le_trans (hdcN j hj) h24
  by_cases hc : ¬ f_M_mayMake wat n = 0 ∧ ¬ f_M_isRelation (xs (i + 1)) = 0 ∧ ¬ f_M_isTerm (xs (i + 2)) = 0 ∧ ¬ f_M_isTerm (xs (i + 3)) = 0
  · obtain ⟨r9, hr3, ex1⟩ := rel_of hc.2.1
    obtain ⟨a, ta, ex2⟩ := tm_of hc.2.2.1
    obtain ⟨b2, tb2, ex3⟩ := tm_of hc.2.2.2
    have hyes := hc.1
    have hwz := may_w hyes
    have hn12 : n < 12 := hmay (by omega) hyes
    have hlt := lw_lt hcw hD hC hzH
    have hw0m := hw
    obtain ⟨H0, hH0⟩ : ∃ H0, H0 = H := ⟨_, rfl⟩
    refine lv_aload_n S.1 S.2.1 d_Law_law_120 rfl (lv_at hl 2 rfl) ?_
    refine lv_aload_n S.1 S.2.1 d_Law_law_121 rfl (lv_at hl 3 rfl) ?_
    refine lv_iload_n S.1 S.2.1 d_Law_law_122 rfl (lv_at hl 0 rfl) ?_
    refine lv_iconst (v := 1) S.1 S.2.1 d_Law_law_123 (by decide) ?_
    refine lv_iadd S.1 S.2.1 d_Law_law_124 ?_
    refine tpi (y := nI (i + 1)) (nI_add i 1) ?_
    refine s_ld (j := i + 1) S hX hbl hbA hS (by omega) hL d_Law_law_125 ?_
    refine tpi (y := nI r9) ex1 ?_
    refine lv_aload_n S.1 S.2.1 d_Law_law_126 rfl (lv_at hl 3 rfl) ?_
    refine lv_iload_n S.1 S.2.1 d_Law_law_127 rfl (lv_at hl 0 rfl) ?_
    refine lv_iconst (v := 2) S.1 S.2.1 d_Law_law_128 (by decide) ?_
    refine lv_iadd S.1 S.2.1 d_Law_law_129 ?_
    refine tpi (y := nI (i + 2)) (nI_add i 2) ?_
    refine s_ld (j := i + 2) S hX hbl hbA hS (by omega) hL d_Law_law_130 ?_
    refine tpi (y := nI a) ex2 ?_
    refine lv_aload_n S.1 S.2.1 d_Law_law_131 rfl (lv_at hl 3 rfl) ?_
    refine lv_iload_n S.1 S.2.1 d_Law_law_132 rfl (lv_at hl 0 rfl) ?_
    refine lv_iconst (v := 3) S.1 S.2.1 d_Law_law_133 (by decide) ?_
    refine lv_iadd S.1 S.2.1 d_Law_law_134 ?_
    refine tpi (y := nI (i + 3)) (nI_add i 3) ?_
    refine s_ld (j := i + 3) S hX hbl hbA hS (by omega) hL d_Law_law_135 ?_
    refine tpi (y := nI b2) ex3 ?_
    refine kw_i (A := (fun q : Nat => kz K ≤ q)) (k_V (rest := []) S (c_M_atom_y l (sz := H0.size) hD hV (by rw [hH0]; exact hlt) hyes (cap_case hcap hn12) r9 a b2 (rel_y r9 hr3) (tm_y ta).1 (tm_y tb2).1) kc_M_atom ⟨q_94, q_95, q_96⟩ rfl rfl ⟨Nat.le_of_ble_eq_true rfl, Nat.le_of_ble_eq_true rfl⟩ hC hS hA ⟨by rw [hH0], hcw⟩ ⟨8, _, _, _, rfl, hcw.1⟩ rfl hl.1 rfl (Nat.le_of_ble_eq_true rfl) ⟨(by omega), (by omega)⟩ d_Law_law_136) hS (fun q h => h.elim (fun z => by rw [z]; exact hD.2.1 1 (by omega) (by omega)) (fun z => z.elim (fun z => by rw [z.2]; exact hD.2.2.1 z.1) (fun z => by rw [hH0] at z; exact Nat.le_trans hzH z))) (fun r H locs er hz hkp hS => ?_)
    obtain ⟨er0, els2, cap2, g9, hcw, hcp2, hel2⟩ := er
    have hw := hw.cl hkp (fun j9 hj9 z => z.elim (fun z => hsep _ (ac_fix hD (i := 1) (by omega) (by omega)) ⟨j9, hj9, z.symm⟩) (fun z => z.elim (fun z => hsep _ (ac_els hD z.1) ⟨j9, hj9, z.2.symm⟩) (fun z => by have := mA.lt (q := ma j9) ⟨j9, hj9, rfl⟩ hw; rw [hH0] at z; omega)))
    have hn1 := hcw.2.1.2.2.1
    have hD1 := dst_new (sz := H0.size) hD (by rw [hH0]; exact hlt) (by rw [hH0]; exact hzH) (hel2.imp id (fun z => by omega)) (by omega : 0 < cap2)
    have hsep1 : ∀ q, ac K mon lst els2 lg tm pr (va_up ad n H0.size) (va_up sa n (H0.size + 1)) (n + 1) q → ¬ mA ma q := fun q h z => (ac_new (hel2.imp (fun y => y.1) (fun y => by omega)) h).elim (fun y => hsep q y z) (fun y => by have := mA.lt z hw0m; rw [hH0] at y; omega)
    have hcap1 : capOk cap2 (n + 1) := by unfold capOk at hcap ⊢; omega
    subst er0
    refine lv_aload_n S.1 S.2.1 d_Law_law_139 rfl (lv_at hl 1 rfl) ?_
    refine lv_aload_n S.1 S.2.1 d_Law_law_140 rfl (lv_at hl 3 rfl) ?_
    refine lv_iload_n S.1 S.2.1 d_Law_law_141 rfl (lv_at hl 0 rfl) ?_
    refine lv_iconst (v := 1) S.1 S.2.1 d_Law_law_142 (by decide) ?_
    refine lv_iadd S.1 S.2.1 d_Law_law_143 ?_
    refine tpi (y := nI (i + 1)) (nI_add i 1) ?_
    refine s_ld (j := i + 1) S hX hbl hbA hS (by omega) hL d_Law_law_144 ?_
    refine tpi (y := nI r9) ex1 ?_
    refine lv_aload_n S.1 S.2.1 d_Law_law_145 rfl (lv_at hl 3 rfl) ?_
    refine lv_iload_n S.1 S.2.1 d_Law_law_146 rfl (lv_at hl 0 rfl) ?_
    refine lv_iconst (v := 2) S.1 S.2.1 d_Law_law_147 (by decide) ?_
    refine lv_iadd S.1 S.2.1 d_Law_law_148 ?_
    refine tpi (y := nI (i + 2)) (nI_add i 2) ?_
    refine s_ld (j := i + 2) S hX hbl hbA hS (by omega) hL d_Law_law_149 ?_
    refine tpi (y := nI a) ex2 ?_
    refine lv_aload_n S.1 S.2.1 d_Law_law_150 rfl (lv_at hl 3 rfl) ?_
    refine lv_iload_n S.1 S.2.1 d_Law_law_151 rfl (lv_at hl 0 rfl) ?_
    refine lv_iconst (v := 3) S.1 S.2.1 d_Law_law_152 (by decide) ?_
    refine lv_iadd S.1 S.2.1 d_Law_law_153 ?_
    refine tpi (y := nI (i + 3)) (nI_add i 3) ?_
    refine s_ld (j := i + 3) S hX hbl hbA hS (by omega) hL d_Law_law_154 ?_
    refine tpi (y := nI b2) ex3 ?_
    refine kw_i (A := (fun q : Nat => kz K ≤ q)) (k_V (rest := [.int (nI n)]) S (c_R_atom l hDm (nI r9) (nI a) (nI b2) (by omega)) kc_R_atom ⟨q_746, q_747, q_748⟩ rfl rfl ⟨Nat.le_of_ble_eq_true rfl, Nat.le_of_ble_eq_true rfl⟩ hC hS hA hw ⟨11, _, _, _, rfl, hw.1⟩ rfl hl.1 rfl (Nat.le_of_ble_eq_true rfl) ⟨(by omega), (by omega)⟩ d_Law_law_155) hS (fun q h => by obtain ⟨j9, hj9, rfl⟩ := h; exact hDm.2 j9 hj9) (fun r H locs er hz hkp hS => ?_)
    have er1 := er
    obtain ⟨er0, J1, hmk, hw⟩ := er1.1 ⟨hyes, (rel_iff.mp (rel_y r9 hr3)).1, (rel_iff.mp (rel_y r9 hr3)).2, (tm_y ta).2, (tm_y tb2).2⟩
    have hD := hD1
    have hsep := hsep1
    have hcap := hcap1
    have hcw := hcw.cl hD hkp hsep
    subst er0
    refine lv_icmp_eq (tgt := 761) S.1 S.2.1 d_Law_law_158 (by decide) (fun _ => ?_) (fun hx9 => absurd rfl hx9)
    exact W.widen (k := cells + 3) (n := slots + 48) (by omega) (by omega) (kk _ _ ⟨els2, wat, md + 1, n + 1, cap2, g9, (va_up kd n _), (va_up wh n _), (va_up fi n _), (va_up se n _), (va_up lo n _), (va_up hi n _), (va_up fr n _), (va_up rg n _), (va_up xr n _), (va_up dc n 0), (va_up ad n H0.size), (va_up sa n (H0.size + 1)), (va_up stt n (fun _ => 0)), G, N, T, Qp, J1, X, t, _, hcw, hD, hcap, hw, hDm, hsep, htie0.new (kd0 := 0) (wh0 := r9) (fi0 := a) (se0 := b2) hwz hn12 ⟨by omega, by omega, fun _ => ⟨ta, tb2⟩, fun h => absurd h (by omega), fun h => absurd h (by omega), fun h => absurd h (by omega)⟩ ((amg ta tb2).1.trans rfl) ((amg ta tb2).1.trans rfl) rfl hmk⟩ hS)
  · skip
    refine lv_aload_n S.1 S.2.1 d_Law_law_120 rfl (lv_at hl 2 rfl) ?_
    refine lv_aload_n S.1 S.2.1 d_Law_law_121 rfl (lv_at hl 3 rfl) ?_
    refine lv_iload_n S.1 S.2.1 d_Law_law_122 rfl (lv_at hl 0 rfl) ?_
    refine lv_iconst (v := 1) S.1 S.2.1 d_Law_law_123 (by decide) ?_
    refine lv_iadd S.1 S.2.1 d_Law_law_124 ?_
    refine tpi (y := nI (i + 1)) (nI_add i 1) ?_
    refine s_ld (j := i + 1) S hX hbl hbA hS (by omega) hL d_Law_law_125 ?_
    refine lv_aload_n S.1 S.2.1 d_Law_law_126 rfl (lv_at hl 3 rfl) ?_
    refine lv_iload_n S.1 S.2.1 d_Law_law_127 rfl (lv_at hl 0 rfl) ?_
    refine lv_iconst (v := 2) S.1 S.2.1 d_Law_law_128 (by decide) ?_
    refine lv_iadd S.1 S.2.1 d_Law_law_129 ?_
    refine tpi (y := nI (i + 2)) (nI_add i 2) ?_
    refine s_ld (j := i + 2) S hX hbl hbA hS (by omega) hL d_Law_law_130 ?_
    refine lv_aload_n S.1 S.2.1 d_Law_law_131 rfl (lv_at hl 3 rfl) ?_
    refine lv_iload_n S.1 S.2.1 d_Law_law_132 rfl (lv_at hl 0 rfl) ?_
    refine lv_iconst (v := 3) S.1 S.2.1 d_Law_law_133 (by decide) ?_
    refine lv_iadd S.1 S.2.1 d_Law_law_134 ?_
    refine tpi (y := nI (i + 3)) (nI_add i 3) ?_
    refine s_ld (j := i + 3) S hX hbl hbA hS (by omega) hL d_Law_law_135 ?_
    refine kVi (rest := []) S (c_M_atom_n l (xs (i + 1)) (xs (i + 2)) (xs (i + 3)) hc) kc_M_atom ⟨q_94, q_95, q_96⟩ rfl rfl ⟨Nat.le_of_ble_eq_true rfl, Nat.le_of_ble_eq_true rfl⟩ hC hS hA hcw ⟨8, _, _, _, rfl, hcw.1⟩ ⟨(by omega), (by omega)⟩ hl.1 rfl rfl (Nat.le_of_ble_eq_true rfl) d_Law_law_136 (fun r er => ?_)
    subst er
    refine lv_aload_n S.1 S.2.1 d_Law_law_139 rfl (lv_at hl 1 rfl) ?_
    refine lv_aload_n S.1 S.2.1 d_Law_law_140 rfl (lv_at hl 3 rfl) ?_
    refine lv_iload_n S.1 S.2.1 d_Law_law_141 rfl (lv_at hl 0 rfl) ?_
    refine lv_iconst (v := 1) S.1 S.2.1 d_Law_law_142 (by decide) ?_
    refine lv_iadd S.1 S.2.1 d_Law_law_143 ?_
    refine tpi (y := nI (i + 1)) (nI_add i 1) ?_
    refine s_ld (j := i + 1) S hX hbl hbA hS (by omega) hL d_Law_law_144 ?_
    refine lv_aload_n S.1 S.2.1 d_Law_law_145 rfl (lv_at hl 3 rfl) ?_
    refine lv_iload_n S.1 S.2.1 d_Law_law_146 rfl (lv_at hl 0 rfl) ?_
    refine lv_iconst (v := 2) S.1 S.2.1 d_Law_law_147 (by decide) ?_
    refine lv_iadd S.1 S.2.1 d_Law_law_148 ?_
    refine tpi (y := nI (i + 2)) (nI_add i 2) ?_
    refine s_ld (j := i + 2) S hX hbl hbA hS (by omega) hL d_Law_law_149 ?_
    refine lv_aload_n S.1 S.2.1 d_Law_law_150 rfl (lv_at hl 3 rfl) ?_
    refine lv_iload_n S.1 S.2.1 d_Law_law_151 rfl (lv_at hl 0 rfl) ?_
    refine lv_iconst (v := 3) S.1 S.2.1 d_Law_law_152 (by decide) ?_
    refine lv_iadd S.1 S.2.1 d_Law_law_153 ?_
    refine tpi (y := nI (i + 3)) (nI_add i 3) ?_
    refine s_ld (j := i + 3) S hX hbl hbA hS (by omega) hL d_Law_law_154 ?_
    refine kw_i (A := (fun q : Nat => kz K ≤ q)) (k_V (rest := [.int (-1)]) S (c_R_atom l hDm (xs (i + 1)) (xs (i + 2)) (xs (i + 3)) (by omega)) kc_R_atom ⟨q_746, q_747, q_748⟩ rfl rfl ⟨Nat.le_of_ble_eq_true rfl, Nat.le_of_ble_eq_true rfl⟩ hC hS hA hw ⟨11, _, _, _, rfl, hw.1⟩ rfl hl.1 rfl (Nat.le_of_ble_eq_true rfl) ⟨(by omega), (by omega)⟩ d_Law_law_155) hS (fun q h => by obtain ⟨j9, hj9, rfl⟩ := h; exact hDm.2 j9 hj9) (fun r H locs er hz hkp hS => ?_)
    have er1 := er
    obtain ⟨er0, hw⟩ := er1.2 (fun z => hc ⟨z.1, rel_iff.mpr ⟨z.2.1, z.2.2.1⟩, by obtain ⟨a, ta, ex2⟩ := tmR_of z.2.2.2.1; rw [ex2]; exact (tm_y ta).1, by obtain ⟨a, ta, ex2⟩ := tmR_of z.2.2.2.2; rw [ex2]; exact (tm_y ta).1⟩)
    have hcw := hcw.cl hD hkp hsep
    subst er0
    refine lv_icmp_eq (tgt := 761) S.1 S.2.1 d_Law_law_158 (by decide) (fun _ => ?_) (fun hx9 => absurd rfl hx9)
    exact W.widen (k := cells + 3) (n := slots + 48) (by omega) (by omega) (kk _ _ ⟨els, wat, md, n, cap, fE, kd, wh, fi, se, lo, hi, fr, rg, xr, dc, ad, sa, stt, G, N, T, Qp, J, X, t, eb, hcw, hD, hcap, hw, hDm, hsep, htie0⟩ hS)
set_option maxHeartbeats 4000000 in
set_option maxRecDepth 100000 in
theorem law_1 (l : Launch) (S : CallFix p m c code 4 s #[Value.ref b] WALL "MetricLogMonitorLaw") (hC : CX K s) (hkz : kz K = s.heap.size) (hX : va_X b L xs s s.heap) (hbl : b < s.heap.size) (hL : L ≤ 2560) (hiL : i + 5 ≤ L) (hcc : cells + 3 ≤ room_1.cells) (hss : slots + 48 ≤ room_1.slots) (hv : inv K mon lst lg tm pr ma H) (hS : va_S (fun q : Nat => kz K ≤ q) s.heap H locs) (hl : lv_has ls 4 [(3, .int (nI i)), (2, .ref (ma 0)), (1, .ref mon), (0, .ref b)])
    (kk : ∀ (H' : Heap) (locs' : List Loc), inv K mon lst lg tm pr ma H' → va_S (fun q : Nat => kz K ≤ q) s.heap H' locs' → W p l e room_1 s m #[Value.ref b] below meth c H' locs' (cells + 3) (slots + 48) Q (F0 m 761 ls [])) : W p l e room_1 s m #[Value.ref b] below meth c H locs cells slots Q (F0 m 163 ls []) := by
  have hbA : ¬ (fun q : Nat => kz K ≤ q) b := fun z => absurd (show kz K ≤ b from z) (by omega)
  have hA : ∀ q, (fun q : Nat => kz K ≤ q) q → kz K ≤ q := fun _ h => h
  have hzH : kz K ≤ H.size := by have := hS.1; omega
  obtain ⟨els, wat, md, n, cap, fE, kd, wh, fi, se, lo, hi, fr, rg, xr, dc, ad, sa, stt, G, N, T, Qp, J, X, t, eb, hcw, hD, hcap, hw, hDm, hsep, htie⟩ := hv
  have htie0 := htie
  obtain ⟨hrcJ, hdcN⟩ := htie.rcJ
  obtain ⟨h12, h24, hwt, hw0, hV, hT, hfr, hrg, hxr, her, hrc, htm, hJ7, hQP, hGJ, hst, hXs⟩ := htie
  have hdc24 : ∀ j, j < n → dc j ≤ 24 := fun j hj => Nat.le_trans (hdcN j hj) h24
  by_cases hx : xs (i + 1) = 0
  · by_cases hc : ¬ f_M_mayMake wat n = 0 ∧ ¬ f_M_isTerm (xs (i + 2)) = 0 ∧ ¬ f_M_isTerm (xs (i + 3)) = 0
    · obtain ⟨a, ta, ex2⟩ := tm_of hc.2.1
      obtain ⟨b2, tb2, ex3⟩ := tm_of hc.2.2
      have hyes := hc.1
      have hwz := may_w hyes
      have hn12 : n < 12 := hmay (by omega) hyes
      have hlt := lw_lt hcw hD hC hzH
      have hw0m := hw
      obtain ⟨H0, hH0⟩ : ∃ H0, H0 = H := ⟨_, rfl⟩
      refine lv_aload_n S.1 S.2.1 d_Law_law_163 rfl (lv_at hl 2 rfl) ?_
      refine lv_aload_n S.1 S.2.1 d_Law_law_164 rfl (lv_at hl 3 rfl) ?_
      refine lv_iload_n S.1 S.2.1 d_Law_law_165 rfl (lv_at hl 0 rfl) ?_
      refine lv_iconst (v := 1) S.1 S.2.1 d_Law_law_166 (by decide) ?_
      refine lv_iadd S.1 S.2.1 d_Law_law_167 ?_
      refine tpi (y := nI (i + 1)) (nI_add i 1) ?_
      refine s_ld (j := i + 1) S hX hbl hbA hS (by omega) hL d_Law_law_168 ?_
      refine lv_if_eq (tgt := 176) S.1 S.2.1 d_Law_law_169 (by decide) (fun _ => ?_) (fun hx9 => absurd hx hx9)
      refine lv_iconst (v := 0) S.1 S.2.1 d_Law_law_176 (by decide) ?_
      refine lv_aload_n S.1 S.2.1 d_Law_law_177 rfl (lv_at hl 3 rfl) ?_
      refine lv_iload_n S.1 S.2.1 d_Law_law_178 rfl (lv_at hl 0 rfl) ?_
      refine lv_iconst (v := 2) S.1 S.2.1 d_Law_law_179 (by decide) ?_
      refine lv_iadd S.1 S.2.1 d_Law_law_180 ?_
      refine tpi (y := nI (i + 2)) (nI_add i 2) ?_
      refine s_ld (j := i + 2) S hX hbl hbA hS (by omega) hL d_Law_law_181 ?_
      refine tpi (y := nI a) ex2 ?_
      refine lv_aload_n S.1 S.2.1 d_Law_law_182 rfl (lv_at hl 3 rfl) ?_
      refine lv_iload_n S.1 S.2.1 d_Law_law_183 rfl (lv_at hl 0 rfl) ?_
      refine lv_iconst (v := 3) S.1 S.2.1 d_Law_law_184 (by decide) ?_
      refine lv_iadd S.1 S.2.1 d_Law_law_185 ?_
      refine tpi (y := nI (i + 3)) (nI_add i 3) ?_
      refine s_ld (j := i + 3) S hX hbl hbA hS (by omega) hL d_Law_law_186 ?_
      refine tpi (y := nI b2) ex3 ?_
      refine kw_i (A := (fun q : Nat => kz K ≤ q)) (k_V (rest := []) S (c_M_compare_ye l (sz := H0.size) hD hV (by rw [hH0]; exact hlt) hyes (cap_case hcap hn12) a b2 (tm_y ta).1 (tm_y tb2).1) kc_M_compare ⟨q_247, q_248, q_249⟩ rfl rfl ⟨Nat.le_of_ble_eq_true rfl, Nat.le_of_ble_eq_true rfl⟩ hC hS hA ⟨by rw [hH0], hcw⟩ ⟨8, _, _, _, rfl, hcw.1⟩ rfl hl.1 rfl (Nat.le_of_ble_eq_true rfl) ⟨(by omega), (by omega)⟩ d_Law_law_187) hS (fun q h => h.elim (fun z => by rw [z]; exact hD.2.1 1 (by omega) (by omega)) (fun z => z.elim (fun z => by rw [z.2]; exact hD.2.2.1 z.1) (fun z => by rw [hH0] at z; exact Nat.le_trans hzH z))) (fun r H locs er hz hkp hS => ?_)
      obtain ⟨er0, els2, cap2, g9, hcw, hcp2, hel2⟩ := er
      have hw := hw.cl hkp (fun j9 hj9 z => z.elim (fun z => hsep _ (ac_fix hD (i := 1) (by omega) (by omega)) ⟨j9, hj9, z.symm⟩) (fun z => z.elim (fun z => hsep _ (ac_els hD z.1) ⟨j9, hj9, z.2.symm⟩) (fun z => by have := mA.lt (q := ma j9) ⟨j9, hj9, rfl⟩ hw; rw [hH0] at z; omega)))
      have hn1 := hcw.2.1.2.2.1
      have hD1 := dst_new (sz := H0.size) hD (by rw [hH0]; exact hlt) (by rw [hH0]; exact hzH) (hel2.imp id (fun z => by omega)) (by omega : 0 < cap2)
      have hsep1 : ∀ q, ac K mon lst els2 lg tm pr (va_up ad n H0.size) (va_up sa n (H0.size + 1)) (n + 1) q → ¬ mA ma q := fun q h z => (ac_new (hel2.imp (fun y => y.1) (fun y => by omega)) h).elim (fun y => hsep q y z) (fun y => by have := mA.lt z hw0m; rw [hH0] at y; omega)
      have hcap1 : capOk cap2 (n + 1) := by unfold capOk at hcap ⊢; omega
      subst er0
      refine lv_aload_n S.1 S.2.1 d_Law_law_190 rfl (lv_at hl 1 rfl) ?_
      refine lv_aload_n S.1 S.2.1 d_Law_law_191 rfl (lv_at hl 3 rfl) ?_
      refine lv_iload_n S.1 S.2.1 d_Law_law_192 rfl (lv_at hl 0 rfl) ?_
      refine lv_iconst (v := 1) S.1 S.2.1 d_Law_law_193 (by decide) ?_
      refine lv_iadd S.1 S.2.1 d_Law_law_194 ?_
      refine tpi (y := nI (i + 1)) (nI_add i 1) ?_
      refine s_ld (j := i + 1) S hX hbl hbA hS (by omega) hL d_Law_law_195 ?_
      refine lv_if_eq (tgt := 203) S.1 S.2.1 d_Law_law_196 (by decide) (fun _ => ?_) (fun hx9 => absurd hx hx9)
      refine lv_iconst (v := 0) S.1 S.2.1 d_Law_law_203 (by decide) ?_
      refine lv_aload_n S.1 S.2.1 d_Law_law_204 rfl (lv_at hl 3 rfl) ?_
      refine lv_iload_n S.1 S.2.1 d_Law_law_205 rfl (lv_at hl 0 rfl) ?_
      refine lv_iconst (v := 2) S.1 S.2.1 d_Law_law_206 (by decide) ?_
      refine lv_iadd S.1 S.2.1 d_Law_law_207 ?_
      refine tpi (y := nI (i + 2)) (nI_add i 2) ?_
      refine s_ld (j := i + 2) S hX hbl hbA hS (by omega) hL d_Law_law_208 ?_
      refine tpi (y := nI a) ex2 ?_
      refine lv_aload_n S.1 S.2.1 d_Law_law_209 rfl (lv_at hl 3 rfl) ?_
      refine lv_iload_n S.1 S.2.1 d_Law_law_210 rfl (lv_at hl 0 rfl) ?_
      refine lv_iconst (v := 3) S.1 S.2.1 d_Law_law_211 (by decide) ?_
      refine lv_iadd S.1 S.2.1 d_Law_law_212 ?_
      refine tpi (y := nI (i + 3)) (nI_add i 3) ?_
      refine s_ld (j := i + 3) S hX hbl hbA hS (by omega) hL d_Law_law_213 ?_
      refine tpi (y := nI b2) ex3 ?_
      refine kw_i (A := (fun q : Nat => kz K ≤ q)) (k_V (rest := [.int (nI n)]) S (c_R_compare l hDm 0 (nI a) (nI b2) (by omega)) kc_R_compare ⟨q_761, q_762, q_763⟩ rfl rfl ⟨Nat.le_of_ble_eq_true rfl, Nat.le_of_ble_eq_true rfl⟩ hC hS hA hw ⟨11, _, _, _, rfl, hw.1⟩ rfl hl.1 rfl (Nat.le_of_ble_eq_true rfl) ⟨(by omega), (by omega)⟩ d_Law_law_214) hS (fun q h => by obtain ⟨j9, hj9, rfl⟩ := h; exact hDm.2 j9 hj9) (fun r H locs er hz hkp hS => ?_)
      have er1 := er
      obtain ⟨er0, J1, hmk, hw⟩ := er1.1 ⟨hyes, (tm_y ta).2, (tm_y tb2).2⟩
      have hD := hD1
      have hsep := hsep1
      have hcap := hcap1
      have hcw := hcw.cl hD hkp hsep
      subst er0
      refine lv_icmp_eq (tgt := 761) S.1 S.2.1 d_Law_law_217 (by decide) (fun _ => ?_) (fun hx9 => absurd rfl hx9)
      exact W.widen (k := cells + 3) (n := slots + 48) (by omega) (by omega) (kk _ _ ⟨els2, wat, md + 1, n + 1, cap2, g9, (va_up kd n _), (va_up wh n _), (va_up fi n _), (va_up se n _), (va_up lo n _), (va_up hi n _), (va_up fr n _), (va_up rg n _), (va_up xr n _), (va_up dc n 0), (va_up ad n H0.size), (va_up sa n (H0.size + 1)), (va_up stt n (fun _ => 0)), G, N, T, Qp, J1, X, t, _, hcw, hD, hcap, hw, hDm, hsep, htie0.new (kd0 := 1) (wh0 := 0) (fi0 := a) (se0 := b2) hwz hn12 ⟨by omega, by omega, fun _ => ⟨ta, tb2⟩, fun h => absurd h (by omega), fun h => absurd h (by omega), fun h => absurd h (by omega)⟩ ((amg ta tb2).1.trans rfl) ((amg ta tb2).2.trans rfl) rfl hmk⟩ hS)
    · skip
      refine lv_aload_n S.1 S.2.1 d_Law_law_163 rfl (lv_at hl 2 rfl) ?_
      refine lv_aload_n S.1 S.2.1 d_Law_law_164 rfl (lv_at hl 3 rfl) ?_
      refine lv_iload_n S.1 S.2.1 d_Law_law_165 rfl (lv_at hl 0 rfl) ?_
      refine lv_iconst (v := 1) S.1 S.2.1 d_Law_law_166 (by decide) ?_
      refine lv_iadd S.1 S.2.1 d_Law_law_167 ?_
      refine tpi (y := nI (i + 1)) (nI_add i 1) ?_
      refine s_ld (j := i + 1) S hX hbl hbA hS (by omega) hL d_Law_law_168 ?_
      refine lv_if_eq (tgt := 176) S.1 S.2.1 d_Law_law_169 (by decide) (fun _ => ?_) (fun hx9 => absurd hx hx9)
      refine lv_iconst (v := 0) S.1 S.2.1 d_Law_law_176 (by decide) ?_
      refine lv_aload_n S.1 S.2.1 d_Law_law_177 rfl (lv_at hl 3 rfl) ?_
      refine lv_iload_n S.1 S.2.1 d_Law_law_178 rfl (lv_at hl 0 rfl) ?_
      refine lv_iconst (v := 2) S.1 S.2.1 d_Law_law_179 (by decide) ?_
      refine lv_iadd S.1 S.2.1 d_Law_law_180 ?_
      refine tpi (y := nI (i + 2)) (nI_add i 2) ?_
      refine s_ld (j := i + 2) S hX hbl hbA hS (by omega) hL d_Law_law_181 ?_
      refine lv_aload_n S.1 S.2.1 d_Law_law_182 rfl (lv_at hl 3 rfl) ?_
      refine lv_iload_n S.1 S.2.1 d_Law_law_183 rfl (lv_at hl 0 rfl) ?_
      refine lv_iconst (v := 3) S.1 S.2.1 d_Law_law_184 (by decide) ?_
      refine lv_iadd S.1 S.2.1 d_Law_law_185 ?_
      refine tpi (y := nI (i + 3)) (nI_add i 3) ?_
      refine s_ld (j := i + 3) S hX hbl hbA hS (by omega) hL d_Law_law_186 ?_
      refine kVi (rest := []) S (c_M_compare_n l 0 (xs (i + 2)) (xs (i + 3)) hc) kc_M_compare ⟨q_247, q_248, q_249⟩ rfl rfl ⟨Nat.le_of_ble_eq_true rfl, Nat.le_of_ble_eq_true rfl⟩ hC hS hA hcw ⟨8, _, _, _, rfl, hcw.1⟩ ⟨(by omega), (by omega)⟩ hl.1 rfl rfl (Nat.le_of_ble_eq_true rfl) d_Law_law_187 (fun r er => ?_)
      subst er
      refine lv_aload_n S.1 S.2.1 d_Law_law_190 rfl (lv_at hl 1 rfl) ?_
      refine lv_aload_n S.1 S.2.1 d_Law_law_191 rfl (lv_at hl 3 rfl) ?_
      refine lv_iload_n S.1 S.2.1 d_Law_law_192 rfl (lv_at hl 0 rfl) ?_
      refine lv_iconst (v := 1) S.1 S.2.1 d_Law_law_193 (by decide) ?_
      refine lv_iadd S.1 S.2.1 d_Law_law_194 ?_
      refine tpi (y := nI (i + 1)) (nI_add i 1) ?_
      refine s_ld (j := i + 1) S hX hbl hbA hS (by omega) hL d_Law_law_195 ?_
      refine lv_if_eq (tgt := 203) S.1 S.2.1 d_Law_law_196 (by decide) (fun _ => ?_) (fun hx9 => absurd hx hx9)
      refine lv_iconst (v := 0) S.1 S.2.1 d_Law_law_203 (by decide) ?_
      refine lv_aload_n S.1 S.2.1 d_Law_law_204 rfl (lv_at hl 3 rfl) ?_
      refine lv_iload_n S.1 S.2.1 d_Law_law_205 rfl (lv_at hl 0 rfl) ?_
      refine lv_iconst (v := 2) S.1 S.2.1 d_Law_law_206 (by decide) ?_
      refine lv_iadd S.1 S.2.1 d_Law_law_207 ?_
      refine tpi (y := nI (i + 2)) (nI_add i 2) ?_
      refine s_ld (j := i + 2) S hX hbl hbA hS (by omega) hL d_Law_law_208 ?_
      refine lv_aload_n S.1 S.2.1 d_Law_law_209 rfl (lv_at hl 3 rfl) ?_
      refine lv_iload_n S.1 S.2.1 d_Law_law_210 rfl (lv_at hl 0 rfl) ?_
      refine lv_iconst (v := 3) S.1 S.2.1 d_Law_law_211 (by decide) ?_
      refine lv_iadd S.1 S.2.1 d_Law_law_212 ?_
      refine tpi (y := nI (i + 3)) (nI_add i 3) ?_
      refine s_ld (j := i + 3) S hX hbl hbA hS (by omega) hL d_Law_law_213 ?_
      refine kw_i (A := (fun q : Nat => kz K ≤ q)) (k_V (rest := [.int (-1)]) S (c_R_compare l hDm 0 (xs (i + 2)) (xs (i + 3)) (by omega)) kc_R_compare ⟨q_761, q_762, q_763⟩ rfl rfl ⟨Nat.le_of_ble_eq_true rfl, Nat.le_of_ble_eq_true rfl⟩ hC hS hA hw ⟨11, _, _, _, rfl, hw.1⟩ rfl hl.1 rfl (Nat.le_of_ble_eq_true rfl) ⟨(by omega), (by omega)⟩ d_Law_law_214) hS (fun q h => by obtain ⟨j9, hj9, rfl⟩ := h; exact hDm.2 j9 hj9) (fun r H locs er hz hkp hS => ?_)
      have er1 := er
      obtain ⟨er0, hw⟩ := er1.2 (fun z => hc ⟨z.1, by obtain ⟨a, ta, ex2⟩ := tmR_of z.2.1; rw [ex2]; exact (tm_y ta).1, by obtain ⟨a, ta, ex2⟩ := tmR_of z.2.2; rw [ex2]; exact (tm_y ta).1⟩)
      have hcw := hcw.cl hD hkp hsep
      subst er0
      refine lv_icmp_eq (tgt := 761) S.1 S.2.1 d_Law_law_217 (by decide) (fun _ => ?_) (fun hx9 => absurd rfl hx9)
      exact W.widen (k := cells + 3) (n := slots + 48) (by omega) (by omega) (kk _ _ ⟨els, wat, md, n, cap, fE, kd, wh, fi, se, lo, hi, fr, rg, xr, dc, ad, sa, stt, G, N, T, Qp, J, X, t, eb, hcw, hD, hcap, hw, hDm, hsep, htie0⟩ hS)
  · by_cases hc : ¬ f_M_mayMake wat n = 0 ∧ ¬ f_M_isTerm (xs (i + 2)) = 0 ∧ ¬ f_M_isTerm (xs (i + 3)) = 0
    · obtain ⟨a, ta, ex2⟩ := tm_of hc.2.1
      obtain ⟨b2, tb2, ex3⟩ := tm_of hc.2.2
      have hyes := hc.1
      have hwz := may_w hyes
      have hn12 : n < 12 := hmay (by omega) hyes
      have hlt := lw_lt hcw hD hC hzH
      have hw0m := hw
      obtain ⟨H0, hH0⟩ : ∃ H0, H0 = H := ⟨_, rfl⟩
      refine lv_aload_n S.1 S.2.1 d_Law_law_163 rfl (lv_at hl 2 rfl) ?_
      refine lv_aload_n S.1 S.2.1 d_Law_law_164 rfl (lv_at hl 3 rfl) ?_
      refine lv_iload_n S.1 S.2.1 d_Law_law_165 rfl (lv_at hl 0 rfl) ?_
      refine lv_iconst (v := 1) S.1 S.2.1 d_Law_law_166 (by decide) ?_
      refine lv_iadd S.1 S.2.1 d_Law_law_167 ?_
      refine tpi (y := nI (i + 1)) (nI_add i 1) ?_
      refine s_ld (j := i + 1) S hX hbl hbA hS (by omega) hL d_Law_law_168 ?_
      refine lv_if_eq (tgt := 176) S.1 S.2.1 d_Law_law_169 (by decide) (fun hx9 => absurd hx9 hx) (fun _ => ?_)
      refine lv_iconst (v := 1) S.1 S.2.1 d_Law_law_172 (by decide) ?_
      refine lv_goto (tgt := 177) S.1 S.2.1 d_Law_law_173 (by decide) ?_
      refine lv_aload_n S.1 S.2.1 d_Law_law_177 rfl (lv_at hl 3 rfl) ?_
      refine lv_iload_n S.1 S.2.1 d_Law_law_178 rfl (lv_at hl 0 rfl) ?_
      refine lv_iconst (v := 2) S.1 S.2.1 d_Law_law_179 (by decide) ?_
      refine lv_iadd S.1 S.2.1 d_Law_law_180 ?_
      refine tpi (y := nI (i + 2)) (nI_add i 2) ?_
      refine s_ld (j := i + 2) S hX hbl hbA hS (by omega) hL d_Law_law_181 ?_
      refine tpi (y := nI a) ex2 ?_
      refine lv_aload_n S.1 S.2.1 d_Law_law_182 rfl (lv_at hl 3 rfl) ?_
      refine lv_iload_n S.1 S.2.1 d_Law_law_183 rfl (lv_at hl 0 rfl) ?_
      refine lv_iconst (v := 3) S.1 S.2.1 d_Law_law_184 (by decide) ?_
      refine lv_iadd S.1 S.2.1 d_Law_law_185 ?_
      refine tpi (y := nI (i + 3)) (nI_add i 3) ?_
      refine s_ld (j := i + 3) S hX hbl hbA hS (by omega) hL d_Law_law_186 ?_
      refine tpi (y := nI b2) ex3 ?_
      refine kw_i (A := (fun q : Nat => kz K ≤ q)) (k_V (rest := []) S (c_M_compare_yl l (sz := H0.size) hD hV (by rw [hH0]; exact hlt) hyes (cap_case hcap hn12) a b2 (tm_y ta).1 (tm_y tb2).1) kc_M_compare ⟨q_247, q_248, q_249⟩ rfl rfl ⟨Nat.le_of_ble_eq_true rfl, Nat.le_of_ble_eq_true rfl⟩ hC hS hA ⟨by rw [hH0], hcw⟩ ⟨8, _, _, _, rfl, hcw.1⟩ rfl hl.1 rfl (Nat.le_of_ble_eq_true rfl) ⟨(by omega), (by omega)⟩ d_Law_law_187) hS (fun q h => h.elim (fun z => by rw [z]; exact hD.2.1 1 (by omega) (by omega)) (fun z => z.elim (fun z => by rw [z.2]; exact hD.2.2.1 z.1) (fun z => by rw [hH0] at z; exact Nat.le_trans hzH z))) (fun r H locs er hz hkp hS => ?_)
      obtain ⟨er0, els2, cap2, g9, hcw, hcp2, hel2⟩ := er
      have hw := hw.cl hkp (fun j9 hj9 z => z.elim (fun z => hsep _ (ac_fix hD (i := 1) (by omega) (by omega)) ⟨j9, hj9, z.symm⟩) (fun z => z.elim (fun z => hsep _ (ac_els hD z.1) ⟨j9, hj9, z.2.symm⟩) (fun z => by have := mA.lt (q := ma j9) ⟨j9, hj9, rfl⟩ hw; rw [hH0] at z; omega)))
      have hn1 := hcw.2.1.2.2.1
      have hD1 := dst_new (sz := H0.size) hD (by rw [hH0]; exact hlt) (by rw [hH0]; exact hzH) (hel2.imp id (fun z => by omega)) (by omega : 0 < cap2)
      have hsep1 : ∀ q, ac K mon lst els2 lg tm pr (va_up ad n H0.size) (va_up sa n (H0.size + 1)) (n + 1) q → ¬ mA ma q := fun q h z => (ac_new (hel2.imp (fun y => y.1) (fun y => by omega)) h).elim (fun y => hsep q y z) (fun y => by have := mA.lt z hw0m; rw [hH0] at y; omega)
      have hcap1 : capOk cap2 (n + 1) := by unfold capOk at hcap ⊢; omega
      subst er0
      refine lv_aload_n S.1 S.2.1 d_Law_law_190 rfl (lv_at hl 1 rfl) ?_
      refine lv_aload_n S.1 S.2.1 d_Law_law_191 rfl (lv_at hl 3 rfl) ?_
      refine lv_iload_n S.1 S.2.1 d_Law_law_192 rfl (lv_at hl 0 rfl) ?_
      refine lv_iconst (v := 1) S.1 S.2.1 d_Law_law_193 (by decide) ?_
      refine lv_iadd S.1 S.2.1 d_Law_law_194 ?_
      refine tpi (y := nI (i + 1)) (nI_add i 1) ?_
      refine s_ld (j := i + 1) S hX hbl hbA hS (by omega) hL d_Law_law_195 ?_
      refine lv_if_eq (tgt := 203) S.1 S.2.1 d_Law_law_196 (by decide) (fun hx9 => absurd hx9 hx) (fun _ => ?_)
      refine lv_iconst (v := 1) S.1 S.2.1 d_Law_law_199 (by decide) ?_
      refine lv_goto (tgt := 204) S.1 S.2.1 d_Law_law_200 (by decide) ?_
      refine lv_aload_n S.1 S.2.1 d_Law_law_204 rfl (lv_at hl 3 rfl) ?_
      refine lv_iload_n S.1 S.2.1 d_Law_law_205 rfl (lv_at hl 0 rfl) ?_
      refine lv_iconst (v := 2) S.1 S.2.1 d_Law_law_206 (by decide) ?_
      refine lv_iadd S.1 S.2.1 d_Law_law_207 ?_
      refine tpi (y := nI (i + 2)) (nI_add i 2) ?_
      refine s_ld (j := i + 2) S hX hbl hbA hS (by omega) hL d_Law_law_208 ?_
      refine tpi (y := nI a) ex2 ?_
      refine lv_aload_n S.1 S.2.1 d_Law_law_209 rfl (lv_at hl 3 rfl) ?_
      refine lv_iload_n S.1 S.2.1 d_Law_law_210 rfl (lv_at hl 0 rfl) ?_
      refine lv_iconst (v := 3) S.1 S.2.1 d_Law_law_211 (by decide) ?_
      refine lv_iadd S.1 S.2.1 d_Law_law_212 ?_
      refine tpi (y := nI (i + 3)) (nI_add i 3) ?_
      refine s_ld (j := i + 3) S hX hbl hbA hS (by omega) hL d_Law_law_213 ?_
      refine tpi (y := nI b2) ex3 ?_
      refine kw_i (A := (fun q : Nat => kz K ≤ q)) (k_V (rest := [.int (nI n)]) S (c_R_compare l hDm 1 (nI a) (nI b2) (by omega)) kc_R_compare ⟨q_761, q_762, q_763⟩ rfl rfl ⟨Nat.le_of_ble_eq_true rfl, Nat.le_of_ble_eq_true rfl⟩ hC hS hA hw ⟨11, _, _, _, rfl, hw.1⟩ rfl hl.1 rfl (Nat.le_of_ble_eq_true rfl) ⟨(by omega), (by omega)⟩ d_Law_law_214) hS (fun q h => by obtain ⟨j9, hj9, rfl⟩ := h; exact hDm.2 j9 hj9) (fun r H locs er hz hkp hS => ?_)
      have er1 := er
      obtain ⟨er0, J1, hmk, hw⟩ := er1.1 ⟨hyes, (tm_y ta).2, (tm_y tb2).2⟩
      have hD := hD1
      have hsep := hsep1
      have hcap := hcap1
      have hcw := hcw.cl hD hkp hsep
      subst er0
      refine lv_icmp_eq (tgt := 761) S.1 S.2.1 d_Law_law_217 (by decide) (fun _ => ?_) (fun hx9 => absurd rfl hx9)
      exact W.widen (k := cells + 3) (n := slots + 48) (by omega) (by omega) (kk _ _ ⟨els2, wat, md + 1, n + 1, cap2, g9, (va_up kd n _), (va_up wh n _), (va_up fi n _), (va_up se n _), (va_up lo n _), (va_up hi n _), (va_up fr n _), (va_up rg n _), (va_up xr n _), (va_up dc n 0), (va_up ad n H0.size), (va_up sa n (H0.size + 1)), (va_up stt n (fun _ => 0)), G, N, T, Qp, J1, X, t, _, hcw, hD, hcap, hw, hDm, hsep, htie0.new (kd0 := 2) (wh0 := 0) (fi0 := a) (se0 := b2) hwz hn12 ⟨by omega, by omega, fun _ => ⟨ta, tb2⟩, fun h => absurd h (by omega), fun h => absurd h (by omega), fun h => absurd h (by omega)⟩ ((amg ta tb2).1.trans rfl) rfl rfl hmk⟩ hS)
    · skip
      refine lv_aload_n S.1 S.2.1 d_Law_law_163 rfl (lv_at hl 2 rfl) ?_
      refine lv_aload_n S.1 S.2.1 d_Law_law_164 rfl (lv_at hl 3 rfl) ?_
      refine lv_iload_n S.1 S.2.1 d_Law_law_165 rfl (lv_at hl 0 rfl) ?_
      refine lv_iconst (v := 1) S.1 S.2.1 d_Law_law_166 (by decide) ?_
      refine lv_iadd S.1 S.2.1 d_Law_law_167 ?_
      refine tpi (y := nI (i + 1)) (nI_add i 1) ?_
      refine s_ld (j := i + 1) S hX hbl hbA hS (by omega) hL d_Law_law_168 ?_
      refine lv_if_eq (tgt := 176) S.1 S.2.1 d_Law_law_169 (by decide) (fun hx9 => absurd hx9 hx) (fun _ => ?_)
      refine lv_iconst (v := 1) S.1 S.2.1 d_Law_law_172 (by decide) ?_
      refine lv_goto (tgt := 177) S.1 S.2.1 d_Law_law_173 (by decide) ?_
      refine lv_aload_n S.1 S.2.1 d_Law_law_177 rfl (lv_at hl 3 rfl) ?_
      refine lv_iload_n S.1 S.2.1 d_Law_law_178 rfl (lv_at hl 0 rfl) ?_
      refine lv_iconst (v := 2) S.1 S.2.1 d_Law_law_179 (by decide) ?_
      refine lv_iadd S.1 S.2.1 d_Law_law_180 ?_
      refine tpi (y := nI (i + 2)) (nI_add i 2) ?_
      refine s_ld (j := i + 2) S hX hbl hbA hS (by omega) hL d_Law_law_181 ?_
      refine lv_aload_n S.1 S.2.1 d_Law_law_182 rfl (lv_at hl 3 rfl) ?_
      refine lv_iload_n S.1 S.2.1 d_Law_law_183 rfl (lv_at hl 0 rfl) ?_
      refine lv_iconst (v := 3) S.1 S.2.1 d_Law_law_184 (by decide) ?_
      refine lv_iadd S.1 S.2.1 d_Law_law_185 ?_
      refine tpi (y := nI (i + 3)) (nI_add i 3) ?_
      refine s_ld (j := i + 3) S hX hbl hbA hS (by omega) hL d_Law_law_186 ?_
      refine kVi (rest := []) S (c_M_compare_n l 1 (xs (i + 2)) (xs (i + 3)) hc) kc_M_compare ⟨q_247, q_248, q_249⟩ rfl rfl ⟨Nat.le_of_ble_eq_true rfl, Nat.le_of_ble_eq_true rfl⟩ hC hS hA hcw ⟨8, _, _, _, rfl, hcw.1⟩ ⟨(by omega), (by omega)⟩ hl.1 rfl rfl (Nat.le_of_ble_eq_true rfl) d_Law_law_187 (fun r er => ?_)
      subst er
      refine lv_aload_n S.1 S.2.1 d_Law_law_190 rfl (lv_at hl 1 rfl) ?_
      refine lv_aload_n S.1 S.2.1 d_Law_law_191 rfl (lv_at hl 3 rfl) ?_
      refine lv_iload_n S.1 S.2.1 d_Law_law_192 rfl (lv_at hl 0 rfl) ?_
      refine lv_iconst (v := 1) S.1 S.2.1 d_Law_law_193 (by decide) ?_
      refine lv_iadd S.1 S.2.1 d_Law_law_194 ?_
      refine tpi (y := nI (i + 1)) (nI_add i 1) ?_
      refine s_ld (j := i + 1) S hX hbl hbA hS (by omega) hL d_Law_law_195 ?_
      refine lv_if_eq (tgt := 203) S.1 S.2.1 d_Law_law_196 (by decide) (fun hx9 => absurd hx9 hx) (fun _ => ?_)
      refine lv_iconst (v := 1) S.1 S.2.1 d_Law_law_199 (by decide) ?_
      refine lv_goto (tgt := 204) S.1 S.2.1 d_Law_law_200 (by decide) ?_
      refine lv_aload_n S.1 S.2.1 d_Law_law_204 rfl (lv_at hl 3 rfl) ?_
      refine lv_iload_n S.1 S.2.1 d_Law_law_205 rfl (lv_at hl 0 rfl) ?_
      refine lv_iconst (v := 2) S.1 S.2.1 d_Law_law_206 (by decide) ?_
      refine lv_iadd S.1 S.2.1 d_Law_law_207 ?_
      refine tpi (y := nI (i + 2)) (nI_add i 2) ?_
      refine s_ld (j := i + 2) S hX hbl hbA hS (by omega) hL d_Law_law_208 ?_
      refine lv_aload_n S.1 S.2.1 d_Law_law_209 rfl (lv_at hl 3 rfl) ?_
      refine lv_iload_n S.1 S.2.1 d_Law_law_210 rfl (lv_at hl 0 rfl) ?_
      refine lv_iconst (v := 3) S.1 S.2.1 d_Law_law_211 (by decide) ?_
      refine lv_iadd S.1 S.2.1 d_Law_law_212 ?_
      refine tpi (y := nI (i + 3)) (nI_add i 3) ?_
      refine s_ld (j := i + 3) S hX hbl hbA hS (by omega) hL d_Law_law_213 ?_
      refine kw_i (A := (fun q : Nat => kz K ≤ q)) (k_V (rest := [.int (-1)]) S (c_R_compare l hDm 1 (xs (i + 2)) (xs (i + 3)) (by omega)) kc_R_compare ⟨q_761, q_762, q_763⟩ rfl rfl ⟨Nat.le_of_ble_eq_true rfl, Nat.le_of_ble_eq_true rfl⟩ hC hS hA hw ⟨11, _, _, _, rfl, hw.1⟩ rfl hl.1 rfl (Nat.le_of_ble_eq_true rfl) ⟨(by omega), (by omega)⟩ d_Law_law_214) hS (fun q h => by obtain ⟨j9, hj9, rfl⟩ := h; exact hDm.2 j9 hj9) (fun r H locs er hz hkp hS => ?_)
      have er1 := er
      obtain ⟨er0, hw⟩ := er1.2 (fun z => hc ⟨z.1, by obtain ⟨a, ta, ex2⟩ := tmR_of z.2.1; rw [ex2]; exact (tm_y ta).1, by obtain ⟨a, ta, ex2⟩ := tmR_of z.2.2; rw [ex2]; exact (tm_y ta).1⟩)
      have hcw := hcw.cl hD hkp hsep
      subst er0
      refine lv_icmp_eq (tgt := 761) S.1 S.2.1 d_Law_law_217 (by decide) (fun _ => ?_) (fun hx9 => absurd rfl hx9)
      exact W.widen (k := cells + 3) (n := slots + 48) (by omega) (by omega) (kk _ _ ⟨els, wat, md, n, cap, fE, kd, wh, fi, se, lo, hi, fr, rg, xr, dc, ad, sa, stt, G, N, T, Qp, J, X, t, eb, hcw, hD, hcap, hw, hDm, hsep, htie0⟩ hS)
set_option maxHeartbeats 4000000 in
set_option maxRecDepth 100000 in
theorem law_2 (l : Launch) (S : CallFix p m c code 4 s #[Value.ref b] WALL "MetricLogMonitorLaw") (hC : CX K s) (hkz : kz K = s.heap.size) (hX : va_X b L xs s s.heap) (hbl : b < s.heap.size) (hL : L ≤ 2560) (hiL : i + 5 ≤ L) (hcc : cells + 3 ≤ room_1.cells) (hss : slots + 48 ≤ room_1.slots) (hv : inv K mon lst lg tm pr ma H) (hS : va_S (fun q : Nat => kz K ≤ q) s.heap H locs) (hl : lv_has ls 4 [(3, .int (nI i)), (2, .ref (ma 0)), (1, .ref mon), (0, .ref b)])
    (kk : ∀ (H' : Heap) (locs' : List Loc), inv K mon lst lg tm pr ma H' → va_S (fun q : Nat => kz K ≤ q) s.heap H' locs' → W p l e room_1 s m #[Value.ref b] below meth c H' locs' (cells + 3) (slots + 48) Q (F0 m 761 ls [])) : W p l e room_1 s m #[Value.ref b] below meth c H locs cells slots Q (F0 m 222 ls []) := by
  have hbA : ¬ (fun q : Nat => kz K ≤ q) b := fun z => absurd (show kz K ≤ b from z) (by omega)
  have hA : ∀ q, (fun q : Nat => kz K ≤ q) q → kz K ≤ q := fun _ h => h
  have hzH : kz K ≤ H.size := by have := hS.1; omega
  obtain ⟨els, wat, md, n, cap, fE, kd, wh, fi, se, lo, hi, fr, rg, xr, dc, ad, sa, stt, G, N, T, Qp, J, X, t, eb, hcw, hD, hcap, hw, hDm, hsep, htie⟩ := hv
  have htie0 := htie
  obtain ⟨hrcJ, hdcN⟩ := htie.rcJ
  obtain ⟨h12, h24, hwt, hw0, hV, hT, hfr, hrg, hxr, her, hrc, htm, hJ7, hQP, hGJ, hst, hXs⟩ := htie
  have hdc24 : ∀ j, j < n → dc j ≤ 24 := fun j hj => Nat.le_trans (hdcN j hj) h24
  by_cases hc : ¬ f_M_mayMake wat n = 0 ∧ (∃ k, k < n ∧ (xs (i + 1)) = nI k)
  · obtain ⟨k, hkn, ex1⟩ := hc.2
    have hyes := hc.1
    have hwz := may_w hyes
    have hn12 : n < 12 := hmay (by omega) hyes
    have hlt := lw_lt hcw hD hC hzH
    have hw0m := hw
    obtain ⟨H0, hH0⟩ : ∃ H0, H0 = H := ⟨_, rfl⟩
    refine lv_aload_n S.1 S.2.1 d_Law_law_222 rfl (lv_at hl 2 rfl) ?_
    refine lv_aload_n S.1 S.2.1 d_Law_law_223 rfl (lv_at hl 3 rfl) ?_
    refine lv_iload_n S.1 S.2.1 d_Law_law_224 rfl (lv_at hl 0 rfl) ?_
    refine lv_iconst (v := 1) S.1 S.2.1 d_Law_law_225 (by decide) ?_
    refine lv_iadd S.1 S.2.1 d_Law_law_226 ?_
    refine tpi (y := nI (i + 1)) (nI_add i 1) ?_
    refine s_ld (j := i + 1) S hX hbl hbA hS (by omega) hL d_Law_law_227 ?_
    refine tpi (y := nI k) ex1 ?_
    refine kw_i (A := (fun q : Nat => kz K ≤ q)) (k_V (rest := []) S (c_M_not_y l (sz := H0.size) hD hV (by rw [hH0]; exact hlt) hyes (cap_case hcap hn12) hkn (fun j9 hj9 => by rw [hxr j9 hj9]; exact bI_z _)) kc_M_not ⟨q_277, q_278, q_279⟩ rfl rfl ⟨Nat.le_of_ble_eq_true rfl, Nat.le_of_ble_eq_true rfl⟩ hC hS hA ⟨by rw [hH0], hcw⟩ ⟨8, _, _, _, rfl, hcw.1⟩ rfl hl.1 rfl (Nat.le_of_ble_eq_true rfl) ⟨(by omega), (by omega)⟩ d_Law_law_228) hS (fun q h => h.elim (fun z => by rw [z]; exact hD.2.1 1 (by omega) (by omega)) (fun z => z.elim (fun z => by rw [z.2]; exact hD.2.2.1 z.1) (fun z => by rw [hH0] at z; exact Nat.le_trans hzH z))) (fun r H locs er hz hkp hS => ?_)
    obtain ⟨er0, els2, cap2, g9, hcw, hcp2, hel2⟩ := er
    have hw := hw.cl hkp (fun j9 hj9 z => z.elim (fun z => hsep _ (ac_fix hD (i := 1) (by omega) (by omega)) ⟨j9, hj9, z.symm⟩) (fun z => z.elim (fun z => hsep _ (ac_els hD z.1) ⟨j9, hj9, z.2.symm⟩) (fun z => by have := mA.lt (q := ma j9) ⟨j9, hj9, rfl⟩ hw; rw [hH0] at z; omega)))
    have hn1 := hcw.2.1.2.2.1
    have hD1 := dst_new (sz := H0.size) hD (by rw [hH0]; exact hlt) (by rw [hH0]; exact hzH) (hel2.imp id (fun z => by omega)) (by omega : 0 < cap2)
    have hsep1 : ∀ q, ac K mon lst els2 lg tm pr (va_up ad n H0.size) (va_up sa n (H0.size + 1)) (n + 1) q → ¬ mA ma q := fun q h z => (ac_new (hel2.imp (fun y => y.1) (fun y => by omega)) h).elim (fun y => hsep q y z) (fun y => by have := mA.lt z hw0m; rw [hH0] at y; omega)
    have hcap1 : capOk cap2 (n + 1) := by unfold capOk at hcap ⊢; omega
    subst er0
    refine lv_aload_n S.1 S.2.1 d_Law_law_231 rfl (lv_at hl 1 rfl) ?_
    refine lv_aload_n S.1 S.2.1 d_Law_law_232 rfl (lv_at hl 3 rfl) ?_
    refine lv_iload_n S.1 S.2.1 d_Law_law_233 rfl (lv_at hl 0 rfl) ?_
    refine lv_iconst (v := 1) S.1 S.2.1 d_Law_law_234 (by decide) ?_
    refine lv_iadd S.1 S.2.1 d_Law_law_235 ?_
    refine tpi (y := nI (i + 1)) (nI_add i 1) ?_
    refine s_ld (j := i + 1) S hX hbl hbA hS (by omega) hL d_Law_law_236 ?_
    refine tpi (y := nI k) ex1 ?_
    refine kw_i (A := (fun q : Nat => kz K ≤ q)) (k_V (rest := [.int (nI n)]) S (c_R_not l hDm (nI k) (by omega)) kc_R_not ⟨q_765, q_766, q_767⟩ rfl rfl ⟨Nat.le_of_ble_eq_true rfl, Nat.le_of_ble_eq_true rfl⟩ hC hS hA hw ⟨11, _, _, _, rfl, hw.1⟩ rfl hl.1 rfl (Nat.le_of_ble_eq_true rfl) ⟨(by omega), (by omega)⟩ d_Law_law_237) hS (fun q h => by obtain ⟨j9, hj9, rfl⟩ := h; exact hDm.2 j9 hj9) (fun r H locs er hz hkp hS => ?_)
    have er1 := er
    obtain ⟨er0, J1, hmk, hw⟩ := er1.1 ⟨hyes, isF_y (by omega) hkn⟩
    have hD := hD1
    have hsep := hsep1
    have hcap := hcap1
    have hcw := hcw.cl hD hkp hsep
    subst er0
    refine lv_icmp_eq (tgt := 761) S.1 S.2.1 d_Law_law_240 (by decide) (fun _ => ?_) (fun hx9 => absurd rfl hx9)
    exact W.widen (k := cells + 3) (n := slots + 48) (by omega) (by omega) (kk _ _ ⟨els2, wat, md + 1, n + 1, cap2, g9, (va_up kd n _), (va_up wh n _), (va_up fi n _), (va_up se n _), (va_up lo n _), (va_up hi n _), (va_up fr n _), (va_up rg n _), (va_up xr n _), (va_up dc n 0), (va_up ad n H0.size), (va_up sa n (H0.size + 1)), (va_up stt n (fun _ => 0)), G, N, T, Qp, J1, X, t, _, hcw, hD, hcap, hw, hDm, hsep, htie0.new (kd0 := 3) (wh0 := 0) (fi0 := k) (se0 := k) hwz hn12 ⟨by omega, by omega, fun h => absurd h (by omega), fun _ => ⟨hkn, hkn⟩, fun _ => rfl, fun h => absurd h (by omega)⟩ (b_orx _).symm rfl (by rw [hxr k hkn]; exact congrArg bI (Bool.and_self _).symm) hmk⟩ hS)
  · skip
    refine lv_aload_n S.1 S.2.1 d_Law_law_222 rfl (lv_at hl 2 rfl) ?_
    refine lv_aload_n S.1 S.2.1 d_Law_law_223 rfl (lv_at hl 3 rfl) ?_
    refine lv_iload_n S.1 S.2.1 d_Law_law_224 rfl (lv_at hl 0 rfl) ?_
    refine lv_iconst (v := 1) S.1 S.2.1 d_Law_law_225 (by decide) ?_
    refine lv_iadd S.1 S.2.1 d_Law_law_226 ?_
    refine tpi (y := nI (i + 1)) (nI_add i 1) ?_
    refine s_ld (j := i + 1) S hX hbl hbA hS (by omega) hL d_Law_law_227 ?_
    refine kVi (rest := []) S (c_M_not_n l (xs (i + 1)) hc) kc_M_not ⟨q_277, q_278, q_279⟩ rfl rfl ⟨Nat.le_of_ble_eq_true rfl, Nat.le_of_ble_eq_true rfl⟩ hC hS hA hcw ⟨8, _, _, _, rfl, hcw.1⟩ ⟨(by omega), (by omega)⟩ hl.1 rfl rfl (Nat.le_of_ble_eq_true rfl) d_Law_law_228 (fun r er => ?_)
    subst er
    refine lv_aload_n S.1 S.2.1 d_Law_law_231 rfl (lv_at hl 1 rfl) ?_
    refine lv_aload_n S.1 S.2.1 d_Law_law_232 rfl (lv_at hl 3 rfl) ?_
    refine lv_iload_n S.1 S.2.1 d_Law_law_233 rfl (lv_at hl 0 rfl) ?_
    refine lv_iconst (v := 1) S.1 S.2.1 d_Law_law_234 (by decide) ?_
    refine lv_iadd S.1 S.2.1 d_Law_law_235 ?_
    refine tpi (y := nI (i + 1)) (nI_add i 1) ?_
    refine s_ld (j := i + 1) S hX hbl hbA hS (by omega) hL d_Law_law_236 ?_
    refine kw_i (A := (fun q : Nat => kz K ≤ q)) (k_V (rest := [.int (-1)]) S (c_R_not l hDm (xs (i + 1)) (by omega)) kc_R_not ⟨q_765, q_766, q_767⟩ rfl rfl ⟨Nat.le_of_ble_eq_true rfl, Nat.le_of_ble_eq_true rfl⟩ hC hS hA hw ⟨11, _, _, _, rfl, hw.1⟩ rfl hl.1 rfl (Nat.le_of_ble_eq_true rfl) ⟨(by omega), (by omega)⟩ d_Law_law_237) hS (fun q h => by obtain ⟨j9, hj9, rfl⟩ := h; exact hDm.2 j9 hj9) (fun r H locs er hz hkp hS => ?_)
    have er1 := er
    obtain ⟨er0, hw⟩ := er1.2 (fun z => hc ⟨z.1, (frm_iff (by omega : n < 2147483648)).mpr z.2⟩)
    have hcw := hcw.cl hD hkp hsep
    subst er0
    refine lv_icmp_eq (tgt := 761) S.1 S.2.1 d_Law_law_240 (by decide) (fun _ => ?_) (fun hx9 => absurd rfl hx9)
    exact W.widen (k := cells + 3) (n := slots + 48) (by omega) (by omega) (kk _ _ ⟨els, wat, md, n, cap, fE, kd, wh, fi, se, lo, hi, fr, rg, xr, dc, ad, sa, stt, G, N, T, Qp, J, X, t, eb, hcw, hD, hcap, hw, hDm, hsep, htie0⟩ hS)
set_option maxHeartbeats 4000000 in
set_option maxRecDepth 100000 in
theorem law_3 (l : Launch) (S : CallFix p m c code 4 s #[Value.ref b] WALL "MetricLogMonitorLaw") (hC : CX K s) (hkz : kz K = s.heap.size) (hX : va_X b L xs s s.heap) (hbl : b < s.heap.size) (hL : L ≤ 2560) (hiL : i + 5 ≤ L) (hcc : cells + 3 ≤ room_1.cells) (hss : slots + 48 ≤ room_1.slots) (hv : inv K mon lst lg tm pr ma H) (hS : va_S (fun q : Nat => kz K ≤ q) s.heap H locs) (hl : lv_has ls 4 [(3, .int (nI i)), (2, .ref (ma 0)), (1, .ref mon), (0, .ref b)])
    (kk : ∀ (H' : Heap) (locs' : List Loc), inv K mon lst lg tm pr ma H' → va_S (fun q : Nat => kz K ≤ q) s.heap H' locs' → W p l e room_1 s m #[Value.ref b] below meth c H' locs' (cells + 3) (slots + 48) Q (F0 m 761 ls [])) : W p l e room_1 s m #[Value.ref b] below meth c H locs cells slots Q (F0 m 245 ls []) := by
  have hbA : ¬ (fun q : Nat => kz K ≤ q) b := fun z => absurd (show kz K ≤ b from z) (by omega)
  have hA : ∀ q, (fun q : Nat => kz K ≤ q) q → kz K ≤ q := fun _ h => h
  have hzH : kz K ≤ H.size := by have := hS.1; omega
  obtain ⟨els, wat, md, n, cap, fE, kd, wh, fi, se, lo, hi, fr, rg, xr, dc, ad, sa, stt, G, N, T, Qp, J, X, t, eb, hcw, hD, hcap, hw, hDm, hsep, htie⟩ := hv
  have htie0 := htie
  obtain ⟨hrcJ, hdcN⟩ := htie.rcJ
  obtain ⟨h12, h24, hwt, hw0, hV, hT, hfr, hrg, hxr, her, hrc, htm, hJ7, hQP, hGJ, hst, hXs⟩ := htie
  have hdc24 : ∀ j, j < n → dc j ≤ 24 := fun j hj => Nat.le_trans (hdcN j hj) h24
  by_cases hx : xs (i + 1) = 0
  · by_cases hc : ¬ f_M_mayMake wat n = 0 ∧ (∃ k, k < n ∧ (xs (i + 2)) = nI k) ∧ (∃ k, k < n ∧ (xs (i + 3)) = nI k)
    · obtain ⟨k, hkn, ex2⟩ := hc.2.1
      obtain ⟨k2, hk2n, ex3⟩ := hc.2.2
      have hyes := hc.1
      have hwz := may_w hyes
      have hn12 : n < 12 := hmay (by omega) hyes
      have hlt := lw_lt hcw hD hC hzH
      have hw0m := hw
      obtain ⟨H0, hH0⟩ : ∃ H0, H0 = H := ⟨_, rfl⟩
      refine lv_aload_n S.1 S.2.1 d_Law_law_245 rfl (lv_at hl 2 rfl) ?_
      refine lv_aload_n S.1 S.2.1 d_Law_law_246 rfl (lv_at hl 3 rfl) ?_
      refine lv_iload_n S.1 S.2.1 d_Law_law_247 rfl (lv_at hl 0 rfl) ?_
      refine lv_iconst (v := 1) S.1 S.2.1 d_Law_law_248 (by decide) ?_
      refine lv_iadd S.1 S.2.1 d_Law_law_249 ?_
      refine tpi (y := nI (i + 1)) (nI_add i 1) ?_
      refine s_ld (j := i + 1) S hX hbl hbA hS (by omega) hL d_Law_law_250 ?_
      refine lv_if_eq (tgt := 258) S.1 S.2.1 d_Law_law_251 (by decide) (fun _ => ?_) (fun hx9 => absurd hx hx9)
      refine lv_iconst (v := 0) S.1 S.2.1 d_Law_law_258 (by decide) ?_
      refine lv_aload_n S.1 S.2.1 d_Law_law_259 rfl (lv_at hl 3 rfl) ?_
      refine lv_iload_n S.1 S.2.1 d_Law_law_260 rfl (lv_at hl 0 rfl) ?_
      refine lv_iconst (v := 2) S.1 S.2.1 d_Law_law_261 (by decide) ?_
      refine lv_iadd S.1 S.2.1 d_Law_law_262 ?_
      refine tpi (y := nI (i + 2)) (nI_add i 2) ?_
      refine s_ld (j := i + 2) S hX hbl hbA hS (by omega) hL d_Law_law_263 ?_
      refine tpi (y := nI k) ex2 ?_
      refine lv_aload_n S.1 S.2.1 d_Law_law_264 rfl (lv_at hl 3 rfl) ?_
      refine lv_iload_n S.1 S.2.1 d_Law_law_265 rfl (lv_at hl 0 rfl) ?_
      refine lv_iconst (v := 3) S.1 S.2.1 d_Law_law_266 (by decide) ?_
      refine lv_iadd S.1 S.2.1 d_Law_law_267 ?_
      refine tpi (y := nI (i + 3)) (nI_add i 3) ?_
      refine s_ld (j := i + 3) S hX hbl hbA hS (by omega) hL d_Law_law_268 ?_
      refine tpi (y := nI k2) ex3 ?_
      refine kw_i (A := (fun q : Nat => kz K ≤ q)) (k_V (rest := []) S (c_M_join_yo l (sz := H0.size) hD hV (by rw [hH0]; exact hlt) hyes (cap_case hcap hn12) hkn hk2n) kc_M_join ⟨q_315, q_316, q_317⟩ rfl rfl ⟨Nat.le_of_ble_eq_true rfl, Nat.le_of_ble_eq_true rfl⟩ hC hS hA ⟨by rw [hH0], hcw⟩ ⟨8, _, _, _, rfl, hcw.1⟩ rfl hl.1 rfl (Nat.le_of_ble_eq_true rfl) ⟨(by omega), (by omega)⟩ d_Law_law_269) hS (fun q h => h.elim (fun z => by rw [z]; exact hD.2.1 1 (by omega) (by omega)) (fun z => z.elim (fun z => by rw [z.2]; exact hD.2.2.1 z.1) (fun z => by rw [hH0] at z; exact Nat.le_trans hzH z))) (fun r H locs er hz hkp hS => ?_)
      obtain ⟨er0, els2, cap2, g9, hcw, hcp2, hel2⟩ := er
      have hw := hw.cl hkp (fun j9 hj9 z => z.elim (fun z => hsep _ (ac_fix hD (i := 1) (by omega) (by omega)) ⟨j9, hj9, z.symm⟩) (fun z => z.elim (fun z => hsep _ (ac_els hD z.1) ⟨j9, hj9, z.2.symm⟩) (fun z => by have := mA.lt (q := ma j9) ⟨j9, hj9, rfl⟩ hw; rw [hH0] at z; omega)))
      have hn1 := hcw.2.1.2.2.1
      have hD1 := dst_new (sz := H0.size) hD (by rw [hH0]; exact hlt) (by rw [hH0]; exact hzH) (hel2.imp id (fun z => by omega)) (by omega : 0 < cap2)
      have hsep1 : ∀ q, ac K mon lst els2 lg tm pr (va_up ad n H0.size) (va_up sa n (H0.size + 1)) (n + 1) q → ¬ mA ma q := fun q h z => (ac_new (hel2.imp (fun y => y.1) (fun y => by omega)) h).elim (fun y => hsep q y z) (fun y => by have := mA.lt z hw0m; rw [hH0] at y; omega)
      have hcap1 : capOk cap2 (n + 1) := by unfold capOk at hcap ⊢; omega
      subst er0
      refine lv_aload_n S.1 S.2.1 d_Law_law_272 rfl (lv_at hl 1 rfl) ?_
      refine lv_aload_n S.1 S.2.1 d_Law_law_273 rfl (lv_at hl 3 rfl) ?_
      refine lv_iload_n S.1 S.2.1 d_Law_law_274 rfl (lv_at hl 0 rfl) ?_
      refine lv_iconst (v := 1) S.1 S.2.1 d_Law_law_275 (by decide) ?_
      refine lv_iadd S.1 S.2.1 d_Law_law_276 ?_
      refine tpi (y := nI (i + 1)) (nI_add i 1) ?_
      refine s_ld (j := i + 1) S hX hbl hbA hS (by omega) hL d_Law_law_277 ?_
      refine lv_if_eq (tgt := 285) S.1 S.2.1 d_Law_law_278 (by decide) (fun _ => ?_) (fun hx9 => absurd hx hx9)
      refine lv_iconst (v := 0) S.1 S.2.1 d_Law_law_285 (by decide) ?_
      refine lv_aload_n S.1 S.2.1 d_Law_law_286 rfl (lv_at hl 3 rfl) ?_
      refine lv_iload_n S.1 S.2.1 d_Law_law_287 rfl (lv_at hl 0 rfl) ?_
      refine lv_iconst (v := 2) S.1 S.2.1 d_Law_law_288 (by decide) ?_
      refine lv_iadd S.1 S.2.1 d_Law_law_289 ?_
      refine tpi (y := nI (i + 2)) (nI_add i 2) ?_
      refine s_ld (j := i + 2) S hX hbl hbA hS (by omega) hL d_Law_law_290 ?_
      refine tpi (y := nI k) ex2 ?_
      refine lv_aload_n S.1 S.2.1 d_Law_law_291 rfl (lv_at hl 3 rfl) ?_
      refine lv_iload_n S.1 S.2.1 d_Law_law_292 rfl (lv_at hl 0 rfl) ?_
      refine lv_iconst (v := 3) S.1 S.2.1 d_Law_law_293 (by decide) ?_
      refine lv_iadd S.1 S.2.1 d_Law_law_294 ?_
      refine tpi (y := nI (i + 3)) (nI_add i 3) ?_
      refine s_ld (j := i + 3) S hX hbl hbA hS (by omega) hL d_Law_law_295 ?_
      refine tpi (y := nI k2) ex3 ?_
      refine kw_i (A := (fun q : Nat => kz K ≤ q)) (k_V (rest := [.int (nI n)]) S (c_R_join l hDm 0 (nI k) (nI k2) (by omega)) kc_R_join ⟨q_773, q_774, q_775⟩ rfl rfl ⟨Nat.le_of_ble_eq_true rfl, Nat.le_of_ble_eq_true rfl⟩ hC hS hA hw ⟨11, _, _, _, rfl, hw.1⟩ rfl hl.1 rfl (Nat.le_of_ble_eq_true rfl) ⟨(by omega), (by omega)⟩ d_Law_law_296) hS (fun q h => by obtain ⟨j9, hj9, rfl⟩ := h; exact hDm.2 j9 hj9) (fun r H locs er hz hkp hS => ?_)
      have er1 := er
      obtain ⟨er0, J1, hmk, hw⟩ := er1.1 ⟨hyes, isF_y (by omega) hkn, isF_y (by omega) hk2n⟩
      have hD := hD1
      have hsep := hsep1
      have hcap := hcap1
      have hcw := hcw.cl hD hkp hsep
      subst er0
      refine lv_icmp_eq (tgt := 761) S.1 S.2.1 d_Law_law_299 (by decide) (fun _ => ?_) (fun hx9 => absurd rfl hx9)
      exact W.widen (k := cells + 3) (n := slots + 48) (by omega) (by omega) (kk _ _ ⟨els2, wat, md + 1, n + 1, cap2, g9, (va_up kd n _), (va_up wh n _), (va_up fi n _), (va_up se n _), (va_up lo n _), (va_up hi n _), (va_up fr n _), (va_up rg n _), (va_up xr n _), (va_up dc n 0), (va_up ad n H0.size), (va_up sa n (H0.size + 1)), (va_up stt n (fun _ => 0)), G, N, T, Qp, J1, X, t, _, hcw, hD, hcap, hw, hDm, hsep, htie0.new (kd0 := 5) (wh0 := 0) (fi0 := k) (se0 := k2) hwz hn12 ⟨by omega, by omega, fun h => absurd h (by omega), fun _ => ⟨hkn, hk2n⟩, fun h => absurd h (by omega), fun h => absurd h (by omega)⟩ rfl rfl (xr2 (hxr k hkn) (hxr k2 hk2n)) hmk⟩ hS)
    · skip
      refine lv_aload_n S.1 S.2.1 d_Law_law_245 rfl (lv_at hl 2 rfl) ?_
      refine lv_aload_n S.1 S.2.1 d_Law_law_246 rfl (lv_at hl 3 rfl) ?_
      refine lv_iload_n S.1 S.2.1 d_Law_law_247 rfl (lv_at hl 0 rfl) ?_
      refine lv_iconst (v := 1) S.1 S.2.1 d_Law_law_248 (by decide) ?_
      refine lv_iadd S.1 S.2.1 d_Law_law_249 ?_
      refine tpi (y := nI (i + 1)) (nI_add i 1) ?_
      refine s_ld (j := i + 1) S hX hbl hbA hS (by omega) hL d_Law_law_250 ?_
      refine lv_if_eq (tgt := 258) S.1 S.2.1 d_Law_law_251 (by decide) (fun _ => ?_) (fun hx9 => absurd hx hx9)
      refine lv_iconst (v := 0) S.1 S.2.1 d_Law_law_258 (by decide) ?_
      refine lv_aload_n S.1 S.2.1 d_Law_law_259 rfl (lv_at hl 3 rfl) ?_
      refine lv_iload_n S.1 S.2.1 d_Law_law_260 rfl (lv_at hl 0 rfl) ?_
      refine lv_iconst (v := 2) S.1 S.2.1 d_Law_law_261 (by decide) ?_
      refine lv_iadd S.1 S.2.1 d_Law_law_262 ?_
      refine tpi (y := nI (i + 2)) (nI_add i 2) ?_
      refine s_ld (j := i + 2) S hX hbl hbA hS (by omega) hL d_Law_law_263 ?_
      refine lv_aload_n S.1 S.2.1 d_Law_law_264 rfl (lv_at hl 3 rfl) ?_
      refine lv_iload_n S.1 S.2.1 d_Law_law_265 rfl (lv_at hl 0 rfl) ?_
      refine lv_iconst (v := 3) S.1 S.2.1 d_Law_law_266 (by decide) ?_
      refine lv_iadd S.1 S.2.1 d_Law_law_267 ?_
      refine tpi (y := nI (i + 3)) (nI_add i 3) ?_
      refine s_ld (j := i + 3) S hX hbl hbA hS (by omega) hL d_Law_law_268 ?_
      refine kVi (rest := []) S (c_M_join_n l 0 (xs (i + 2)) (xs (i + 3)) hc) kc_M_join ⟨q_315, q_316, q_317⟩ rfl rfl ⟨Nat.le_of_ble_eq_true rfl, Nat.le_of_ble_eq_true rfl⟩ hC hS hA hcw ⟨8, _, _, _, rfl, hcw.1⟩ ⟨(by omega), (by omega)⟩ hl.1 rfl rfl (Nat.le_of_ble_eq_true rfl) d_Law_law_269 (fun r er => ?_)
      subst er
      refine lv_aload_n S.1 S.2.1 d_Law_law_272 rfl (lv_at hl 1 rfl) ?_
      refine lv_aload_n S.1 S.2.1 d_Law_law_273 rfl (lv_at hl 3 rfl) ?_
      refine lv_iload_n S.1 S.2.1 d_Law_law_274 rfl (lv_at hl 0 rfl) ?_
      refine lv_iconst (v := 1) S.1 S.2.1 d_Law_law_275 (by decide) ?_
      refine lv_iadd S.1 S.2.1 d_Law_law_276 ?_
      refine tpi (y := nI (i + 1)) (nI_add i 1) ?_
      refine s_ld (j := i + 1) S hX hbl hbA hS (by omega) hL d_Law_law_277 ?_
      refine lv_if_eq (tgt := 285) S.1 S.2.1 d_Law_law_278 (by decide) (fun _ => ?_) (fun hx9 => absurd hx hx9)
      refine lv_iconst (v := 0) S.1 S.2.1 d_Law_law_285 (by decide) ?_
      refine lv_aload_n S.1 S.2.1 d_Law_law_286 rfl (lv_at hl 3 rfl) ?_
      refine lv_iload_n S.1 S.2.1 d_Law_law_287 rfl (lv_at hl 0 rfl) ?_
      refine lv_iconst (v := 2) S.1 S.2.1 d_Law_law_288 (by decide) ?_
      refine lv_iadd S.1 S.2.1 d_Law_law_289 ?_
      refine tpi (y := nI (i + 2)) (nI_add i 2) ?_
      refine s_ld (j := i + 2) S hX hbl hbA hS (by omega) hL d_Law_law_290 ?_
      refine lv_aload_n S.1 S.2.1 d_Law_law_291 rfl (lv_at hl 3 rfl) ?_
      refine lv_iload_n S.1 S.2.1 d_Law_law_292 rfl (lv_at hl 0 rfl) ?_
      refine lv_iconst (v := 3) S.1 S.2.1 d_Law_law_293 (by decide) ?_
      refine lv_iadd S.1 S.2.1 d_Law_law_294 ?_
      refine tpi (y := nI (i + 3)) (nI_add i 3) ?_
      refine s_ld (j := i + 3) S hX hbl hbA hS (by omega) hL d_Law_law_295 ?_
      refine kw_i (A := (fun q : Nat => kz K ≤ q)) (k_V (rest := [.int (-1)]) S (c_R_join l hDm 0 (xs (i + 2)) (xs (i + 3)) (by omega)) kc_R_join ⟨q_773, q_774, q_775⟩ rfl rfl ⟨Nat.le_of_ble_eq_true rfl, Nat.le_of_ble_eq_true rfl⟩ hC hS hA hw ⟨11, _, _, _, rfl, hw.1⟩ rfl hl.1 rfl (Nat.le_of_ble_eq_true rfl) ⟨(by omega), (by omega)⟩ d_Law_law_296) hS (fun q h => by obtain ⟨j9, hj9, rfl⟩ := h; exact hDm.2 j9 hj9) (fun r H locs er hz hkp hS => ?_)
      have er1 := er
      obtain ⟨er0, hw⟩ := er1.2 (fun z => hc ⟨z.1, (frm_iff (by omega : n < 2147483648)).mpr z.2.1, (frm_iff (by omega : n < 2147483648)).mpr z.2.2⟩)
      have hcw := hcw.cl hD hkp hsep
      subst er0
      refine lv_icmp_eq (tgt := 761) S.1 S.2.1 d_Law_law_299 (by decide) (fun _ => ?_) (fun hx9 => absurd rfl hx9)
      exact W.widen (k := cells + 3) (n := slots + 48) (by omega) (by omega) (kk _ _ ⟨els, wat, md, n, cap, fE, kd, wh, fi, se, lo, hi, fr, rg, xr, dc, ad, sa, stt, G, N, T, Qp, J, X, t, eb, hcw, hD, hcap, hw, hDm, hsep, htie0⟩ hS)
  · by_cases hc : ¬ f_M_mayMake wat n = 0 ∧ (∃ k, k < n ∧ (xs (i + 2)) = nI k) ∧ (∃ k, k < n ∧ (xs (i + 3)) = nI k)
    · obtain ⟨k, hkn, ex2⟩ := hc.2.1
      obtain ⟨k2, hk2n, ex3⟩ := hc.2.2
      have hyes := hc.1
      have hwz := may_w hyes
      have hn12 : n < 12 := hmay (by omega) hyes
      have hlt := lw_lt hcw hD hC hzH
      have hw0m := hw
      obtain ⟨H0, hH0⟩ : ∃ H0, H0 = H := ⟨_, rfl⟩
      refine lv_aload_n S.1 S.2.1 d_Law_law_245 rfl (lv_at hl 2 rfl) ?_
      refine lv_aload_n S.1 S.2.1 d_Law_law_246 rfl (lv_at hl 3 rfl) ?_
      refine lv_iload_n S.1 S.2.1 d_Law_law_247 rfl (lv_at hl 0 rfl) ?_
      refine lv_iconst (v := 1) S.1 S.2.1 d_Law_law_248 (by decide) ?_
      refine lv_iadd S.1 S.2.1 d_Law_law_249 ?_
      refine tpi (y := nI (i + 1)) (nI_add i 1) ?_
      refine s_ld (j := i + 1) S hX hbl hbA hS (by omega) hL d_Law_law_250 ?_
      refine lv_if_eq (tgt := 258) S.1 S.2.1 d_Law_law_251 (by decide) (fun hx9 => absurd hx9 hx) (fun _ => ?_)
      refine lv_iconst (v := 1) S.1 S.2.1 d_Law_law_254 (by decide) ?_
      refine lv_goto (tgt := 259) S.1 S.2.1 d_Law_law_255 (by decide) ?_
      refine lv_aload_n S.1 S.2.1 d_Law_law_259 rfl (lv_at hl 3 rfl) ?_
      refine lv_iload_n S.1 S.2.1 d_Law_law_260 rfl (lv_at hl 0 rfl) ?_
      refine lv_iconst (v := 2) S.1 S.2.1 d_Law_law_261 (by decide) ?_
      refine lv_iadd S.1 S.2.1 d_Law_law_262 ?_
      refine tpi (y := nI (i + 2)) (nI_add i 2) ?_
      refine s_ld (j := i + 2) S hX hbl hbA hS (by omega) hL d_Law_law_263 ?_
      refine tpi (y := nI k) ex2 ?_
      refine lv_aload_n S.1 S.2.1 d_Law_law_264 rfl (lv_at hl 3 rfl) ?_
      refine lv_iload_n S.1 S.2.1 d_Law_law_265 rfl (lv_at hl 0 rfl) ?_
      refine lv_iconst (v := 3) S.1 S.2.1 d_Law_law_266 (by decide) ?_
      refine lv_iadd S.1 S.2.1 d_Law_law_267 ?_
      refine tpi (y := nI (i + 3)) (nI_add i 3) ?_
      refine s_ld (j := i + 3) S hX hbl hbA hS (by omega) hL d_Law_law_268 ?_
      refine tpi (y := nI k2) ex3 ?_
      refine kw_i (A := (fun q : Nat => kz K ≤ q)) (k_V (rest := []) S (c_M_join_ya l (sz := H0.size) hD hV (by rw [hH0]; exact hlt) hyes (cap_case hcap hn12) hkn hk2n) kc_M_join ⟨q_315, q_316, q_317⟩ rfl rfl ⟨Nat.le_of_ble_eq_true rfl, Nat.le_of_ble_eq_true rfl⟩ hC hS hA ⟨by rw [hH0], hcw⟩ ⟨8, _, _, _, rfl, hcw.1⟩ rfl hl.1 rfl (Nat.le_of_ble_eq_true rfl) ⟨(by omega), (by omega)⟩ d_Law_law_269) hS (fun q h => h.elim (fun z => by rw [z]; exact hD.2.1 1 (by omega) (by omega)) (fun z => z.elim (fun z => by rw [z.2]; exact hD.2.2.1 z.1) (fun z => by rw [hH0] at z; exact Nat.le_trans hzH z))) (fun r H locs er hz hkp hS => ?_)
      obtain ⟨er0, els2, cap2, g9, hcw, hcp2, hel2⟩ := er
      have hw := hw.cl hkp (fun j9 hj9 z => z.elim (fun z => hsep _ (ac_fix hD (i := 1) (by omega) (by omega)) ⟨j9, hj9, z.symm⟩) (fun z => z.elim (fun z => hsep _ (ac_els hD z.1) ⟨j9, hj9, z.2.symm⟩) (fun z => by have := mA.lt (q := ma j9) ⟨j9, hj9, rfl⟩ hw; rw [hH0] at z; omega)))
      have hn1 := hcw.2.1.2.2.1
      have hD1 := dst_new (sz := H0.size) hD (by rw [hH0]; exact hlt) (by rw [hH0]; exact hzH) (hel2.imp id (fun z => by omega)) (by omega : 0 < cap2)
      have hsep1 : ∀ q, ac K mon lst els2 lg tm pr (va_up ad n H0.size) (va_up sa n (H0.size + 1)) (n + 1) q → ¬ mA ma q := fun q h z => (ac_new (hel2.imp (fun y => y.1) (fun y => by omega)) h).elim (fun y => hsep q y z) (fun y => by have := mA.lt z hw0m; rw [hH0] at y; omega)
      have hcap1 : capOk cap2 (n + 1) := by unfold capOk at hcap ⊢; omega
      subst er0
      refine lv_aload_n S.1 S.2.1 d_Law_law_272 rfl (lv_at hl 1 rfl) ?_
      refine lv_aload_n S.1 S.2.1 d_Law_law_273 rfl (lv_at hl 3 rfl) ?_
      refine lv_iload_n S.1 S.2.1 d_Law_law_274 rfl (lv_at hl 0 rfl) ?_
      refine lv_iconst (v := 1) S.1 S.2.1 d_Law_law_275 (by decide) ?_
      refine lv_iadd S.1 S.2.1 d_Law_law_276 ?_
      refine tpi (y := nI (i + 1)) (nI_add i 1) ?_
      refine s_ld (j := i + 1) S hX hbl hbA hS (by omega) hL d_Law_law_277 ?_
      refine lv_if_eq (tgt := 285) S.1 S.2.1 d_Law_law_278 (by decide) (fun hx9 => absurd hx9 hx) (fun _ => ?_)
      refine lv_iconst (v := 1) S.1 S.2.1 d_Law_law_281 (by decide) ?_
      refine lv_goto (tgt := 286) S.1 S.2.1 d_Law_law_282 (by decide) ?_
      refine lv_aload_n S.1 S.2.1 d_Law_law_286 rfl (lv_at hl 3 rfl) ?_
      refine lv_iload_n S.1 S.2.1 d_Law_law_287 rfl (lv_at hl 0 rfl) ?_
      refine lv_iconst (v := 2) S.1 S.2.1 d_Law_law_288 (by decide) ?_
      refine lv_iadd S.1 S.2.1 d_Law_law_289 ?_
      refine tpi (y := nI (i + 2)) (nI_add i 2) ?_
      refine s_ld (j := i + 2) S hX hbl hbA hS (by omega) hL d_Law_law_290 ?_
      refine tpi (y := nI k) ex2 ?_
      refine lv_aload_n S.1 S.2.1 d_Law_law_291 rfl (lv_at hl 3 rfl) ?_
      refine lv_iload_n S.1 S.2.1 d_Law_law_292 rfl (lv_at hl 0 rfl) ?_
      refine lv_iconst (v := 3) S.1 S.2.1 d_Law_law_293 (by decide) ?_
      refine lv_iadd S.1 S.2.1 d_Law_law_294 ?_
      refine tpi (y := nI (i + 3)) (nI_add i 3) ?_
      refine s_ld (j := i + 3) S hX hbl hbA hS (by omega) hL d_Law_law_295 ?_
      refine tpi (y := nI k2) ex3 ?_
      refine kw_i (A := (fun q : Nat => kz K ≤ q)) (k_V (rest := [.int (nI n)]) S (c_R_join l hDm 1 (nI k) (nI k2) (by omega)) kc_R_join ⟨q_773, q_774, q_775⟩ rfl rfl ⟨Nat.le_of_ble_eq_true rfl, Nat.le_of_ble_eq_true rfl⟩ hC hS hA hw ⟨11, _, _, _, rfl, hw.1⟩ rfl hl.1 rfl (Nat.le_of_ble_eq_true rfl) ⟨(by omega), (by omega)⟩ d_Law_law_296) hS (fun q h => by obtain ⟨j9, hj9, rfl⟩ := h; exact hDm.2 j9 hj9) (fun r H locs er hz hkp hS => ?_)
      have er1 := er
      obtain ⟨er0, J1, hmk, hw⟩ := er1.1 ⟨hyes, isF_y (by omega) hkn, isF_y (by omega) hk2n⟩
      have hD := hD1
      have hsep := hsep1
      have hcap := hcap1
      have hcw := hcw.cl hD hkp hsep
      subst er0
      refine lv_icmp_eq (tgt := 761) S.1 S.2.1 d_Law_law_299 (by decide) (fun _ => ?_) (fun hx9 => absurd rfl hx9)
      exact W.widen (k := cells + 3) (n := slots + 48) (by omega) (by omega) (kk _ _ ⟨els2, wat, md + 1, n + 1, cap2, g9, (va_up kd n _), (va_up wh n _), (va_up fi n _), (va_up se n _), (va_up lo n _), (va_up hi n _), (va_up fr n _), (va_up rg n _), (va_up xr n _), (va_up dc n 0), (va_up ad n H0.size), (va_up sa n (H0.size + 1)), (va_up stt n (fun _ => 0)), G, N, T, Qp, J1, X, t, _, hcw, hD, hcap, hw, hDm, hsep, htie0.new (kd0 := 4) (wh0 := 0) (fi0 := k) (se0 := k2) hwz hn12 ⟨by omega, by omega, fun h => absurd h (by omega), fun _ => ⟨hkn, hk2n⟩, fun h => absurd h (by omega), fun h => absurd h (by omega)⟩ rfl rfl (xr2 (hxr k hkn) (hxr k2 hk2n)) hmk⟩ hS)
    · skip
      refine lv_aload_n S.1 S.2.1 d_Law_law_245 rfl (lv_at hl 2 rfl) ?_
      refine lv_aload_n S.1 S.2.1 d_Law_law_246 rfl (lv_at hl 3 rfl) ?_
      refine lv_iload_n S.1 S.2.1 d_Law_law_247 rfl (lv_at hl 0 rfl) ?_
      refine lv_iconst (v := 1) S.1 S.2.1 d_Law_law_248 (by decide) ?_
      refine lv_iadd S.1 S.2.1 d_Law_law_249 ?_
      refine tpi (y := nI (i + 1)) (nI_add i 1) ?_
      refine s_ld (j := i + 1) S hX hbl hbA hS (by omega) hL d_Law_law_250 ?_
      refine lv_if_eq (tgt := 258) S.1 S.2.1 d_Law_law_251 (by decide) (fun hx9 => absurd hx9 hx) (fun _ => ?_)
      refine lv_iconst (v := 1) S.1 S.2.1 d_Law_law_254 (by decide) ?_
      refine lv_goto (tgt := 259) S.1 S.2.1 d_Law_law_255 (by decide) ?_
      refine lv_aload_n S.1 S.2.1 d_Law_law_259 rfl (lv_at hl 3 rfl) ?_
      refine lv_iload_n S.1 S.2.1 d_Law_law_260 rfl (lv_at hl 0 rfl) ?_
      refine lv_iconst (v := 2) S.1 S.2.1 d_Law_law_261 (by decide) ?_
      refine lv_iadd S.1 S.2.1 d_Law_law_262 ?_
      refine tpi (y := nI (i + 2)) (nI_add i 2) ?_
      refine s_ld (j := i + 2) S hX hbl hbA hS (by omega) hL d_Law_law_263 ?_
      refine lv_aload_n S.1 S.2.1 d_Law_law_264 rfl (lv_at hl 3 rfl) ?_
      refine lv_iload_n S.1 S.2.1 d_Law_law_265 rfl (lv_at hl 0 rfl) ?_
      refine lv_iconst (v := 3) S.1 S.2.1 d_Law_law_266 (by decide) ?_
      refine lv_iadd S.1 S.2.1 d_Law_law_267 ?_
      refine tpi (y := nI (i + 3)) (nI_add i 3) ?_
      refine s_ld (j := i + 3) S hX hbl hbA hS (by omega) hL d_Law_law_268 ?_
      refine kVi (rest := []) S (c_M_join_n l 1 (xs (i + 2)) (xs (i + 3)) hc) kc_M_join ⟨q_315, q_316, q_317⟩ rfl rfl ⟨Nat.le_of_ble_eq_true rfl, Nat.le_of_ble_eq_true rfl⟩ hC hS hA hcw ⟨8, _, _, _, rfl, hcw.1⟩ ⟨(by omega), (by omega)⟩ hl.1 rfl rfl (Nat.le_of_ble_eq_true rfl) d_Law_law_269 (fun r er => ?_)
      subst er
      refine lv_aload_n S.1 S.2.1 d_Law_law_272 rfl (lv_at hl 1 rfl) ?_
      refine lv_aload_n S.1 S.2.1 d_Law_law_273 rfl (lv_at hl 3 rfl) ?_
      refine lv_iload_n S.1 S.2.1 d_Law_law_274 rfl (lv_at hl 0 rfl) ?_
      refine lv_iconst (v := 1) S.1 S.2.1 d_Law_law_275 (by decide) ?_
      refine lv_iadd S.1 S.2.1 d_Law_law_276 ?_
      refine tpi (y := nI (i + 1)) (nI_add i 1) ?_
      refine s_ld (j := i + 1) S hX hbl hbA hS (by omega) hL d_Law_law_277 ?_
      refine lv_if_eq (tgt := 285) S.1 S.2.1 d_Law_law_278 (by decide) (fun hx9 => absurd hx9 hx) (fun _ => ?_)
      refine lv_iconst (v := 1) S.1 S.2.1 d_Law_law_281 (by decide) ?_
      refine lv_goto (tgt := 286) S.1 S.2.1 d_Law_law_282 (by decide) ?_
      refine lv_aload_n S.1 S.2.1 d_Law_law_286 rfl (lv_at hl 3 rfl) ?_
      refine lv_iload_n S.1 S.2.1 d_Law_law_287 rfl (lv_at hl 0 rfl) ?_
      refine lv_iconst (v := 2) S.1 S.2.1 d_Law_law_288 (by decide) ?_
      refine lv_iadd S.1 S.2.1 d_Law_law_289 ?_
      refine tpi (y := nI (i + 2)) (nI_add i 2) ?_
      refine s_ld (j := i + 2) S hX hbl hbA hS (by omega) hL d_Law_law_290 ?_
      refine lv_aload_n S.1 S.2.1 d_Law_law_291 rfl (lv_at hl 3 rfl) ?_
      refine lv_iload_n S.1 S.2.1 d_Law_law_292 rfl (lv_at hl 0 rfl) ?_
      refine lv_iconst (v := 3) S.1 S.2.1 d_Law_law_293 (by decide) ?_
      refine lv_iadd S.1 S.2.1 d_Law_law_294 ?_
      refine tpi (y := nI (i + 3)) (nI_add i 3) ?_
      refine s_ld (j := i + 3) S hX hbl hbA hS (by omega) hL d_Law_law_295 ?_
      refine kw_i (A := (fun q : Nat => kz K ≤ q)) (k_V (rest := [.int (-1)]) S (c_R_join l hDm 1 (xs (i + 2)) (xs (i + 3)) (by omega)) kc_R_join ⟨q_773, q_774, q_775⟩ rfl rfl ⟨Nat.le_of_ble_eq_true rfl, Nat.le_of_ble_eq_true rfl⟩ hC hS hA hw ⟨11, _, _, _, rfl, hw.1⟩ rfl hl.1 rfl (Nat.le_of_ble_eq_true rfl) ⟨(by omega), (by omega)⟩ d_Law_law_296) hS (fun q h => by obtain ⟨j9, hj9, rfl⟩ := h; exact hDm.2 j9 hj9) (fun r H locs er hz hkp hS => ?_)
      have er1 := er
      obtain ⟨er0, hw⟩ := er1.2 (fun z => hc ⟨z.1, (frm_iff (by omega : n < 2147483648)).mpr z.2.1, (frm_iff (by omega : n < 2147483648)).mpr z.2.2⟩)
      have hcw := hcw.cl hD hkp hsep
      subst er0
      refine lv_icmp_eq (tgt := 761) S.1 S.2.1 d_Law_law_299 (by decide) (fun _ => ?_) (fun hx9 => absurd rfl hx9)
      exact W.widen (k := cells + 3) (n := slots + 48) (by omega) (by omega) (kk _ _ ⟨els, wat, md, n, cap, fE, kd, wh, fi, se, lo, hi, fr, rg, xr, dc, ad, sa, stt, G, N, T, Qp, J, X, t, eb, hcw, hD, hcap, hw, hDm, hsep, htie0⟩ hS)
set_option maxHeartbeats 4000000 in
set_option maxRecDepth 100000 in
theorem law_4 (l : Launch) (S : CallFix p m c code 4 s #[Value.ref b] WALL "MetricLogMonitorLaw") (hC : CX K s) (hkz : kz K = s.heap.size) (hX : va_X b L xs s s.heap) (hbl : b < s.heap.size) (hL : L ≤ 2560) (hiL : i + 5 ≤ L) (hcc : cells + 3 ≤ room_1.cells) (hss : slots + 48 ≤ room_1.slots) (hv : inv K mon lst lg tm pr ma H) (hS : va_S (fun q : Nat => kz K ≤ q) s.heap H locs) (hl : lv_has ls 4 [(3, .int (nI i)), (2, .ref (ma 0)), (1, .ref mon), (0, .ref b)])
    (kk : ∀ (H' : Heap) (locs' : List Loc), inv K mon lst lg tm pr ma H' → va_S (fun q : Nat => kz K ≤ q) s.heap H' locs' → W p l e room_1 s m #[Value.ref b] below meth c H' locs' (cells + 3) (slots + 48) Q (F0 m 761 ls [])) : W p l e room_1 s m #[Value.ref b] below meth c H locs cells slots Q (F0 m 304 ls []) := by
  have hbA : ¬ (fun q : Nat => kz K ≤ q) b := fun z => absurd (show kz K ≤ b from z) (by omega)
  have hA : ∀ q, (fun q : Nat => kz K ≤ q) q → kz K ≤ q := fun _ h => h
  have hzH : kz K ≤ H.size := by have := hS.1; omega
  obtain ⟨els, wat, md, n, cap, fE, kd, wh, fi, se, lo, hi, fr, rg, xr, dc, ad, sa, stt, G, N, T, Qp, J, X, t, eb, hcw, hD, hcap, hw, hDm, hsep, htie⟩ := hv
  have htie0 := htie
  obtain ⟨hrcJ, hdcN⟩ := htie.rcJ
  obtain ⟨h12, h24, hwt, hw0, hV, hT, hfr, hrg, hxr, her, hrc, htm, hJ7, hQP, hGJ, hst, hXs⟩ := htie
  have hdc24 : ∀ j, j < n → dc j ≤ 24 := fun j hj => Nat.le_trans (hdcN j hj) h24
  by_cases hc : ¬ f_M_mayMake wat n = 0 ∧ ¬ f_M_isVariable (xs (i + 1)) = 0 ∧ (∃ k, k < n ∧ (xs (i + 2)) = nI k)
  · obtain ⟨v9, hv3, ex1⟩ := rel_of hc.2.1
    obtain ⟨k, hkn, ex2⟩ := hc.2.2
    have hyes := hc.1
    have hwz := may_w hyes
    have hn12 : n < 12 := hmay (by omega) hyes
    have hlt := lw_lt hcw hD hC hzH
    have hw0m := hw
    obtain ⟨H0, hH0⟩ : ∃ H0, H0 = H := ⟨_, rfl⟩
    refine lv_aload_n S.1 S.2.1 d_Law_law_304 rfl (lv_at hl 2 rfl) ?_
    refine lv_aload_n S.1 S.2.1 d_Law_law_305 rfl (lv_at hl 3 rfl) ?_
    refine lv_iload_n S.1 S.2.1 d_Law_law_306 rfl (lv_at hl 0 rfl) ?_
    refine lv_iconst (v := 1) S.1 S.2.1 d_Law_law_307 (by decide) ?_
    refine lv_iadd S.1 S.2.1 d_Law_law_308 ?_
    refine tpi (y := nI (i + 1)) (nI_add i 1) ?_
    refine s_ld (j := i + 1) S hX hbl hbA hS (by omega) hL d_Law_law_309 ?_
    refine tpi (y := nI v9) ex1 ?_
    refine lv_aload_n S.1 S.2.1 d_Law_law_310 rfl (lv_at hl 3 rfl) ?_
    refine lv_iload_n S.1 S.2.1 d_Law_law_311 rfl (lv_at hl 0 rfl) ?_
    refine lv_iconst (v := 2) S.1 S.2.1 d_Law_law_312 (by decide) ?_
    refine lv_iadd S.1 S.2.1 d_Law_law_313 ?_
    refine tpi (y := nI (i + 2)) (nI_add i 2) ?_
    refine s_ld (j := i + 2) S hX hbl hbA hS (by omega) hL d_Law_law_314 ?_
    refine tpi (y := nI k) ex2 ?_
    refine kw_i (A := (fun q : Nat => kz K ≤ q)) (k_V (rest := []) S (c_M_exists_y l (sz := H0.size) hD hV (by rw [hH0]; exact hlt) hyes (cap_case hcap hn12) hkn (rel_y v9 hv3)) kc_M_exists ⟨q_343, q_344, q_345⟩ rfl rfl ⟨Nat.le_of_ble_eq_true rfl, Nat.le_of_ble_eq_true rfl⟩ hC hS hA ⟨by rw [hH0], hcw⟩ ⟨8, _, _, _, rfl, hcw.1⟩ rfl hl.1 rfl (Nat.le_of_ble_eq_true rfl) ⟨(by omega), (by omega)⟩ d_Law_law_315) hS (fun q h => h.elim (fun z => by rw [z]; exact hD.2.1 1 (by omega) (by omega)) (fun z => z.elim (fun z => by rw [z.2]; exact hD.2.2.1 z.1) (fun z => by rw [hH0] at z; exact Nat.le_trans hzH z))) (fun r H locs er hz hkp hS => ?_)
    obtain ⟨er0, els2, cap2, g9, hcw, hcp2, hel2⟩ := er
    have hw := hw.cl hkp (fun j9 hj9 z => z.elim (fun z => hsep _ (ac_fix hD (i := 1) (by omega) (by omega)) ⟨j9, hj9, z.symm⟩) (fun z => z.elim (fun z => hsep _ (ac_els hD z.1) ⟨j9, hj9, z.2.symm⟩) (fun z => by have := mA.lt (q := ma j9) ⟨j9, hj9, rfl⟩ hw; rw [hH0] at z; omega)))
    have hn1 := hcw.2.1.2.2.1
    have hD1 := dst_new (sz := H0.size) hD (by rw [hH0]; exact hlt) (by rw [hH0]; exact hzH) (hel2.imp id (fun z => by omega)) (by omega : 0 < cap2)
    have hsep1 : ∀ q, ac K mon lst els2 lg tm pr (va_up ad n H0.size) (va_up sa n (H0.size + 1)) (n + 1) q → ¬ mA ma q := fun q h z => (ac_new (hel2.imp (fun y => y.1) (fun y => by omega)) h).elim (fun y => hsep q y z) (fun y => by have := mA.lt z hw0m; rw [hH0] at y; omega)
    have hcap1 : capOk cap2 (n + 1) := by unfold capOk at hcap ⊢; omega
    subst er0
    refine lv_aload_n S.1 S.2.1 d_Law_law_318 rfl (lv_at hl 1 rfl) ?_
    refine lv_aload_n S.1 S.2.1 d_Law_law_319 rfl (lv_at hl 3 rfl) ?_
    refine lv_iload_n S.1 S.2.1 d_Law_law_320 rfl (lv_at hl 0 rfl) ?_
    refine lv_iconst (v := 1) S.1 S.2.1 d_Law_law_321 (by decide) ?_
    refine lv_iadd S.1 S.2.1 d_Law_law_322 ?_
    refine tpi (y := nI (i + 1)) (nI_add i 1) ?_
    refine s_ld (j := i + 1) S hX hbl hbA hS (by omega) hL d_Law_law_323 ?_
    refine tpi (y := nI v9) ex1 ?_
    refine lv_aload_n S.1 S.2.1 d_Law_law_324 rfl (lv_at hl 3 rfl) ?_
    refine lv_iload_n S.1 S.2.1 d_Law_law_325 rfl (lv_at hl 0 rfl) ?_
    refine lv_iconst (v := 2) S.1 S.2.1 d_Law_law_326 (by decide) ?_
    refine lv_iadd S.1 S.2.1 d_Law_law_327 ?_
    refine tpi (y := nI (i + 2)) (nI_add i 2) ?_
    refine s_ld (j := i + 2) S hX hbl hbA hS (by omega) hL d_Law_law_328 ?_
    refine tpi (y := nI k) ex2 ?_
    refine kw_i (A := (fun q : Nat => kz K ≤ q)) (k_V (rest := [.int (nI n)]) S (c_R_exists l hDm (nI v9) (nI k) (by omega)) kc_R_exists ⟨q_777, q_778, q_779⟩ rfl rfl ⟨Nat.le_of_ble_eq_true rfl, Nat.le_of_ble_eq_true rfl⟩ hC hS hA hw ⟨11, _, _, _, rfl, hw.1⟩ rfl hl.1 rfl (Nat.le_of_ble_eq_true rfl) ⟨(by omega), (by omega)⟩ d_Law_law_329) hS (fun q h => by obtain ⟨j9, hj9, rfl⟩ := h; exact hDm.2 j9 hj9) (fun r H locs er hz hkp hS => ?_)
    have er1 := er
    obtain ⟨er0, J1, hmk, hw⟩ := er1.1 ⟨hyes, (rel_iff.mp (rel_y v9 hv3)).1, (rel_iff.mp (rel_y v9 hv3)).2, isF_y (by omega) hkn⟩
    have hD := hD1
    have hsep := hsep1
    have hcap := hcap1
    have hcw := hcw.cl hD hkp hsep
    subst er0
    refine lv_icmp_eq (tgt := 761) S.1 S.2.1 d_Law_law_332 (by decide) (fun _ => ?_) (fun hx9 => absurd rfl hx9)
    exact W.widen (k := cells + 3) (n := slots + 48) (by omega) (by omega) (kk _ _ ⟨els2, wat, md + 1, n + 1, cap2, g9, (va_up kd n _), (va_up wh n _), (va_up fi n _), (va_up se n _), (va_up lo n _), (va_up hi n _), (va_up fr n _), (va_up rg n _), (va_up xr n _), (va_up dc n 0), (va_up ad n H0.size), (va_up sa n (H0.size + 1)), (va_up stt n (fun _ => 0)), G, N, T, Qp, J1, X, t, _, hcw, hD, hcap, hw, hDm, hsep, htie0.new (kd0 := 6) (wh0 := v9) (fi0 := k) (se0 := k) hwz hn12 ⟨by omega, by omega, fun h => absurd h (by omega), fun _ => ⟨hkn, hkn⟩, fun _ => rfl, fun h => absurd h (by omega)⟩ (exf _ _) rfl (exx hv3 (hxr k hkn)) hmk⟩ hS)
  · skip
    refine lv_aload_n S.1 S.2.1 d_Law_law_304 rfl (lv_at hl 2 rfl) ?_
    refine lv_aload_n S.1 S.2.1 d_Law_law_305 rfl (lv_at hl 3 rfl) ?_
    refine lv_iload_n S.1 S.2.1 d_Law_law_306 rfl (lv_at hl 0 rfl) ?_
    refine lv_iconst (v := 1) S.1 S.2.1 d_Law_law_307 (by decide) ?_
    refine lv_iadd S.1 S.2.1 d_Law_law_308 ?_
    refine tpi (y := nI (i + 1)) (nI_add i 1) ?_
    refine s_ld (j := i + 1) S hX hbl hbA hS (by omega) hL d_Law_law_309 ?_
    refine lv_aload_n S.1 S.2.1 d_Law_law_310 rfl (lv_at hl 3 rfl) ?_
    refine lv_iload_n S.1 S.2.1 d_Law_law_311 rfl (lv_at hl 0 rfl) ?_
    refine lv_iconst (v := 2) S.1 S.2.1 d_Law_law_312 (by decide) ?_
    refine lv_iadd S.1 S.2.1 d_Law_law_313 ?_
    refine tpi (y := nI (i + 2)) (nI_add i 2) ?_
    refine s_ld (j := i + 2) S hX hbl hbA hS (by omega) hL d_Law_law_314 ?_
    refine kVi (rest := []) S (c_M_exists_n l (xs (i + 1)) (xs (i + 2)) hc) kc_M_exists ⟨q_343, q_344, q_345⟩ rfl rfl ⟨Nat.le_of_ble_eq_true rfl, Nat.le_of_ble_eq_true rfl⟩ hC hS hA hcw ⟨8, _, _, _, rfl, hcw.1⟩ ⟨(by omega), (by omega)⟩ hl.1 rfl rfl (Nat.le_of_ble_eq_true rfl) d_Law_law_315 (fun r er => ?_)
    subst er
    refine lv_aload_n S.1 S.2.1 d_Law_law_318 rfl (lv_at hl 1 rfl) ?_
    refine lv_aload_n S.1 S.2.1 d_Law_law_319 rfl (lv_at hl 3 rfl) ?_
    refine lv_iload_n S.1 S.2.1 d_Law_law_320 rfl (lv_at hl 0 rfl) ?_
    refine lv_iconst (v := 1) S.1 S.2.1 d_Law_law_321 (by decide) ?_
    refine lv_iadd S.1 S.2.1 d_Law_law_322 ?_
    refine tpi (y := nI (i + 1)) (nI_add i 1) ?_
    refine s_ld (j := i + 1) S hX hbl hbA hS (by omega) hL d_Law_law_323 ?_
    refine lv_aload_n S.1 S.2.1 d_Law_law_324 rfl (lv_at hl 3 rfl) ?_
    refine lv_iload_n S.1 S.2.1 d_Law_law_325 rfl (lv_at hl 0 rfl) ?_
    refine lv_iconst (v := 2) S.1 S.2.1 d_Law_law_326 (by decide) ?_
    refine lv_iadd S.1 S.2.1 d_Law_law_327 ?_
    refine tpi (y := nI (i + 2)) (nI_add i 2) ?_
    refine s_ld (j := i + 2) S hX hbl hbA hS (by omega) hL d_Law_law_328 ?_
    refine kw_i (A := (fun q : Nat => kz K ≤ q)) (k_V (rest := [.int (-1)]) S (c_R_exists l hDm (xs (i + 1)) (xs (i + 2)) (by omega)) kc_R_exists ⟨q_777, q_778, q_779⟩ rfl rfl ⟨Nat.le_of_ble_eq_true rfl, Nat.le_of_ble_eq_true rfl⟩ hC hS hA hw ⟨11, _, _, _, rfl, hw.1⟩ rfl hl.1 rfl (Nat.le_of_ble_eq_true rfl) ⟨(by omega), (by omega)⟩ d_Law_law_329) hS (fun q h => by obtain ⟨j9, hj9, rfl⟩ := h; exact hDm.2 j9 hj9) (fun r H locs er hz hkp hS => ?_)
    have er1 := er
    obtain ⟨er0, hw⟩ := er1.2 (fun z => hc ⟨z.1, rel_iff.mpr ⟨z.2.1, z.2.2.1⟩, (frm_iff (by omega : n < 2147483648)).mpr z.2.2.2⟩)
    have hcw := hcw.cl hD hkp hsep
    subst er0
    refine lv_icmp_eq (tgt := 761) S.1 S.2.1 d_Law_law_332 (by decide) (fun _ => ?_) (fun hx9 => absurd rfl hx9)
    exact W.widen (k := cells + 3) (n := slots + 48) (by omega) (by omega) (kk _ _ ⟨els, wat, md, n, cap, fE, kd, wh, fi, se, lo, hi, fr, rg, xr, dc, ad, sa, stt, G, N, T, Qp, J, X, t, eb, hcw, hD, hcap, hw, hDm, hsep, htie0⟩ hS)
set_option maxHeartbeats 4000000 in
set_option maxRecDepth 100000 in
theorem law_5 (l : Launch) (S : CallFix p m c code 4 s #[Value.ref b] WALL "MetricLogMonitorLaw") (hC : CX K s) (hkz : kz K = s.heap.size) (hX : va_X b L xs s s.heap) (hbl : b < s.heap.size) (hL : L ≤ 2560) (hiL : i + 5 ≤ L) (hcc : cells + 3 ≤ room_1.cells) (hss : slots + 48 ≤ room_1.slots) (hv : inv K mon lst lg tm pr ma H) (hS : va_S (fun q : Nat => kz K ≤ q) s.heap H locs) (hl : lv_has ls 4 [(3, .int (nI i)), (2, .ref (ma 0)), (1, .ref mon), (0, .ref b)])
    (kk : ∀ (H' : Heap) (locs' : List Loc), inv K mon lst lg tm pr ma H' → va_S (fun q : Nat => kz K ≤ q) s.heap H' locs' → W p l e room_1 s m #[Value.ref b] below meth c H' locs' (cells + 3) (slots + 48) Q (F0 m 761 ls [])) : W p l e room_1 s m #[Value.ref b] below meth c H locs cells slots Q (F0 m 337 ls []) := by
  have hbA : ¬ (fun q : Nat => kz K ≤ q) b := fun z => absurd (show kz K ≤ b from z) (by omega)
  have hA : ∀ q, (fun q : Nat => kz K ≤ q) q → kz K ≤ q := fun _ h => h
  have hzH : kz K ≤ H.size := by have := hS.1; omega
  obtain ⟨els, wat, md, n, cap, fE, kd, wh, fi, se, lo, hi, fr, rg, xr, dc, ad, sa, stt, G, N, T, Qp, J, X, t, eb, hcw, hD, hcap, hw, hDm, hsep, htie⟩ := hv
  have htie0 := htie
  obtain ⟨hrcJ, hdcN⟩ := htie.rcJ
  obtain ⟨h12, h24, hwt, hw0, hV, hT, hfr, hrg, hxr, her, hrc, htm, hJ7, hQP, hGJ, hst, hXs⟩ := htie
  have hdc24 : ∀ j, j < n → dc j ≤ 24 := fun j hj => Nat.le_trans (hdcN j hj) h24
  by_cases hc : ¬ f_M_mayMake wat n = 0 ∧ ¬ f_M_isPastInterval (xs (i + 1)) (xs (i + 2)) = 0 ∧ (∃ k, k < n ∧ (xs (i + 3)) = nI k)
  · obtain ⟨k, hkn, ex3⟩ := hc.2.2
    have hyes := hc.1
    have hwz := may_w hyes
    have hn12 : n < 12 := hmay (by omega) hyes
    have hlt := lw_lt hcw hD hC hzH
    have hw0m := hw
    obtain ⟨H0, hH0⟩ : ∃ H0, H0 = H := ⟨_, rfl⟩
    refine lv_aload_n S.1 S.2.1 d_Law_law_337 rfl (lv_at hl 2 rfl) ?_
    refine lv_aload_n S.1 S.2.1 d_Law_law_338 rfl (lv_at hl 3 rfl) ?_
    refine lv_iload_n S.1 S.2.1 d_Law_law_339 rfl (lv_at hl 0 rfl) ?_
    refine lv_iconst (v := 1) S.1 S.2.1 d_Law_law_340 (by decide) ?_
    refine lv_iadd S.1 S.2.1 d_Law_law_341 ?_
    refine tpi (y := nI (i + 1)) (nI_add i 1) ?_
    refine s_ld (j := i + 1) S hX hbl hbA hS (by omega) hL d_Law_law_342 ?_
    refine lv_aload_n S.1 S.2.1 d_Law_law_343 rfl (lv_at hl 3 rfl) ?_
    refine lv_iload_n S.1 S.2.1 d_Law_law_344 rfl (lv_at hl 0 rfl) ?_
    refine lv_iconst (v := 2) S.1 S.2.1 d_Law_law_345 (by decide) ?_
    refine lv_iadd S.1 S.2.1 d_Law_law_346 ?_
    refine tpi (y := nI (i + 2)) (nI_add i 2) ?_
    refine s_ld (j := i + 2) S hX hbl hbA hS (by omega) hL d_Law_law_347 ?_
    refine lv_aload_n S.1 S.2.1 d_Law_law_348 rfl (lv_at hl 3 rfl) ?_
    refine lv_iload_n S.1 S.2.1 d_Law_law_349 rfl (lv_at hl 0 rfl) ?_
    refine lv_iconst (v := 3) S.1 S.2.1 d_Law_law_350 (by decide) ?_
    refine lv_iadd S.1 S.2.1 d_Law_law_351 ?_
    refine tpi (y := nI (i + 3)) (nI_add i 3) ?_
    refine s_ld (j := i + 3) S hX hbl hbA hS (by omega) hL d_Law_law_352 ?_
    refine tpi (y := nI k) ex3 ?_
    refine kw_i (A := (fun q : Nat => kz K ≤ q)) (k_V (rest := []) S (c_M_previous_y l (sz := H0.size) hD hV (by rw [hH0]; exact hlt) hyes (cap_case hcap hn12) (xs (i + 1)) (xs (i + 2)) hc.2.1 hkn (fun j9 hj9 => by rw [hxr j9 hj9]; exact bI_z _)) kc_M_previous ⟨q_366, q_367, q_368⟩ rfl rfl ⟨Nat.le_of_ble_eq_true rfl, Nat.le_of_ble_eq_true rfl⟩ hC hS hA ⟨by rw [hH0], hcw⟩ ⟨8, _, _, _, rfl, hcw.1⟩ rfl hl.1 rfl (Nat.le_of_ble_eq_true rfl) ⟨(by omega), (by omega)⟩ d_Law_law_353) hS (fun q h => h.elim (fun z => by rw [z]; exact hD.2.1 1 (by omega) (by omega)) (fun z => z.elim (fun z => by rw [z.2]; exact hD.2.2.1 z.1) (fun z => by rw [hH0] at z; exact Nat.le_trans hzH z))) (fun r H locs er hz hkp hS => ?_)
    obtain ⟨er0, els2, cap2, g9, hcw, hcp2, hel2⟩ := er
    have hw := hw.cl hkp (fun j9 hj9 z => z.elim (fun z => hsep _ (ac_fix hD (i := 1) (by omega) (by omega)) ⟨j9, hj9, z.symm⟩) (fun z => z.elim (fun z => hsep _ (ac_els hD z.1) ⟨j9, hj9, z.2.symm⟩) (fun z => by have := mA.lt (q := ma j9) ⟨j9, hj9, rfl⟩ hw; rw [hH0] at z; omega)))
    have hn1 := hcw.2.1.2.2.1
    have hD1 := dst_new (sz := H0.size) hD (by rw [hH0]; exact hlt) (by rw [hH0]; exact hzH) (hel2.imp id (fun z => by omega)) (by omega : 0 < cap2)
    have hsep1 : ∀ q, ac K mon lst els2 lg tm pr (va_up ad n H0.size) (va_up sa n (H0.size + 1)) (n + 1) q → ¬ mA ma q := fun q h z => (ac_new (hel2.imp (fun y => y.1) (fun y => by omega)) h).elim (fun y => hsep q y z) (fun y => by have := mA.lt z hw0m; rw [hH0] at y; omega)
    have hcap1 : capOk cap2 (n + 1) := by unfold capOk at hcap ⊢; omega
    subst er0
    refine lv_aload_n S.1 S.2.1 d_Law_law_356 rfl (lv_at hl 1 rfl) ?_
    refine lv_aload_n S.1 S.2.1 d_Law_law_357 rfl (lv_at hl 3 rfl) ?_
    refine lv_iload_n S.1 S.2.1 d_Law_law_358 rfl (lv_at hl 0 rfl) ?_
    refine lv_iconst (v := 1) S.1 S.2.1 d_Law_law_359 (by decide) ?_
    refine lv_iadd S.1 S.2.1 d_Law_law_360 ?_
    refine tpi (y := nI (i + 1)) (nI_add i 1) ?_
    refine s_ld (j := i + 1) S hX hbl hbA hS (by omega) hL d_Law_law_361 ?_
    refine lv_aload_n S.1 S.2.1 d_Law_law_362 rfl (lv_at hl 3 rfl) ?_
    refine lv_iload_n S.1 S.2.1 d_Law_law_363 rfl (lv_at hl 0 rfl) ?_
    refine lv_iconst (v := 2) S.1 S.2.1 d_Law_law_364 (by decide) ?_
    refine lv_iadd S.1 S.2.1 d_Law_law_365 ?_
    refine tpi (y := nI (i + 2)) (nI_add i 2) ?_
    refine s_ld (j := i + 2) S hX hbl hbA hS (by omega) hL d_Law_law_366 ?_
    refine lv_aload_n S.1 S.2.1 d_Law_law_367 rfl (lv_at hl 3 rfl) ?_
    refine lv_iload_n S.1 S.2.1 d_Law_law_368 rfl (lv_at hl 0 rfl) ?_
    refine lv_iconst (v := 3) S.1 S.2.1 d_Law_law_369 (by decide) ?_
    refine lv_iadd S.1 S.2.1 d_Law_law_370 ?_
    refine tpi (y := nI (i + 3)) (nI_add i 3) ?_
    refine s_ld (j := i + 3) S hX hbl hbA hS (by omega) hL d_Law_law_371 ?_
    refine tpi (y := nI k) ex3 ?_
    refine kw_i (A := (fun q : Nat => kz K ≤ q)) (k_V (rest := [.int (nI n)]) S (c_R_previous l hDm (xs (i + 1)) (xs (i + 2)) (nI k) (by omega)) kc_R_previous ⟨q_781, q_782, q_783⟩ rfl rfl ⟨Nat.le_of_ble_eq_true rfl, Nat.le_of_ble_eq_true rfl⟩ hC hS hA hw ⟨11, _, _, _, rfl, hw.1⟩ rfl hl.1 rfl (Nat.le_of_ble_eq_true rfl) ⟨(by omega), (by omega)⟩ d_Law_law_372) hS (fun q h => by obtain ⟨j9, hj9, rfl⟩ := h; exact hDm.2 j9 hj9) (fun r H locs er hz hkp hS => ?_)
    have er1 := er
    obtain ⟨er0, J1, hmk, hw⟩ := er1.1 ⟨hyes, pst_iff.mp hc.2.1, isF_y (by omega) hkn⟩
    have hD := hD1
    have hsep := hsep1
    have hcap := hcap1
    have hcw := hcw.cl hD hkp hsep
    subst er0
    refine lv_icmp_eq (tgt := 761) S.1 S.2.1 d_Law_law_375 (by decide) (fun _ => ?_) (fun hx9 => absurd rfl hx9)
    exact W.widen (k := cells + 3) (n := slots + 48) (by omega) (by omega) (kk _ _ ⟨els2, wat, md + 1, n + 1, cap2, g9, (va_up kd n _), (va_up wh n _), (va_up fi n _), (va_up se n _), (va_up lo n _), (va_up hi n _), (va_up fr n _), (va_up rg n _), (va_up xr n _), (va_up dc n 0), (va_up ad n H0.size), (va_up sa n (H0.size + 1)), (va_up stt n (fun _ => 0)), G, N, T, Qp, J1, X, t, _, hcw, hD, hcap, hw, hDm, hsep, htie0.new (kd0 := 7) (wh0 := 0) (fi0 := k) (se0 := k) hwz hn12 ⟨by omega, by omega, fun h => absurd h (by omega), fun _ => ⟨hkn, hkn⟩, fun _ => rfl, fun h => absurd h (by omega)⟩ (b_orx _).symm rfl (by rw [hxr k hkn]; exact congrArg bI (Bool.and_self _).symm) hmk⟩ hS)
  · skip
    refine lv_aload_n S.1 S.2.1 d_Law_law_337 rfl (lv_at hl 2 rfl) ?_
    refine lv_aload_n S.1 S.2.1 d_Law_law_338 rfl (lv_at hl 3 rfl) ?_
    refine lv_iload_n S.1 S.2.1 d_Law_law_339 rfl (lv_at hl 0 rfl) ?_
    refine lv_iconst (v := 1) S.1 S.2.1 d_Law_law_340 (by decide) ?_
    refine lv_iadd S.1 S.2.1 d_Law_law_341 ?_
    refine tpi (y := nI (i + 1)) (nI_add i 1) ?_
    refine s_ld (j := i + 1) S hX hbl hbA hS (by omega) hL d_Law_law_342 ?_
    refine lv_aload_n S.1 S.2.1 d_Law_law_343 rfl (lv_at hl 3 rfl) ?_
    refine lv_iload_n S.1 S.2.1 d_Law_law_344 rfl (lv_at hl 0 rfl) ?_
    refine lv_iconst (v := 2) S.1 S.2.1 d_Law_law_345 (by decide) ?_
    refine lv_iadd S.1 S.2.1 d_Law_law_346 ?_
    refine tpi (y := nI (i + 2)) (nI_add i 2) ?_
    refine s_ld (j := i + 2) S hX hbl hbA hS (by omega) hL d_Law_law_347 ?_
    refine lv_aload_n S.1 S.2.1 d_Law_law_348 rfl (lv_at hl 3 rfl) ?_
    refine lv_iload_n S.1 S.2.1 d_Law_law_349 rfl (lv_at hl 0 rfl) ?_
    refine lv_iconst (v := 3) S.1 S.2.1 d_Law_law_350 (by decide) ?_
    refine lv_iadd S.1 S.2.1 d_Law_law_351 ?_
    refine tpi (y := nI (i + 3)) (nI_add i 3) ?_
    refine s_ld (j := i + 3) S hX hbl hbA hS (by omega) hL d_Law_law_352 ?_
    refine kVi (rest := []) S (c_M_previous_n l (xs (i + 1)) (xs (i + 2)) (xs (i + 3)) hc) kc_M_previous ⟨q_366, q_367, q_368⟩ rfl rfl ⟨Nat.le_of_ble_eq_true rfl, Nat.le_of_ble_eq_true rfl⟩ hC hS hA hcw ⟨8, _, _, _, rfl, hcw.1⟩ ⟨(by omega), (by omega)⟩ hl.1 rfl rfl (Nat.le_of_ble_eq_true rfl) d_Law_law_353 (fun r er => ?_)
    subst er
    refine lv_aload_n S.1 S.2.1 d_Law_law_356 rfl (lv_at hl 1 rfl) ?_
    refine lv_aload_n S.1 S.2.1 d_Law_law_357 rfl (lv_at hl 3 rfl) ?_
    refine lv_iload_n S.1 S.2.1 d_Law_law_358 rfl (lv_at hl 0 rfl) ?_
    refine lv_iconst (v := 1) S.1 S.2.1 d_Law_law_359 (by decide) ?_
    refine lv_iadd S.1 S.2.1 d_Law_law_360 ?_
    refine tpi (y := nI (i + 1)) (nI_add i 1) ?_
    refine s_ld (j := i + 1) S hX hbl hbA hS (by omega) hL d_Law_law_361 ?_
    refine lv_aload_n S.1 S.2.1 d_Law_law_362 rfl (lv_at hl 3 rfl) ?_
    refine lv_iload_n S.1 S.2.1 d_Law_law_363 rfl (lv_at hl 0 rfl) ?_
    refine lv_iconst (v := 2) S.1 S.2.1 d_Law_law_364 (by decide) ?_
    refine lv_iadd S.1 S.2.1 d_Law_law_365 ?_
    refine tpi (y := nI (i + 2)) (nI_add i 2) ?_
    refine s_ld (j := i + 2) S hX hbl hbA hS (by omega) hL d_Law_law_366 ?_
    refine lv_aload_n S.1 S.2.1 d_Law_law_367 rfl (lv_at hl 3 rfl) ?_
    refine lv_iload_n S.1 S.2.1 d_Law_law_368 rfl (lv_at hl 0 rfl) ?_
    refine lv_iconst (v := 3) S.1 S.2.1 d_Law_law_369 (by decide) ?_
    refine lv_iadd S.1 S.2.1 d_Law_law_370 ?_
    refine tpi (y := nI (i + 3)) (nI_add i 3) ?_
    refine s_ld (j := i + 3) S hX hbl hbA hS (by omega) hL d_Law_law_371 ?_
    refine kw_i (A := (fun q : Nat => kz K ≤ q)) (k_V (rest := [.int (-1)]) S (c_R_previous l hDm (xs (i + 1)) (xs (i + 2)) (xs (i + 3)) (by omega)) kc_R_previous ⟨q_781, q_782, q_783⟩ rfl rfl ⟨Nat.le_of_ble_eq_true rfl, Nat.le_of_ble_eq_true rfl⟩ hC hS hA hw ⟨11, _, _, _, rfl, hw.1⟩ rfl hl.1 rfl (Nat.le_of_ble_eq_true rfl) ⟨(by omega), (by omega)⟩ d_Law_law_372) hS (fun q h => by obtain ⟨j9, hj9, rfl⟩ := h; exact hDm.2 j9 hj9) (fun r H locs er hz hkp hS => ?_)
    have er1 := er
    obtain ⟨er0, hw⟩ := er1.2 (fun z => hc ⟨z.1, pst_iff.mpr z.2.1, (frm_iff (by omega : n < 2147483648)).mpr z.2.2⟩)
    have hcw := hcw.cl hD hkp hsep
    subst er0
    refine lv_icmp_eq (tgt := 761) S.1 S.2.1 d_Law_law_375 (by decide) (fun _ => ?_) (fun hx9 => absurd rfl hx9)
    exact W.widen (k := cells + 3) (n := slots + 48) (by omega) (by omega) (kk _ _ ⟨els, wat, md, n, cap, fE, kd, wh, fi, se, lo, hi, fr, rg, xr, dc, ad, sa, stt, G, N, T, Qp, J, X, t, eb, hcw, hD, hcap, hw, hDm, hsep, htie0⟩ hS)
set_option maxHeartbeats 4000000 in
set_option maxRecDepth 100000 in
theorem law_6 (l : Launch) (S : CallFix p m c code 4 s #[Value.ref b] WALL "MetricLogMonitorLaw") (hC : CX K s) (hkz : kz K = s.heap.size) (hX : va_X b L xs s s.heap) (hbl : b < s.heap.size) (hL : L ≤ 2560) (hiL : i + 5 ≤ L) (hcc : cells + 3 ≤ room_1.cells) (hss : slots + 48 ≤ room_1.slots) (hv : inv K mon lst lg tm pr ma H) (hS : va_S (fun q : Nat => kz K ≤ q) s.heap H locs) (hl : lv_has ls 4 [(3, .int (nI i)), (2, .ref (ma 0)), (1, .ref mon), (0, .ref b)])
    (kk : ∀ (H' : Heap) (locs' : List Loc), inv K mon lst lg tm pr ma H' → va_S (fun q : Nat => kz K ≤ q) s.heap H' locs' → W p l e room_1 s m #[Value.ref b] below meth c H' locs' (cells + 3) (slots + 48) Q (F0 m 761 ls [])) : W p l e room_1 s m #[Value.ref b] below meth c H locs cells slots Q (F0 m 380 ls []) := by
  have hbA : ¬ (fun q : Nat => kz K ≤ q) b := fun z => absurd (show kz K ≤ b from z) (by omega)
  have hA : ∀ q, (fun q : Nat => kz K ≤ q) q → kz K ≤ q := fun _ h => h
  have hzH : kz K ≤ H.size := by have := hS.1; omega
  obtain ⟨els, wat, md, n, cap, fE, kd, wh, fi, se, lo, hi, fr, rg, xr, dc, ad, sa, stt, G, N, T, Qp, J, X, t, eb, hcw, hD, hcap, hw, hDm, hsep, htie⟩ := hv
  have htie0 := htie
  obtain ⟨hrcJ, hdcN⟩ := htie.rcJ
  obtain ⟨h12, h24, hwt, hw0, hV, hT, hfr, hrg, hxr, her, hrc, htm, hJ7, hQP, hGJ, hst, hXs⟩ := htie
  have hdc24 : ∀ j, j < n → dc j ≤ 24 := fun j hj => Nat.le_trans (hdcN j hj) h24
  by_cases hc : ¬ f_M_mayMake wat n = 0 ∧ ¬ f_M_isPastInterval (xs (i + 1)) (xs (i + 2)) = 0 ∧ (∃ k, k < n ∧ (xs (i + 3)) = nI k) ∧ (∃ k, k < n ∧ (xs (i + 4)) = nI k)
  · obtain ⟨k, hkn, ex3⟩ := hc.2.2.1
    obtain ⟨k2, hk2n, ex4⟩ := hc.2.2.2
    have hyes := hc.1
    have hwz := may_w hyes
    have hn12 : n < 12 := hmay (by omega) hyes
    have hlt := lw_lt hcw hD hC hzH
    have hw0m := hw
    obtain ⟨H0, hH0⟩ : ∃ H0, H0 = H := ⟨_, rfl⟩
    refine lv_aload_n S.1 S.2.1 d_Law_law_380 rfl (lv_at hl 2 rfl) ?_
    refine lv_aload_n S.1 S.2.1 d_Law_law_381 rfl (lv_at hl 3 rfl) ?_
    refine lv_iload_n S.1 S.2.1 d_Law_law_382 rfl (lv_at hl 0 rfl) ?_
    refine lv_iconst (v := 1) S.1 S.2.1 d_Law_law_383 (by decide) ?_
    refine lv_iadd S.1 S.2.1 d_Law_law_384 ?_
    refine tpi (y := nI (i + 1)) (nI_add i 1) ?_
    refine s_ld (j := i + 1) S hX hbl hbA hS (by omega) hL d_Law_law_385 ?_
    refine lv_aload_n S.1 S.2.1 d_Law_law_386 rfl (lv_at hl 3 rfl) ?_
    refine lv_iload_n S.1 S.2.1 d_Law_law_387 rfl (lv_at hl 0 rfl) ?_
    refine lv_iconst (v := 2) S.1 S.2.1 d_Law_law_388 (by decide) ?_
    refine lv_iadd S.1 S.2.1 d_Law_law_389 ?_
    refine tpi (y := nI (i + 2)) (nI_add i 2) ?_
    refine s_ld (j := i + 2) S hX hbl hbA hS (by omega) hL d_Law_law_390 ?_
    refine lv_aload_n S.1 S.2.1 d_Law_law_391 rfl (lv_at hl 3 rfl) ?_
    refine lv_iload_n S.1 S.2.1 d_Law_law_392 rfl (lv_at hl 0 rfl) ?_
    refine lv_iconst (v := 3) S.1 S.2.1 d_Law_law_393 (by decide) ?_
    refine lv_iadd S.1 S.2.1 d_Law_law_394 ?_
    refine tpi (y := nI (i + 3)) (nI_add i 3) ?_
    refine s_ld (j := i + 3) S hX hbl hbA hS (by omega) hL d_Law_law_395 ?_
    refine tpi (y := nI k) ex3 ?_
    refine lv_aload_n S.1 S.2.1 d_Law_law_396 rfl (lv_at hl 3 rfl) ?_
    refine lv_iload_n S.1 S.2.1 d_Law_law_397 rfl (lv_at hl 0 rfl) ?_
    refine lv_iconst (v := 4) S.1 S.2.1 d_Law_law_398 (by decide) ?_
    refine lv_iadd S.1 S.2.1 d_Law_law_399 ?_
    refine tpi (y := nI (i + 4)) (nI_add i 4) ?_
    refine s_ld (j := i + 4) S hX hbl hbA hS (by omega) hL d_Law_law_400 ?_
    refine tpi (y := nI k2) ex4 ?_
    refine kw_i (A := (fun q : Nat => kz K ≤ q)) (k_V (rest := []) S (c_M_since_y l (sz := H0.size) hD hV (by rw [hH0]; exact hlt) hyes (cap_case hcap hn12) (xs (i + 1)) (xs (i + 2)) hc.2.1 hkn hk2n) kc_M_since ⟨q_401, q_402, q_403⟩ rfl rfl ⟨Nat.le_of_ble_eq_true rfl, Nat.le_of_ble_eq_true rfl⟩ hC hS hA ⟨by rw [hH0], hcw⟩ ⟨8, _, _, _, rfl, hcw.1⟩ rfl hl.1 rfl (Nat.le_of_ble_eq_true rfl) ⟨(by omega), (by omega)⟩ d_Law_law_401) hS (fun q h => h.elim (fun z => by rw [z]; exact hD.2.1 1 (by omega) (by omega)) (fun z => z.elim (fun z => by rw [z.2]; exact hD.2.2.1 z.1) (fun z => by rw [hH0] at z; exact Nat.le_trans hzH z))) (fun r H locs er hz hkp hS => ?_)
    obtain ⟨er0, els2, cap2, g9, hcw, hcp2, hel2⟩ := er
    have hw := hw.cl hkp (fun j9 hj9 z => z.elim (fun z => hsep _ (ac_fix hD (i := 1) (by omega) (by omega)) ⟨j9, hj9, z.symm⟩) (fun z => z.elim (fun z => hsep _ (ac_els hD z.1) ⟨j9, hj9, z.2.symm⟩) (fun z => by have := mA.lt (q := ma j9) ⟨j9, hj9, rfl⟩ hw; rw [hH0] at z; omega)))
    have hn1 := hcw.2.1.2.2.1
    have hD1 := dst_new (sz := H0.size) hD (by rw [hH0]; exact hlt) (by rw [hH0]; exact hzH) (hel2.imp id (fun z => by omega)) (by omega : 0 < cap2)
    have hsep1 : ∀ q, ac K mon lst els2 lg tm pr (va_up ad n H0.size) (va_up sa n (H0.size + 1)) (n + 1) q → ¬ mA ma q := fun q h z => (ac_new (hel2.imp (fun y => y.1) (fun y => by omega)) h).elim (fun y => hsep q y z) (fun y => by have := mA.lt z hw0m; rw [hH0] at y; omega)
    have hcap1 : capOk cap2 (n + 1) := by unfold capOk at hcap ⊢; omega
    subst er0
    refine lv_aload_n S.1 S.2.1 d_Law_law_404 rfl (lv_at hl 1 rfl) ?_
    refine lv_aload_n S.1 S.2.1 d_Law_law_405 rfl (lv_at hl 3 rfl) ?_
    refine lv_iload_n S.1 S.2.1 d_Law_law_406 rfl (lv_at hl 0 rfl) ?_
    refine lv_iconst (v := 1) S.1 S.2.1 d_Law_law_407 (by decide) ?_
    refine lv_iadd S.1 S.2.1 d_Law_law_408 ?_
    refine tpi (y := nI (i + 1)) (nI_add i 1) ?_
    refine s_ld (j := i + 1) S hX hbl hbA hS (by omega) hL d_Law_law_409 ?_
    refine lv_aload_n S.1 S.2.1 d_Law_law_410 rfl (lv_at hl 3 rfl) ?_
    refine lv_iload_n S.1 S.2.1 d_Law_law_411 rfl (lv_at hl 0 rfl) ?_
    refine lv_iconst (v := 2) S.1 S.2.1 d_Law_law_412 (by decide) ?_
    refine lv_iadd S.1 S.2.1 d_Law_law_413 ?_
    refine tpi (y := nI (i + 2)) (nI_add i 2) ?_
    refine s_ld (j := i + 2) S hX hbl hbA hS (by omega) hL d_Law_law_414 ?_
    refine lv_aload_n S.1 S.2.1 d_Law_law_415 rfl (lv_at hl 3 rfl) ?_
    refine lv_iload_n S.1 S.2.1 d_Law_law_416 rfl (lv_at hl 0 rfl) ?_
    refine lv_iconst (v := 3) S.1 S.2.1 d_Law_law_417 (by decide) ?_
    refine lv_iadd S.1 S.2.1 d_Law_law_418 ?_
    refine tpi (y := nI (i + 3)) (nI_add i 3) ?_
    refine s_ld (j := i + 3) S hX hbl hbA hS (by omega) hL d_Law_law_419 ?_
    refine tpi (y := nI k) ex3 ?_
    refine lv_aload_n S.1 S.2.1 d_Law_law_420 rfl (lv_at hl 3 rfl) ?_
    refine lv_iload_n S.1 S.2.1 d_Law_law_421 rfl (lv_at hl 0 rfl) ?_
    refine lv_iconst (v := 4) S.1 S.2.1 d_Law_law_422 (by decide) ?_
    refine lv_iadd S.1 S.2.1 d_Law_law_423 ?_
    refine tpi (y := nI (i + 4)) (nI_add i 4) ?_
    refine s_ld (j := i + 4) S hX hbl hbA hS (by omega) hL d_Law_law_424 ?_
    refine tpi (y := nI k2) ex4 ?_
    refine kw_i (A := (fun q : Nat => kz K ≤ q)) (k_V (rest := [.int (nI n)]) S (c_R_since l hDm (xs (i + 1)) (xs (i + 2)) (nI k) (nI k2) (by omega)) kc_R_since ⟨q_793, q_794, q_795⟩ rfl rfl ⟨Nat.le_of_ble_eq_true rfl, Nat.le_of_ble_eq_true rfl⟩ hC hS hA hw ⟨11, _, _, _, rfl, hw.1⟩ rfl hl.1 rfl (Nat.le_of_ble_eq_true rfl) ⟨(by omega), (by omega)⟩ d_Law_law_425) hS (fun q h => by obtain ⟨j9, hj9, rfl⟩ := h; exact hDm.2 j9 hj9) (fun r H locs er hz hkp hS => ?_)
    have er1 := er
    obtain ⟨er0, J1, hmk, hw⟩ := er1.1 ⟨hyes, pst_iff.mp hc.2.1, isF_y (by omega) hkn, isF_y (by omega) hk2n⟩
    have hD := hD1
    have hsep := hsep1
    have hcap := hcap1
    have hcw := hcw.cl hD hkp hsep
    subst er0
    refine lv_icmp_eq (tgt := 761) S.1 S.2.1 d_Law_law_428 (by decide) (fun _ => ?_) (fun hx9 => absurd rfl hx9)
    exact W.widen (k := cells + 3) (n := slots + 48) (by omega) (by omega) (kk _ _ ⟨els2, wat, md + 1, n + 1, cap2, g9, (va_up kd n _), (va_up wh n _), (va_up fi n _), (va_up se n _), (va_up lo n _), (va_up hi n _), (va_up fr n _), (va_up rg n _), (va_up xr n _), (va_up dc n 0), (va_up ad n H0.size), (va_up sa n (H0.size + 1)), (va_up stt n (fun _ => 0)), G, N, T, Qp, J1, X, t, _, hcw, hD, hcap, hw, hDm, hsep, htie0.new (kd0 := 8) (wh0 := 0) (fi0 := k) (se0 := k2) hwz hn12 ⟨by omega, by omega, fun h => absurd h (by omega), fun _ => ⟨hkn, hk2n⟩, fun h => absurd h (by omega), fun h => absurd h (by omega)⟩ rfl rfl (xr2 (hxr k hkn) (hxr k2 hk2n)) hmk⟩ hS)
  · skip
    refine lv_aload_n S.1 S.2.1 d_Law_law_380 rfl (lv_at hl 2 rfl) ?_
    refine lv_aload_n S.1 S.2.1 d_Law_law_381 rfl (lv_at hl 3 rfl) ?_
    refine lv_iload_n S.1 S.2.1 d_Law_law_382 rfl (lv_at hl 0 rfl) ?_
    refine lv_iconst (v := 1) S.1 S.2.1 d_Law_law_383 (by decide) ?_
    refine lv_iadd S.1 S.2.1 d_Law_law_384 ?_
    refine tpi (y := nI (i + 1)) (nI_add i 1) ?_
    refine s_ld (j := i + 1) S hX hbl hbA hS (by omega) hL d_Law_law_385 ?_
    refine lv_aload_n S.1 S.2.1 d_Law_law_386 rfl (lv_at hl 3 rfl) ?_
    refine lv_iload_n S.1 S.2.1 d_Law_law_387 rfl (lv_at hl 0 rfl) ?_
    refine lv_iconst (v := 2) S.1 S.2.1 d_Law_law_388 (by decide) ?_
    refine lv_iadd S.1 S.2.1 d_Law_law_389 ?_
    refine tpi (y := nI (i + 2)) (nI_add i 2) ?_
    refine s_ld (j := i + 2) S hX hbl hbA hS (by omega) hL d_Law_law_390 ?_
    refine lv_aload_n S.1 S.2.1 d_Law_law_391 rfl (lv_at hl 3 rfl) ?_
    refine lv_iload_n S.1 S.2.1 d_Law_law_392 rfl (lv_at hl 0 rfl) ?_
    refine lv_iconst (v := 3) S.1 S.2.1 d_Law_law_393 (by decide) ?_
    refine lv_iadd S.1 S.2.1 d_Law_law_394 ?_
    refine tpi (y := nI (i + 3)) (nI_add i 3) ?_
    refine s_ld (j := i + 3) S hX hbl hbA hS (by omega) hL d_Law_law_395 ?_
    refine lv_aload_n S.1 S.2.1 d_Law_law_396 rfl (lv_at hl 3 rfl) ?_
    refine lv_iload_n S.1 S.2.1 d_Law_law_397 rfl (lv_at hl 0 rfl) ?_
    refine lv_iconst (v := 4) S.1 S.2.1 d_Law_law_398 (by decide) ?_
    refine lv_iadd S.1 S.2.1 d_Law_law_399 ?_
    refine tpi (y := nI (i + 4)) (nI_add i 4) ?_
    refine s_ld (j := i + 4) S hX hbl hbA hS (by omega) hL d_Law_law_400 ?_
    refine kVi (rest := []) S (c_M_since_n l (xs (i + 1)) (xs (i + 2)) (xs (i + 3)) (xs (i + 4)) hc) kc_M_since ⟨q_401, q_402, q_403⟩ rfl rfl ⟨Nat.le_of_ble_eq_true rfl, Nat.le_of_ble_eq_true rfl⟩ hC hS hA hcw ⟨8, _, _, _, rfl, hcw.1⟩ ⟨(by omega), (by omega)⟩ hl.1 rfl rfl (Nat.le_of_ble_eq_true rfl) d_Law_law_401 (fun r er => ?_)
    subst er
    refine lv_aload_n S.1 S.2.1 d_Law_law_404 rfl (lv_at hl 1 rfl) ?_
    refine lv_aload_n S.1 S.2.1 d_Law_law_405 rfl (lv_at hl 3 rfl) ?_
    refine lv_iload_n S.1 S.2.1 d_Law_law_406 rfl (lv_at hl 0 rfl) ?_
    refine lv_iconst (v := 1) S.1 S.2.1 d_Law_law_407 (by decide) ?_
    refine lv_iadd S.1 S.2.1 d_Law_law_408 ?_
    refine tpi (y := nI (i + 1)) (nI_add i 1) ?_
    refine s_ld (j := i + 1) S hX hbl hbA hS (by omega) hL d_Law_law_409 ?_
    refine lv_aload_n S.1 S.2.1 d_Law_law_410 rfl (lv_at hl 3 rfl) ?_
    refine lv_iload_n S.1 S.2.1 d_Law_law_411 rfl (lv_at hl 0 rfl) ?_
    refine lv_iconst (v := 2) S.1 S.2.1 d_Law_law_412 (by decide) ?_
    refine lv_iadd S.1 S.2.1 d_Law_law_413 ?_
    refine tpi (y := nI (i + 2)) (nI_add i 2) ?_
    refine s_ld (j := i + 2) S hX hbl hbA hS (by omega) hL d_Law_law_414 ?_
    refine lv_aload_n S.1 S.2.1 d_Law_law_415 rfl (lv_at hl 3 rfl) ?_
    refine lv_iload_n S.1 S.2.1 d_Law_law_416 rfl (lv_at hl 0 rfl) ?_
    refine lv_iconst (v := 3) S.1 S.2.1 d_Law_law_417 (by decide) ?_
    refine lv_iadd S.1 S.2.1 d_Law_law_418 ?_
    refine tpi (y := nI (i + 3)) (nI_add i 3) ?_
    refine s_ld (j := i + 3) S hX hbl hbA hS (by omega) hL d_Law_law_419 ?_
    refine lv_aload_n S.1 S.2.1 d_Law_law_420 rfl (lv_at hl 3 rfl) ?_
    refine lv_iload_n S.1 S.2.1 d_Law_law_421 rfl (lv_at hl 0 rfl) ?_
    refine lv_iconst (v := 4) S.1 S.2.1 d_Law_law_422 (by decide) ?_
    refine lv_iadd S.1 S.2.1 d_Law_law_423 ?_
    refine tpi (y := nI (i + 4)) (nI_add i 4) ?_
    refine s_ld (j := i + 4) S hX hbl hbA hS (by omega) hL d_Law_law_424 ?_
    refine kw_i (A := (fun q : Nat => kz K ≤ q)) (k_V (rest := [.int (-1)]) S (c_R_since l hDm (xs (i + 1)) (xs (i + 2)) (xs (i + 3)) (xs (i + 4)) (by omega)) kc_R_since ⟨q_793, q_794, q_795⟩ rfl rfl ⟨Nat.le_of_ble_eq_true rfl, Nat.le_of_ble_eq_true rfl⟩ hC hS hA hw ⟨11, _, _, _, rfl, hw.1⟩ rfl hl.1 rfl (Nat.le_of_ble_eq_true rfl) ⟨(by omega), (by omega)⟩ d_Law_law_425) hS (fun q h => by obtain ⟨j9, hj9, rfl⟩ := h; exact hDm.2 j9 hj9) (fun r H locs er hz hkp hS => ?_)
    have er1 := er
    obtain ⟨er0, hw⟩ := er1.2 (fun z => hc ⟨z.1, pst_iff.mpr z.2.1, (frm_iff (by omega : n < 2147483648)).mpr z.2.2.1, (frm_iff (by omega : n < 2147483648)).mpr z.2.2.2⟩)
    have hcw := hcw.cl hD hkp hsep
    subst er0
    refine lv_icmp_eq (tgt := 761) S.1 S.2.1 d_Law_law_428 (by decide) (fun _ => ?_) (fun hx9 => absurd rfl hx9)
    exact W.widen (k := cells + 3) (n := slots + 48) (by omega) (by omega) (kk _ _ ⟨els, wat, md, n, cap, fE, kd, wh, fi, se, lo, hi, fr, rg, xr, dc, ad, sa, stt, G, N, T, Qp, J, X, t, eb, hcw, hD, hcap, hw, hDm, hsep, htie0⟩ hS)
set_option maxHeartbeats 4000000 in
set_option maxRecDepth 100000 in
theorem law_7 (l : Launch) (S : CallFix p m c code 4 s #[Value.ref b] WALL "MetricLogMonitorLaw") (hC : CX K s) (hkz : kz K = s.heap.size) (hX : va_X b L xs s s.heap) (hbl : b < s.heap.size) (hL : L ≤ 2560) (hiL : i + 5 ≤ L) (hcc : cells + 3 ≤ room_1.cells) (hss : slots + 48 ≤ room_1.slots) (hv : inv K mon lst lg tm pr ma H) (hS : va_S (fun q : Nat => kz K ≤ q) s.heap H locs) (hl : lv_has ls 4 [(3, .int (nI i)), (2, .ref (ma 0)), (1, .ref mon), (0, .ref b)])
    (kk : ∀ (H' : Heap) (locs' : List Loc), inv K mon lst lg tm pr ma H' → va_S (fun q : Nat => kz K ≤ q) s.heap H' locs' → W p l e room_1 s m #[Value.ref b] below meth c H' locs' (cells + 3) (slots + 48) Q (F0 m 761 ls [])) : W p l e room_1 s m #[Value.ref b] below meth c H locs cells slots Q (F0 m 433 ls []) := by
  have hbA : ¬ (fun q : Nat => kz K ≤ q) b := fun z => absurd (show kz K ≤ b from z) (by omega)
  have hA : ∀ q, (fun q : Nat => kz K ≤ q) q → kz K ≤ q := fun _ h => h
  have hzH : kz K ≤ H.size := by have := hS.1; omega
  obtain ⟨els, wat, md, n, cap, fE, kd, wh, fi, se, lo, hi, fr, rg, xr, dc, ad, sa, stt, G, N, T, Qp, J, X, t, eb, hcw, hD, hcap, hw, hDm, hsep, htie⟩ := hv
  have htie0 := htie
  obtain ⟨hrcJ, hdcN⟩ := htie.rcJ
  obtain ⟨h12, h24, hwt, hw0, hV, hT, hfr, hrg, hxr, her, hrc, htm, hJ7, hQP, hGJ, hst, hXs⟩ := htie
  have hdc24 : ∀ j, j < n → dc j ≤ 24 := fun j hj => Nat.le_trans (hdcN j hj) h24
  by_cases hc : ¬ f_M_mayMake wat n = 0 ∧ ¬ f_M_isInterval (xs (i + 1)) (xs (i + 2)) = 0 ∧ (∃ k, k < n ∧ (xs (i + 3)) = nI k) ∧ (∃ k, k < n ∧ (xs (i + 4)) = nI k)
  · obtain ⟨k, hkn, ex3⟩ := hc.2.2.1
    obtain ⟨k2, hk2n, ex4⟩ := hc.2.2.2
    have hyes := hc.1
    have hwz := may_w hyes
    have hn12 : n < 12 := hmay (by omega) hyes
    have hlt := lw_lt hcw hD hC hzH
    have hw0m := hw
    obtain ⟨H0, hH0⟩ : ∃ H0, H0 = H := ⟨_, rfl⟩
    refine lv_aload_n S.1 S.2.1 d_Law_law_433 rfl (lv_at hl 2 rfl) ?_
    refine lv_aload_n S.1 S.2.1 d_Law_law_434 rfl (lv_at hl 3 rfl) ?_
    refine lv_iload_n S.1 S.2.1 d_Law_law_435 rfl (lv_at hl 0 rfl) ?_
    refine lv_iconst (v := 1) S.1 S.2.1 d_Law_law_436 (by decide) ?_
    refine lv_iadd S.1 S.2.1 d_Law_law_437 ?_
    refine tpi (y := nI (i + 1)) (nI_add i 1) ?_
    refine s_ld (j := i + 1) S hX hbl hbA hS (by omega) hL d_Law_law_438 ?_
    refine lv_aload_n S.1 S.2.1 d_Law_law_439 rfl (lv_at hl 3 rfl) ?_
    refine lv_iload_n S.1 S.2.1 d_Law_law_440 rfl (lv_at hl 0 rfl) ?_
    refine lv_iconst (v := 2) S.1 S.2.1 d_Law_law_441 (by decide) ?_
    refine lv_iadd S.1 S.2.1 d_Law_law_442 ?_
    refine tpi (y := nI (i + 2)) (nI_add i 2) ?_
    refine s_ld (j := i + 2) S hX hbl hbA hS (by omega) hL d_Law_law_443 ?_
    refine lv_aload_n S.1 S.2.1 d_Law_law_444 rfl (lv_at hl 3 rfl) ?_
    refine lv_iload_n S.1 S.2.1 d_Law_law_445 rfl (lv_at hl 0 rfl) ?_
    refine lv_iconst (v := 3) S.1 S.2.1 d_Law_law_446 (by decide) ?_
    refine lv_iadd S.1 S.2.1 d_Law_law_447 ?_
    refine tpi (y := nI (i + 3)) (nI_add i 3) ?_
    refine s_ld (j := i + 3) S hX hbl hbA hS (by omega) hL d_Law_law_448 ?_
    refine tpi (y := nI k) ex3 ?_
    refine lv_aload_n S.1 S.2.1 d_Law_law_449 rfl (lv_at hl 3 rfl) ?_
    refine lv_iload_n S.1 S.2.1 d_Law_law_450 rfl (lv_at hl 0 rfl) ?_
    refine lv_iconst (v := 4) S.1 S.2.1 d_Law_law_451 (by decide) ?_
    refine lv_iadd S.1 S.2.1 d_Law_law_452 ?_
    refine tpi (y := nI (i + 4)) (nI_add i 4) ?_
    refine s_ld (j := i + 4) S hX hbl hbA hS (by omega) hL d_Law_law_453 ?_
    refine tpi (y := nI k2) ex4 ?_
    refine kw_i (A := (fun q : Nat => kz K ≤ q)) (k_V (rest := []) S (c_M_until_y l (sz := H0.size) hD hV (by rw [hH0]; exact hlt) hyes (cap_case hcap hn12) (xs (i + 1)) (xs (i + 2)) hc.2.1 hkn hk2n) kc_M_until ⟨q_429, q_430, q_431⟩ rfl rfl ⟨Nat.le_of_ble_eq_true rfl, Nat.le_of_ble_eq_true rfl⟩ hC hS hA ⟨by rw [hH0], hcw⟩ ⟨8, _, _, _, rfl, hcw.1⟩ rfl hl.1 rfl (Nat.le_of_ble_eq_true rfl) ⟨(by omega), (by omega)⟩ d_Law_law_454) hS (fun q h => h.elim (fun z => by rw [z]; exact hD.2.1 1 (by omega) (by omega)) (fun z => z.elim (fun z => by rw [z.2]; exact hD.2.2.1 z.1) (fun z => by rw [hH0] at z; exact Nat.le_trans hzH z))) (fun r H locs er hz hkp hS => ?_)
    obtain ⟨er0, els2, cap2, g9, hcw, hcp2, hel2⟩ := er
    have hw := hw.cl hkp (fun j9 hj9 z => z.elim (fun z => hsep _ (ac_fix hD (i := 1) (by omega) (by omega)) ⟨j9, hj9, z.symm⟩) (fun z => z.elim (fun z => hsep _ (ac_els hD z.1) ⟨j9, hj9, z.2.symm⟩) (fun z => by have := mA.lt (q := ma j9) ⟨j9, hj9, rfl⟩ hw; rw [hH0] at z; omega)))
    have hn1 := hcw.2.1.2.2.1
    have hD1 := dst_new (sz := H0.size) hD (by rw [hH0]; exact hlt) (by rw [hH0]; exact hzH) (hel2.imp id (fun z => by omega)) (by omega : 0 < cap2)
    have hsep1 : ∀ q, ac K mon lst els2 lg tm pr (va_up ad n H0.size) (va_up sa n (H0.size + 1)) (n + 1) q → ¬ mA ma q := fun q h z => (ac_new (hel2.imp (fun y => y.1) (fun y => by omega)) h).elim (fun y => hsep q y z) (fun y => by have := mA.lt z hw0m; rw [hH0] at y; omega)
    have hcap1 : capOk cap2 (n + 1) := by unfold capOk at hcap ⊢; omega
    subst er0
    refine lv_aload_n S.1 S.2.1 d_Law_law_457 rfl (lv_at hl 1 rfl) ?_
    refine lv_aload_n S.1 S.2.1 d_Law_law_458 rfl (lv_at hl 3 rfl) ?_
    refine lv_iload_n S.1 S.2.1 d_Law_law_459 rfl (lv_at hl 0 rfl) ?_
    refine lv_iconst (v := 1) S.1 S.2.1 d_Law_law_460 (by decide) ?_
    refine lv_iadd S.1 S.2.1 d_Law_law_461 ?_
    refine tpi (y := nI (i + 1)) (nI_add i 1) ?_
    refine s_ld (j := i + 1) S hX hbl hbA hS (by omega) hL d_Law_law_462 ?_
    refine lv_aload_n S.1 S.2.1 d_Law_law_463 rfl (lv_at hl 3 rfl) ?_
    refine lv_iload_n S.1 S.2.1 d_Law_law_464 rfl (lv_at hl 0 rfl) ?_
    refine lv_iconst (v := 2) S.1 S.2.1 d_Law_law_465 (by decide) ?_
    refine lv_iadd S.1 S.2.1 d_Law_law_466 ?_
    refine tpi (y := nI (i + 2)) (nI_add i 2) ?_
    refine s_ld (j := i + 2) S hX hbl hbA hS (by omega) hL d_Law_law_467 ?_
    refine lv_aload_n S.1 S.2.1 d_Law_law_468 rfl (lv_at hl 3 rfl) ?_
    refine lv_iload_n S.1 S.2.1 d_Law_law_469 rfl (lv_at hl 0 rfl) ?_
    refine lv_iconst (v := 3) S.1 S.2.1 d_Law_law_470 (by decide) ?_
    refine lv_iadd S.1 S.2.1 d_Law_law_471 ?_
    refine tpi (y := nI (i + 3)) (nI_add i 3) ?_
    refine s_ld (j := i + 3) S hX hbl hbA hS (by omega) hL d_Law_law_472 ?_
    refine tpi (y := nI k) ex3 ?_
    refine lv_aload_n S.1 S.2.1 d_Law_law_473 rfl (lv_at hl 3 rfl) ?_
    refine lv_iload_n S.1 S.2.1 d_Law_law_474 rfl (lv_at hl 0 rfl) ?_
    refine lv_iconst (v := 4) S.1 S.2.1 d_Law_law_475 (by decide) ?_
    refine lv_iadd S.1 S.2.1 d_Law_law_476 ?_
    refine tpi (y := nI (i + 4)) (nI_add i 4) ?_
    refine s_ld (j := i + 4) S hX hbl hbA hS (by omega) hL d_Law_law_477 ?_
    refine tpi (y := nI k2) ex4 ?_
    refine kw_i (A := (fun q : Nat => kz K ≤ q)) (k_V (rest := [.int (nI n)]) S (c_R_until l hDm (xs (i + 1)) (xs (i + 2)) (nI k) (nI k2) (by omega)) kc_R_until ⟨q_797, q_798, q_799⟩ rfl rfl ⟨Nat.le_of_ble_eq_true rfl, Nat.le_of_ble_eq_true rfl⟩ hC hS hA hw ⟨11, _, _, _, rfl, hw.1⟩ rfl hl.1 rfl (Nat.le_of_ble_eq_true rfl) ⟨(by omega), (by omega)⟩ d_Law_law_478) hS (fun q h => by obtain ⟨j9, hj9, rfl⟩ := h; exact hDm.2 j9 hj9) (fun r H locs er hz hkp hS => ?_)
    have er1 := er
    obtain ⟨er0, J1, hmk, hw⟩ := er1.1 ⟨hyes, ivl_iff.mp hc.2.1, isF_y (by omega) hkn, isF_y (by omega) hk2n⟩
    have hD := hD1
    have hsep := hsep1
    have hcap := hcap1
    have hcw := hcw.cl hD hkp hsep
    subst er0
    refine lv_icmp_eq (tgt := 761) S.1 S.2.1 d_Law_law_481 (by decide) (fun _ => ?_) (fun hx9 => absurd rfl hx9)
    exact W.widen (k := cells + 3) (n := slots + 48) (by omega) (by omega) (kk _ _ ⟨els2, wat, md + 1, n + 1, cap2, g9, (va_up kd n _), (va_up wh n _), (va_up fi n _), (va_up se n _), (va_up lo n _), (va_up hi n _), (va_up fr n _), (va_up rg n _), (va_up xr n _), (va_up dc n 0), (va_up ad n H0.size), (va_up sa n (H0.size + 1)), (va_up stt n (fun _ => 0)), G, N, T, Qp, J1, X, t, _, hcw, hD, hcap, hw, hDm, hsep, htie0.new (kd0 := 9) (wh0 := 0) (fi0 := k) (se0 := k2) hwz hn12 ⟨by omega, by omega, fun h => absurd h (by omega), fun _ => ⟨hkn, hk2n⟩, fun h => absurd h (by omega), fun _ => ivl_hi hc.2.1⟩ rfl rfl (xr2 (hxr k hkn) (hxr k2 hk2n)) hmk⟩ hS)
  · skip
    refine lv_aload_n S.1 S.2.1 d_Law_law_433 rfl (lv_at hl 2 rfl) ?_
    refine lv_aload_n S.1 S.2.1 d_Law_law_434 rfl (lv_at hl 3 rfl) ?_
    refine lv_iload_n S.1 S.2.1 d_Law_law_435 rfl (lv_at hl 0 rfl) ?_
    refine lv_iconst (v := 1) S.1 S.2.1 d_Law_law_436 (by decide) ?_
    refine lv_iadd S.1 S.2.1 d_Law_law_437 ?_
    refine tpi (y := nI (i + 1)) (nI_add i 1) ?_
    refine s_ld (j := i + 1) S hX hbl hbA hS (by omega) hL d_Law_law_438 ?_
    refine lv_aload_n S.1 S.2.1 d_Law_law_439 rfl (lv_at hl 3 rfl) ?_
    refine lv_iload_n S.1 S.2.1 d_Law_law_440 rfl (lv_at hl 0 rfl) ?_
    refine lv_iconst (v := 2) S.1 S.2.1 d_Law_law_441 (by decide) ?_
    refine lv_iadd S.1 S.2.1 d_Law_law_442 ?_
    refine tpi (y := nI (i + 2)) (nI_add i 2) ?_
    refine s_ld (j := i + 2) S hX hbl hbA hS (by omega) hL d_Law_law_443 ?_
    refine lv_aload_n S.1 S.2.1 d_Law_law_444 rfl (lv_at hl 3 rfl) ?_
    refine lv_iload_n S.1 S.2.1 d_Law_law_445 rfl (lv_at hl 0 rfl) ?_
    refine lv_iconst (v := 3) S.1 S.2.1 d_Law_law_446 (by decide) ?_
    refine lv_iadd S.1 S.2.1 d_Law_law_447 ?_
    refine tpi (y := nI (i + 3)) (nI_add i 3) ?_
    refine s_ld (j := i + 3) S hX hbl hbA hS (by omega) hL d_Law_law_448 ?_
    refine lv_aload_n S.1 S.2.1 d_Law_law_449 rfl (lv_at hl 3 rfl) ?_
    refine lv_iload_n S.1 S.2.1 d_Law_law_450 rfl (lv_at hl 0 rfl) ?_
    refine lv_iconst (v := 4) S.1 S.2.1 d_Law_law_451 (by decide) ?_
    refine lv_iadd S.1 S.2.1 d_Law_law_452 ?_
    refine tpi (y := nI (i + 4)) (nI_add i 4) ?_
    refine s_ld (j := i + 4) S hX hbl hbA hS (by omega) hL d_Law_law_453 ?_
    refine kVi (rest := []) S (c_M_until_n l (xs (i + 1)) (xs (i + 2)) (xs (i + 3)) (xs (i + 4)) hc) kc_M_until ⟨q_429, q_430, q_431⟩ rfl rfl ⟨Nat.le_of_ble_eq_true rfl, Nat.le_of_ble_eq_true rfl⟩ hC hS hA hcw ⟨8, _, _, _, rfl, hcw.1⟩ ⟨(by omega), (by omega)⟩ hl.1 rfl rfl (Nat.le_of_ble_eq_true rfl) d_Law_law_454 (fun r er => ?_)
    subst er
    refine lv_aload_n S.1 S.2.1 d_Law_law_457 rfl (lv_at hl 1 rfl) ?_
    refine lv_aload_n S.1 S.2.1 d_Law_law_458 rfl (lv_at hl 3 rfl) ?_
    refine lv_iload_n S.1 S.2.1 d_Law_law_459 rfl (lv_at hl 0 rfl) ?_
    refine lv_iconst (v := 1) S.1 S.2.1 d_Law_law_460 (by decide) ?_
    refine lv_iadd S.1 S.2.1 d_Law_law_461 ?_
    refine tpi (y := nI (i + 1)) (nI_add i 1) ?_
    refine s_ld (j := i + 1) S hX hbl hbA hS (by omega) hL d_Law_law_462 ?_
    refine lv_aload_n S.1 S.2.1 d_Law_law_463 rfl (lv_at hl 3 rfl) ?_
    refine lv_iload_n S.1 S.2.1 d_Law_law_464 rfl (lv_at hl 0 rfl) ?_
    refine lv_iconst (v := 2) S.1 S.2.1 d_Law_law_465 (by decide) ?_
    refine lv_iadd S.1 S.2.1 d_Law_law_466 ?_
    refine tpi (y := nI (i + 2)) (nI_add i 2) ?_
    refine s_ld (j := i + 2) S hX hbl hbA hS (by omega) hL d_Law_law_467 ?_
    refine lv_aload_n S.1 S.2.1 d_Law_law_468 rfl (lv_at hl 3 rfl) ?_
    refine lv_iload_n S.1 S.2.1 d_Law_law_469 rfl (lv_at hl 0 rfl) ?_
    refine lv_iconst (v := 3) S.1 S.2.1 d_Law_law_470 (by decide) ?_
    refine lv_iadd S.1 S.2.1 d_Law_law_471 ?_
    refine tpi (y := nI (i + 3)) (nI_add i 3) ?_
    refine s_ld (j := i + 3) S hX hbl hbA hS (by omega) hL d_Law_law_472 ?_
    refine lv_aload_n S.1 S.2.1 d_Law_law_473 rfl (lv_at hl 3 rfl) ?_
    refine lv_iload_n S.1 S.2.1 d_Law_law_474 rfl (lv_at hl 0 rfl) ?_
    refine lv_iconst (v := 4) S.1 S.2.1 d_Law_law_475 (by decide) ?_
    refine lv_iadd S.1 S.2.1 d_Law_law_476 ?_
    refine tpi (y := nI (i + 4)) (nI_add i 4) ?_
    refine s_ld (j := i + 4) S hX hbl hbA hS (by omega) hL d_Law_law_477 ?_
    refine kw_i (A := (fun q : Nat => kz K ≤ q)) (k_V (rest := [.int (-1)]) S (c_R_until l hDm (xs (i + 1)) (xs (i + 2)) (xs (i + 3)) (xs (i + 4)) (by omega)) kc_R_until ⟨q_797, q_798, q_799⟩ rfl rfl ⟨Nat.le_of_ble_eq_true rfl, Nat.le_of_ble_eq_true rfl⟩ hC hS hA hw ⟨11, _, _, _, rfl, hw.1⟩ rfl hl.1 rfl (Nat.le_of_ble_eq_true rfl) ⟨(by omega), (by omega)⟩ d_Law_law_478) hS (fun q h => by obtain ⟨j9, hj9, rfl⟩ := h; exact hDm.2 j9 hj9) (fun r H locs er hz hkp hS => ?_)
    have er1 := er
    obtain ⟨er0, hw⟩ := er1.2 (fun z => hc ⟨z.1, ivl_iff.mpr z.2.1, (frm_iff (by omega : n < 2147483648)).mpr z.2.2.1, (frm_iff (by omega : n < 2147483648)).mpr z.2.2.2⟩)
    have hcw := hcw.cl hD hkp hsep
    subst er0
    refine lv_icmp_eq (tgt := 761) S.1 S.2.1 d_Law_law_481 (by decide) (fun _ => ?_) (fun hx9 => absurd rfl hx9)
    exact W.widen (k := cells + 3) (n := slots + 48) (by omega) (by omega) (kk _ _ ⟨els, wat, md, n, cap, fE, kd, wh, fi, se, lo, hi, fr, rg, xr, dc, ad, sa, stt, G, N, T, Qp, J, X, t, eb, hcw, hD, hcap, hw, hDm, hsep, htie0⟩ hS)
end
