/-! the class's world when one cell, or one formula, changes; the step of place -/
section
variable {K : KT} {mon lst els lg tm pr : Nat} {wat wat' md md' : Int32} {n cap : Nat} {fE : Nat → Option Nat} {kd wh fi se : Nat → Nat} {lo hi fr rg er : Nat → Int32} {dc dc' ad sa : Nat → Nat} {stt stt' : Nat → Nat → Int64} {G G' : Int64} {N N' : Nat} {T T' P : Nat → Int32} {Qp Qp' : Nat → Int64} {H H1 : Heap} {A1 : Nat → Prop} {k : Nat}
theorem fo_up (h : dc' k = dc k) : fo kd wh fi se lo hi fr rg er dc' ad sa k = fo kd wh fi se lo hi fr rg er dc ad sa k := by
  unfold fo
  rw [h]
theorem lsOk.kept (h : lsOk K lst els md n cap fE ad H) (hk : ∀ x : Nat, x < H.size → ¬ A1 x → H1[x]? = H[x]?) (h1 : ¬ A1 lst) (h2 : 0 < cap → ¬ A1 els) (h3 : ∀ k, k < n → ∃ (c : Nat) (fs : List Value), c < 8 ∧ va_at K.1 classes (ad k, .inr (c, fs)) H1) : lsOk K lst els md n cap fE ad H1 :=
  ⟨h.1.cl hk h1, h.2.1, h.2.2.1, fun hc => (h.2.2.2.1 hc).cl hk (h2 hc), fun k hkn => ⟨(h.2.2.2.2 k hkn).1, h3 k hkn⟩⟩
theorem fm_ex (h : fmk K kd wh fi se lo hi fr rg er dc ad sa stt H k) : ∃ (c : Nat) (fs : List Value), c < 8 ∧ va_at K.1 classes (ad k, .inr (c, fs)) H := ⟨_, _, cx_lt (kd k), h.1⟩
theorem cw_form (h : cw K mon lst els lg tm pr wat md n cap fE kd wh fi se lo hi fr rg er dc ad sa stt G N T Qp H) (hD : dst K mon lst els lg tm pr ad sa n cap) (hk : k < n) (ho : va_at K.1 classes (ad k, fo kd wh fi se lo hi fr rg er dc' ad sa k) H1) (hs : va_at K.1 classes (sa k, .inl (kJ K, 24, .inr (.inl (stt' k)))) H1)
    (hkp : ∀ q : Nat, q < H.size → ¬ (q = ad k ∨ q = sa k) → H1[q]? = H[q]?) (hdc : ∀ j, j ≠ k → dc' j = dc j) (hst : ∀ j, j ≠ k → stt' j = stt j) : cw K mon lst els lg tm pr wat md n cap fE kd wh fi se lo hi fr rg er dc' ad sa stt' G N T Qp H1 := by
  obtain ⟨hm, hls, hg, ht, hq, hfm⟩ := h
  have fx : ∀ i, i < 6 → ¬ (ca mon lst els lg tm pr ad sa i = ad k ∨ ca mon lst els lg tm pr ad sa i = sa k) := fun i hi z => z.elim (hD.fad hi hk) (hD.fsa hi hk)
  have hfm' : ∀ j, j < n → fmk K kd wh fi se lo hi fr rg er dc' ad sa stt' H1 j := by
    intro j hj
    by_cases e : j = k
    · subst e; exact ⟨ho, hs⟩
    · obtain ⟨a1, a2⟩ := hfm j hj
      refine ⟨?_, ?_⟩
      · rw [fo_up (hdc j e)]
        exact a1.cl (A1 := fun q => q = ad k ∨ q = sa k) hkp (fun z => z.elim (hD.aa hj hk e) (hD.as hj hk))
      · rw [hst j e]
        exact a2.cl (A1 := fun q => q = ad k ∨ q = sa k) hkp (fun z => z.elim (fun e2 => hD.as hk hj e2.symm) (hD.ss hj hk e))
  exact ⟨hm.cl (A1 := fun q => q = ad k ∨ q = sa k) hkp (fx 0 (by omega)), hls.kept (A1 := fun q => q = ad k ∨ q = sa k) hkp (fx 1 (by omega)) (fun _ => fx 2 (by omega)) (fun j hj => fm_ex (hfm' j hj)), hg.cl (A1 := fun q => q = ad k ∨ q = sa k) hkp (fx 3 (by omega)), ht.cl (A1 := fun q => q = ad k ∨ q = sa k) hkp (fx 4 (by omega)), hq.cl (A1 := fun q => q = ad k ∨ q = sa k) hkp (fx 5 (by omega)), hfm'⟩
/-- the log changes -/
theorem cw_log (h : cw K mon lst els lg tm pr wat md n cap fE kd wh fi se lo hi fr rg er dc ad sa stt G N T Qp H) (hD : dst K mon lst els lg tm pr ad sa n cap) (hg : va_at K.1 classes (lg, .inr (9, [.ref tm, .ref pr, .long G', .int (nI N')])) H1) (ht : va_at K.1 classes (tm, .inl (kI K, 24, .inl T')) H1) (hq : va_at K.1 classes (pr, .inl (kJ K, 24, .inr (.inl Qp'))) H1)
    (hkp : ∀ q : Nat, q < H.size → ¬ (q = lg ∨ q = tm ∨ q = pr) → H1[q]? = H[q]?) : cw K mon lst els lg tm pr wat md n cap fE kd wh fi se lo hi fr rg er dc ad sa stt G' N' T' Qp' H1 := by
  obtain ⟨hm, hls, -, -, -, hfm⟩ := h
  have fx : ∀ i, i < 3 → ¬ (ca mon lst els lg tm pr ad sa i = lg ∨ ca mon lst els lg tm pr ad sa i = tm ∨ ca mon lst els lg tm pr ad sa i = pr) := fun i hi z => by
    rcases z with z | z | z
    · exact hD.fix (i := i) (j := 3) (by omega) (by omega) (by omega) z
    · exact hD.fix (i := i) (j := 4) (by omega) (by omega) (by omega) z
    · exact hD.fix (i := i) (j := 5) (by omega) (by omega) (by omega) z
  have fa : ∀ j, j < n → ¬ (ad j = lg ∨ ad j = tm ∨ ad j = pr) := fun j hj z => by
    rcases z with z | z | z
    · exact hD.fad (i := 3) (by omega) hj z.symm
    · exact hD.fad (i := 4) (by omega) hj z.symm
    · exact hD.fad (i := 5) (by omega) hj z.symm
  have fs : ∀ j, j < n → ¬ (sa j = lg ∨ sa j = tm ∨ sa j = pr) := fun j hj z => by
    rcases z with z | z | z
    · exact hD.fsa (i := 3) (by omega) hj z.symm
    · exact hD.fsa (i := 4) (by omega) hj z.symm
    · exact hD.fsa (i := 5) (by omega) hj z.symm
  have hfm' : ∀ j, j < n → fmk K kd wh fi se lo hi fr rg er dc ad sa stt H1 j := fun j hj => ⟨(hfm j hj).1.cl (A1 := fun q => q = lg ∨ q = tm ∨ q = pr) hkp (fa j hj), (hfm j hj).2.cl (A1 := fun q => q = lg ∨ q = tm ∨ q = pr) hkp (fs j hj)⟩
  exact ⟨hm.cl (A1 := fun q => q = lg ∨ q = tm ∨ q = pr) hkp (fx 0 (by omega)), hls.kept (A1 := fun q => q = lg ∨ q = tm ∨ q = pr) hkp (fx 1 (by omega)) (fun _ => fx 2 (by omega)) (fun j hj => fm_ex (hfm' j hj)), hg, ht, hq, hfm'⟩
/-- the monitor's own field changes -/
theorem cw_mon (h : cw K mon lst els lg tm pr wat md n cap fE kd wh fi se lo hi fr rg er dc ad sa stt G N T Qp H) (hD : dst K mon lst els lg tm pr ad sa n cap) (hm : va_at K.1 classes (mon, .inr (8, [.ref lst, .ref lg, .int wat'])) H1) (hkp : ∀ q : Nat, q < H.size → ¬ q = mon → H1[q]? = H[q]?) : cw K mon lst els lg tm pr wat' md n cap fE kd wh fi se lo hi fr rg er dc ad sa stt G N T Qp H1 := by
  obtain ⟨-, hls, hg, ht, hq, hfm⟩ := h
  have fx : ∀ i, i < 6 → i ≠ 0 → ¬ ca mon lst els lg tm pr ad sa i = mon := fun i hi h0 z => hD.fix (i := i) (j := 0) hi (by omega) h0 z
  have hfm' : ∀ j, j < n → fmk K kd wh fi se lo hi fr rg er dc ad sa stt H1 j := fun j hj => ⟨(hfm j hj).1.cl (A1 := fun q => q = mon) hkp (fun z => hD.fad (i := 0) (by omega) hj z.symm), (hfm j hj).2.cl (A1 := fun q => q = mon) hkp (fun z => hD.fsa (i := 0) (by omega) hj z.symm)⟩
  exact ⟨hm, hls.kept (A1 := fun q => q = mon) hkp (fx 1 (by omega) (by omega)) (fun _ => fx 2 (by omega) (by omega)) (fun j hj => fm_ex (hfm' j hj)), hg.cl (A1 := fun q => q = mon) hkp (fx 3 (by omega) (by omega)), ht.cl (A1 := fun q => q = mon) hkp (fx 4 (by omega) (by omega)), hq.cl (A1 := fun q => q = mon) hkp (fx 5 (by omega) (by omega)), hfm'⟩
/-- place, after the formulas below f have advanced -/
def plc (kd wh fi se : Nat → Nat) (lo hi T P : Nat → Int32) (dc : Nat → Nat) (stt : Nat → Nat → Int64) (N n : Nat) (dc' : Nat → Nat) (stt' : Nat → Nat → Int64) (f : Nat) : Prop :=
  (∀ k, k < f → dc' k = rch kd fi se hi T dc' N k) ∧ (∀ k, f ≤ k → dc' k = dc k ∧ stt' k = stt k) ∧ (∀ k, k < f → ∀ i, i < dc k → stt' k i = stt k i) ∧ (∀ k, k < f → ∀ i, dc k ≤ i → i < dc' k → ∀ b, b < 64 → tb (stt' k i) b = sat kd wh fi se lo hi T P (yv dc' stt') N k i b) ∧ ∀ k, k < n → dc' k ≤ 24
theorem plc_0 (h : ∀ k, k < n → dc k ≤ 24) : plc kd wh fi se lo hi T P dc stt N n dc stt 0 := ⟨fun k h => absurd h (by omega), fun _ _ => ⟨rfl, rfl⟩, fun k h => absurd h (by omega), fun k h => absurd h (by omega), h⟩
theorem plc_le (hV : tabOk kd wh fi se lo hi n) {f : Nat} (hf : f < n) (h : plc kd wh fi se lo hi T P dc stt N n dc' stt' f) : rch kd fi se hi T dc' N f ≤ N := by
  have h1 := rch_all hV (by omega : f ≤ n) h.1
  have hv := (hV f hf).2.2.2.1
  exact rch_le dc' f (fun h3 => ⟨h1 _ (hv h3).1, h1 _ (hv h3).2⟩)
theorem plc_s (hV : tabOk kd wh fi se lo hi n) (hN : N ≤ 24) {f : Nat} (hf : f < n) (h : plc kd wh fi se lo hi T P dc stt N n dc' stt' f) {g : Nat → Int64} (g1 : ∀ x, x < dc' f → g x = stt' f x) (g2 : ∀ x, dc' f ≤ x → x < rch kd fi se hi T dc' N f → ∀ b, b < 64 → tb (g x) b = sat kd wh fi se lo hi T P (yv dc' stt') N f x b) :
    plc kd wh fi se lo hi T P dc stt N n (va_up dc' f (rch kd fi se hi T dc' N f)) (va_up stt' f g) (f + 1) := by
  have hle := plc_le hV hf h
  obtain ⟨h1, h2, h3, h4, h5⟩ := h
  obtain ⟨e1, e2⟩ := h2 f (Nat.le_refl f)
  have hp : ∀ k, k ≤ f → 3 ≤ kd k → fi k ≠ f ∧ se k ≠ f := fun k hk h => by
    have := (hV k (by omega)).2.2.2.1 h
    omega
  have hr : ∀ k, k ≤ f → rch kd fi se hi T dc' N k = rch kd fi se hi T (va_up dc' f (rch kd fi se hi T dc' N f)) N k := fun k hk => rch_congr (fun _ _ => rfl) (fun h => (va_up_ne _ _ (hp k hk h).1).symm) (fun h => (va_up_ne _ _ (hp k hk h).2).symm)
  have hs : ∀ k, k ≤ f → ∀ i, i < N → ∀ b, b < 64 → sat kd wh fi se lo hi T P (yv dc' stt') N k i b = sat kd wh fi se lo hi T P (yv (va_up dc' f (rch kd fi se hi T dc' N f)) (va_up stt' f g)) N k i b := fun k hk i hi b hb =>
    sat_congr hb (hV k (by omega)).2.1 hi (fun h j hj x _ => by rw [yv_sv (by omega), yv_sv (by omega), va_up_ne _ _ (hp k hk h).1, va_up_ne _ _ (hp k hk h).1]) (fun h j hj x _ => by rw [yv_sv (by omega), yv_sv (by omega), va_up_ne _ _ (hp k hk h).2, va_up_ne _ _ (hp k hk h).2])
  have hlt := rch_all hV (by omega : f ≤ n) h1
  refine ⟨fun k hk => ?_, fun k hk => ?_, fun k hk i hi => ?_, fun k hk i hi1 hi2 b hb => ?_, fun k hk => ?_⟩
  · rw [← hr k (by omega)]
    by_cases e : k = f
    · subst e; rw [va_up_self]
    · rw [va_up_ne _ _ e]; exact h1 k (by omega)
  · rw [va_up_ne _ _ (by omega), va_up_ne _ _ (by omega)]
    exact h2 k (by omega)
  · by_cases e : k = f
    · subst e
      rw [va_up_self, g1 i (by rw [e1]; exact hi), e2]
    · rw [va_up_ne _ _ e]; exact h3 k (by omega) i hi
  · by_cases e : k = f
    · subst e
      rw [va_up_self] at hi2 ⊢
      rw [g2 i (by rw [e1]; exact hi1) hi2 b hb, hs k (by omega) i (by omega) b hb]
    · rw [va_up_ne _ _ e] at hi2 ⊢
      rw [h4 k (by omega) i hi1 hi2 b hb, hs k (by omega) i (by have := hlt k (by omega); omega) b hb]
  · by_cases e : k = f
    · subst e; rw [va_up_self]; omega
    · rw [va_up_ne _ _ e]; exact h5 k hk
end
