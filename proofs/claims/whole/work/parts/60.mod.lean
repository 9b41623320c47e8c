/-! the reference's world: one object and fourteen arrays (1 kind, 2 which, 3 first, 4 second, 5 low, 6 high, 7 time, 8 pairs, 9 gathered, 10 holds, 11 part, 12 freeSet, 13 rangedSet, 14 reach) -/
def mSz (j : Nat) : Nat := if j = 7 then 24 else if j = 8 then 72 else if j = 9 then 3 else 12
def mKd (K : KT) (j : Nat) : ClassId := if j = 11 then kZ K else kI K
def mO (ma : Nat → Nat) (n : Nat) (wt : Int32) (pl : Nat) : List Value := [.int (nI n), .int wt, .int (nI pl), .ref (ma 1), .ref (ma 2), .ref (ma 3), .ref (ma 4), .ref (ma 5), .ref (ma 6), .ref (ma 7), .ref (ma 8), .ref (ma 9), .ref (ma 10), .ref (ma 11), .ref (ma 12), .ref (ma 13), .ref (ma 14)]
def mW (K : KT) (ma : Nat → Nat) (n : Nat) (wt : Int32) (pl : Nat) (J : Nat → Nat → Int32) (X : Nat → Int64) (H : Heap) : Prop :=
  va_at K.1 classes (ma 0, .inr (11, [.int (nI n), .int wt, .int (nI pl), .ref (ma 1), .ref (ma 2), .ref (ma 3), .ref (ma 4), .ref (ma 5), .ref (ma 6), .ref (ma 7), .ref (ma 8), .ref (ma 9), .ref (ma 10), .ref (ma 11), .ref (ma 12), .ref (ma 13), .ref (ma 14)])) H ∧ (∀ j, 1 ≤ j → j ≤ 14 → j ≠ 10 → va_at K.1 classes (ma j, .inl (mKd K j, mSz j, .inl (J j))) H) ∧ va_at K.1 classes (ma 10, .inl (kJ K, 288, .inr (.inl X))) H
def mD (K : KT) (ma : Nat → Nat) : Prop := (∀ i j, i < 15 → j < 15 → ma i = ma j → i = j) ∧ ∀ i, i < 15 → kz K ≤ ma i
def mA (ma : Nat → Nat) (q : Nat) : Prop := ∃ i, i < 15 ∧ q = ma i
/-- the reference's table, as numbers -/
def mT (kd wh fi se : Nat → Nat) (lo hi : Nat → Int32) (J : Nat → Nat → Int32) (n : Nat) : Prop := ∀ k, k < n → J 1 k = nI (kd k) ∧ J 2 k = nI (wh k) ∧ J 3 k = nI (fi k) ∧ J 4 k = nI (se k) ∧ J 5 k = lo k ∧ J 6 k = hi k
theorem mT.to {kd wh fi se : Nat → Nat} {lo hi : Nat → Int32} {J J1 : Nat → Nat → Int32} {n : Nat} (h : mT kd wh fi se lo hi J n) (e : ∀ p, p ≤ 6 → J1 p = J p) : mT kd wh fi se lo hi J1 n := fun k hk => by
  rw [e 1 (by decide), e 2 (by decide), e 3 (by decide), e 4 (by decide), e 5 (by decide), e 6 (by decide)]
  exact h k hk
theorem mSz_lt (j : Nat) : mSz j < 2147483648 := by
  unfold mSz
  repeat' split
  all_goals decide
theorem sol_ext {α : Type} {kd wh fi se : Nat → Nat} {lo hi : Nat → Int32} {n : Nat} {F : (Nat → α) → Nat → α} (hV : tabOk kd wh fi se lo hi n) (hF : ∀ (f g : Nat → α) (k : Nat), (3 ≤ kd k → f (fi k) = g (fi k)) → (3 ≤ kd k → f (se k) = g (se k)) → F f k = F g k) {k : Nat} (hk : k < n) {g g1 : Nat → α} (h : ∀ j, j < k → g j = F g j) (e : ∀ j, j ≠ k → g1 j = g j) (e2 : g1 k = F g k) : ∀ j, j < k + 1 → g1 j = F g1 j := by
  intro j hj
  have hc : F g1 j = F g j := hF _ _ _ (fun h3 => e _ (by have := ((hV j (by omega)).2.2.2.1 h3).1; omega)) (fun h3 => e _ (by have := ((hV j (by omega)).2.2.2.1 h3).2; omega))
  by_cases hjk : j = k
  · subst hjk; rw [hc]; exact e2
  · rw [hc, e j hjk]; exact h j (by omega)
theorem ix24 (a b : Nat) : (24 : Int32) * nI a + nI b = nI (24 * a + b) := by rw [show (24 : Int32) = nI 24 from rfl, pk_mul, nI_add]
section
variable {p : Program} {l : Launch} {e : Env} {R : Room} {s : State} {m : MethodId} {args : Array Value} {below : List Frame} {meth : Method} {c : Code} {H H1 : Heap} {locs : List Loc} {cells slots : Nat} {Q : State → Prop}
variable {cc : ByteArray} {pc nL : Nat} {ls : Array Slot} {st rest : List Value} {K : KT} {own : String} {H0 : Heap}
variable {ma : Nat → Nat} {n pl : Nat} {wt : Int32} {J : Nat → Nat → Int32} {X : Nat → Int64}
theorem mi_1 (h : mW K ma n wt pl J X H) : va_at K.1 classes (ma 1, .inl (kI K, 12, .inl (J 1))) H := h.2.1 1 (by decide) (by decide) (by decide)
theorem mi_2 (h : mW K ma n wt pl J X H) : va_at K.1 classes (ma 2, .inl (kI K, 12, .inl (J 2))) H := h.2.1 2 (by decide) (by decide) (by decide)
theorem mi_3 (h : mW K ma n wt pl J X H) : va_at K.1 classes (ma 3, .inl (kI K, 12, .inl (J 3))) H := h.2.1 3 (by decide) (by decide) (by decide)
theorem mi_4 (h : mW K ma n wt pl J X H) : va_at K.1 classes (ma 4, .inl (kI K, 12, .inl (J 4))) H := h.2.1 4 (by decide) (by decide) (by decide)
theorem mi_5 (h : mW K ma n wt pl J X H) : va_at K.1 classes (ma 5, .inl (kI K, 12, .inl (J 5))) H := h.2.1 5 (by decide) (by decide) (by decide)
theorem mi_6 (h : mW K ma n wt pl J X H) : va_at K.1 classes (ma 6, .inl (kI K, 12, .inl (J 6))) H := h.2.1 6 (by decide) (by decide) (by decide)
theorem mi_7 (h : mW K ma n wt pl J X H) : va_at K.1 classes (ma 7, .inl (kI K, 24, .inl (J 7))) H := h.2.1 7 (by decide) (by decide) (by decide)
theorem mi_8 (h : mW K ma n wt pl J X H) : va_at K.1 classes (ma 8, .inl (kI K, 72, .inl (J 8))) H := h.2.1 8 (by decide) (by decide) (by decide)
theorem mi_9 (h : mW K ma n wt pl J X H) : va_at K.1 classes (ma 9, .inl (kI K, 3, .inl (J 9))) H := h.2.1 9 (by decide) (by decide) (by decide)
theorem mi_11 (h : mW K ma n wt pl J X H) : va_at K.1 classes (ma 11, .inl (kZ K, 12, .inl (J 11))) H := h.2.1 11 (by decide) (by decide) (by decide)
theorem mi_12 (h : mW K ma n wt pl J X H) : va_at K.1 classes (ma 12, .inl (kI K, 12, .inl (J 12))) H := h.2.1 12 (by decide) (by decide) (by decide)
theorem mi_13 (h : mW K ma n wt pl J X H) : va_at K.1 classes (ma 13, .inl (kI K, 12, .inl (J 13))) H := h.2.1 13 (by decide) (by decide) (by decide)
theorem mi_14 (h : mW K ma n wt pl J X H) : va_at K.1 classes (ma 14, .inl (kI K, 12, .inl (J 14))) H := h.2.1 14 (by decide) (by decide) (by decide)
theorem mi_10 (h : mW K ma n wt pl J X H) : va_at K.1 classes (ma 10, .inl (kJ K, 288, .inr (.inl X))) H := h.2.2
theorem mW.set {j : Nat} {g : Nat → Int32} (h : mW K ma n wt pl J X H) (hD : mD K ma) (h1 : 1 ≤ j) (h14 : j ≤ 14) (h10 : j ≠ 10) (oq : ∀ q : Nat, q ≠ ma j → H1[q]? = H[q]?) (hg : va_at K.1 classes (ma j, .inl (mKd K j, mSz j, .inl g)) H1) : mW K ma n wt pl (va_up J j g) X H1 := by
  refine ⟨h.1.sty oq (fun z => ?_), fun i i1 i2 i3 => ?_, h.2.2.sty oq (fun z => ?_)⟩
  · have := hD.1 0 j (by omega) (by omega) z; omega
  · by_cases e0 : i = j
    · subst e0; rw [va_up_self]; exact hg
    · rw [va_up_ne _ _ e0]
      exact (h.2.1 i i1 i2 i3).sty oq (fun z => e0 (hD.1 i j (by omega) (by omega) z))
  · have := hD.1 10 j (by omega) (by omega) z; omega
theorem mW.setX {g : Nat → Int64} (h : mW K ma n wt pl J X H) (hD : mD K ma) (oq : ∀ q : Nat, q ≠ ma 10 → H1[q]? = H[q]?) (hg : va_at K.1 classes (ma 10, .inl (kJ K, 288, .inr (.inl g))) H1) : mW K ma n wt pl J g H1 := by
  refine ⟨h.1.sty oq (fun z => ?_), fun i i1 i2 i3 => ?_, hg⟩
  · have := hD.1 0 10 (by omega) (by omega) z; omega
  · exact (h.2.1 i i1 i2 i3).sty oq (fun z => i3 (hD.1 i 10 (by omega) (by omega) z))
theorem mW.set0 {n' pl' : Nat} {wt' : Int32} (h : mW K ma n wt pl J X H) (hD : mD K ma) (oq : ∀ q : Nat, q ≠ ma 0 → H1[q]? = H[q]?) (hg : va_at K.1 classes (ma 0, .inr (11, [.int (nI n'), .int wt', .int (nI pl'), .ref (ma 1), .ref (ma 2), .ref (ma 3), .ref (ma 4), .ref (ma 5), .ref (ma 6), .ref (ma 7), .ref (ma 8), .ref (ma 9), .ref (ma 10), .ref (ma 11), .ref (ma 12), .ref (ma 13), .ref (ma 14)])) H1) : mW K ma n' wt' pl' J X H1 := by
  refine ⟨hg, fun i i1 i2 i3 => ?_, h.2.2.sty oq (fun z => ?_)⟩
  · exact (h.2.1 i i1 i2 i3).sty oq (fun z => by have := hD.1 i 0 (by omega) (by omega) z; omega)
  · have := hD.1 10 0 (by omega) (by omega) z; omega
theorem mW.cl {A1 : Nat → Prop} (h : mW K ma n wt pl J X H) (hk : ∀ x : Nat, x < H.size → ¬ A1 x → H1[x]? = H[x]?) (hne : ∀ i, i < 15 → ¬ A1 (ma i)) : mW K ma n wt pl J X H1 :=
  ⟨h.1.cl hk (hne 0 (by decide)), fun i i1 i2 i3 => (h.2.1 i i1 i2 i3).cl hk (hne i (by omega)), h.2.2.cl hk (hne 10 (by decide))⟩
theorem mW.jj {J1 : Nat → Nat → Int32} (h : mW K ma n wt pl J X H) (e : ∀ p, J1 p = J p) : mW K ma n wt pl J1 X H := by rw [show J1 = J from funext e]; exact h
theorem m_iast {i : Nat} {x : Int32} (j : Nat) (S : CallFix p m c cc nL s args WALL own) (hC : CX K s) (hD : mD K ma) (hw : mW K ma n wt pl J X H) (hS : va_S (mA ma) H0 H locs) (h1 : 1 ≤ j) (h14 : j ≤ 14) (h10 : j ≠ 10) (h11 : j ≠ 11) (hi : i < mSz j) (hdg : decode cc pc = .ok (.iastore, 1))
    (kk : ∀ (H1 : Heap) (locs : List Loc) (J1 : Nat → Nat → Int32), J1 j = upd (J j) i x → (∀ q, q ≠ j → J1 q = J q) → mW K ma n wt pl J1 X H1 → va_S (mA ma) H0 H1 locs → W p l e R s m args below meth c H1 locs cells slots Q (F0 m (pc + 1) ls rest)) : W p l e R s m args below meth c H locs cells slots Q (F0 m pc ls (.int x :: .int (nI i) :: .ref (ma j) :: rest)) := by
  have h := hw.2.1 j h1 h14 h10
  have e0 : mKd K j = kI K := if_neg h11
  rw [e0] at h
  exact f_iast (x := x) S hC h (show mA ma (ma j) from ⟨j, by omega, rfl⟩) hS (mSz_lt j) hi hdg (fun H1 locs1 g oq hz hS1 => kk H1 locs1 (va_up J j (upd (J j) i x)) (va_up_self ..) (fun q hq => va_up_ne _ _ hq) (hw.set hD h1 h14 h10 oq (by rw [e0]; exact g)) hS1)
theorem f_zast {A : Nat → Prop} {a j n : Nat} {f : Nat → Int32} {x : Int32} (S : CallFix p m c cc nL s args WALL own) (hC : CX K s) (h : va_at K.1 classes (a, .inl (kZ K, n, .inl f)) H) (hAa : A a) (hS : va_S A H0 H locs) (hn : n < 2147483648) (hj : j < n) (hx : vp_nar .boolean x = x) (hdg : decode cc pc = .ok (.bastore, 1))
    (kk : ∀ (H1 : Heap) (locs : List Loc), va_at K.1 classes (a, .inl (kZ K, n, .inl (upd f j x))) H1 → (∀ q : Nat, q ≠ a → H1[q]? = H[q]?) → H1.size = H.size → va_S A H0 H1 locs → W p l e R s m args below meth c H1 locs cells slots Q (F0 m (pc + 1) ls rest)) : W p l e R s m args below meth c H locs cells slots Q (F0 m pc ls (.int x :: .int (nI j) :: .ref a :: rest)) := by
  have hin := vp_in_nI hj hn
  refine W.zast S.1 S.2.1 h ((hC.1.2 2 _ rfl).1 n (fun j => .int (f j))) (fun q => by cases q) (by show ¬ (nI j < 0 ∨ (arrV _ _ _).slots.size ≤ _); rw [arrV_size]; exact hin) rfl rfl hdg fun H1 e1 z oq => ?_
  refine kk H1 _ ?_ oq z (hS.put z oq hAa)
  show H1[a]? = some (vp_cell _ _)
  rw [e1, clamp_nI hj hn, vp_cell_i, vp_cell_i, arrV_store]
  congr 2
  funext q
  by_cases hq : q = j
  · subst hq
    simp [updV, upd]
    exact congrArg _ hx
  · simp [updV, upd, hq]
theorem m_zast {i : Nat} {x : Int32} (S : CallFix p m c cc nL s args WALL own) (hC : CX K s) (hD : mD K ma) (hw : mW K ma n wt pl J X H) (hS : va_S (mA ma) H0 H locs) (hi : i < 12) (hx : x = 0 ∨ x = 1) (hdg : decode cc pc = .ok (.bastore, 1))
    (kk : ∀ (H1 : Heap) (locs : List Loc) (J1 : Nat → Nat → Int32), J1 11 = upd (J 11) i x → (∀ q, q ≠ 11 → J1 q = J q) → mW K ma n wt pl J1 X H1 → va_S (mA ma) H0 H1 locs → W p l e R s m args below meth c H1 locs cells slots Q (F0 m (pc + 1) ls rest)) : W p l e R s m args below meth c H locs cells slots Q (F0 m pc ls (.int x :: .int (nI i) :: .ref (ma 11) :: rest)) := by
  refine f_zast (x := x) S hC (mi_11 hw) (show mA ma (ma 11) from ⟨11, by omega, rfl⟩) hS (by decide) hi (by rcases hx with rfl | rfl <;> rfl) hdg (fun H1 locs1 g oq hz hS1 => kk H1 locs1 (va_up J 11 (upd (J 11) i x)) (va_up_self ..) (fun q hq => va_up_ne _ _ hq) (hw.set hD (by decide) (by decide) (by decide) oq g) hS1)
theorem m_last {i : Nat} {x : Int64} (S : CallFix p m c cc nL s args WALL own) (hC : CX K s) (hD : mD K ma) (hw : mW K ma n wt pl J X H) (hS : va_S (mA ma) H0 H locs) (hi : i < 288) (hdg : decode cc pc = .ok (.lastore, 1))
    (kk : ∀ (H1 : Heap) (locs : List Loc), mW K ma n wt pl J (vp_updL X i x) H1 → va_S (mA ma) H0 H1 locs → W p l e R s m args below meth c H1 locs cells slots Q (F0 m (pc + 1) ls rest)) : W p l e R s m args below meth c H locs cells slots Q (F0 m pc ls (.long x :: .int (nI i) :: .ref (ma 10) :: rest)) := by
  exact f_last (x := x) S hC hw.2.2 (show mA ma (ma 10) from ⟨10, by omega, rfl⟩) hS (by decide) hi hdg (fun H1 locs1 g oq hz hS1 => kk H1 locs1 (hw.setX hD oq g) hS1)
theorem m_putn {index : Nat} (n' : Nat) (S : CallFix p m c cc nL s args WALL own) (hC : CX K s) (hD : mD K ma) (hw : mW K ma n wt pl J X H) (hS : va_S (mA ma) H0 H locs) (hl : Cond.fieldLink own index "MetricLogMonitorModel" "formulas" "I" ∈ WALL) (hdg : decode cc pc = .ok (.putfield index, 3))
    (kk : ∀ (H1 : Heap) (locs : List Loc), mW K ma n' wt pl J X H1 → va_S (mA ma) H0 H1 locs → W p l e R s m args below meth c H1 locs cells slots Q (F0 m (pc + 3) ls rest)) : W p l e R s m args below meth c H locs cells slots Q (F0 m pc ls (.int (nI n') :: .ref (ma 0) :: rest)) := by
  exact f_put (ty := .int) (v := .int (nI n')) S hC kf_R hw.1 (show mA ma (ma 0) from ⟨0, by omega, rfl⟩) hS rfl 0 (by decide) hl rfl (by decide +kernel) rfl rfl (Nat.le_of_ble_eq_true rfl) hdg (fun H1 locs1 g oq hz hS1 => kk H1 locs1 (hw.set0 hD oq g) hS1)
theorem m_putw {index : Nat} (wt' : Int32) (S : CallFix p m c cc nL s args WALL own) (hC : CX K s) (hD : mD K ma) (hw : mW K ma n wt pl J X H) (hS : va_S (mA ma) H0 H locs)  (hx : wt' = 0 ∨ wt' = 1) (hl : Cond.fieldLink own index "MetricLogMonitorModel" "watching" "Z" ∈ WALL) (hdg : decode cc pc = .ok (.putfield index, 3))
    (kk : ∀ (H1 : Heap) (locs : List Loc), mW K ma n wt' pl J X H1 → va_S (mA ma) H0 H1 locs → W p l e R s m args below meth c H1 locs cells slots Q (F0 m (pc + 3) ls rest)) : W p l e R s m args below meth c H locs cells slots Q (F0 m pc ls (.int wt' :: .ref (ma 0) :: rest)) := by
  exact f_put (ty := .boolean) (v := .int wt') S hC kf_R hw.1 (show mA ma (ma 0) from ⟨0, by omega, rfl⟩) hS rfl 1 (by decide) hl rfl (by decide +kernel) (nz hx) (fz hx) (Nat.le_of_ble_eq_true rfl) hdg (fun H1 locs1 g oq hz hS1 => kk H1 locs1 (hw.set0 hD oq g) hS1)
theorem m_putp {index : Nat} (pl' : Nat) (S : CallFix p m c cc nL s args WALL own) (hC : CX K s) (hD : mD K ma) (hw : mW K ma n wt pl J X H) (hS : va_S (mA ma) H0 H locs) (hl : Cond.fieldLink own index "MetricLogMonitorModel" "places" "I" ∈ WALL) (hdg : decode cc pc = .ok (.putfield index, 3))
    (kk : ∀ (H1 : Heap) (locs : List Loc), mW K ma n wt pl' J X H1 → va_S (mA ma) H0 H1 locs → W p l e R s m args below meth c H1 locs cells slots Q (F0 m (pc + 3) ls rest)) : W p l e R s m args below meth c H locs cells slots Q (F0 m pc ls (.int (nI pl') :: .ref (ma 0) :: rest)) := by
  exact f_put (ty := .int) (v := .int (nI pl')) S hC kf_R hw.1 (show mA ma (ma 0) from ⟨0, by omega, rfl⟩) hS rfl 2 (by decide) hl rfl (by decide +kernel) rfl rfl (Nat.le_of_ble_eq_true rfl) hdg (fun H1 locs1 g oq hz hS1 => kk H1 locs1 (hw.set0 hD oq g) hS1)
end
