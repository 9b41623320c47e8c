/-! stores of references; the class's addresses are apart -/
section
variable {p : Program} {l : Launch} {e : Env} {R : Room} {s : State} {m : MethodId} {args : Array Value} {below : List Frame} {meth : Method} {c : Code} {H : Heap} {locs : List Loc} {cells slots : Nat} {Q : State → Prop}
variable {cc : ByteArray} {pc nL : Nat} {ls : Array Slot} {st rest : List Value} {K : KT} {own : String} {A : Nat → Prop} {a : Nat} {H0 : Heap}
theorem f_aastN {j n : Nat} {f : Nat → Option Nat} (S : CallFix p m c cc nL s args WALL own) (hC : CX K s) (h : va_at K.1 classes (a, .inl (kO K, n, .inr (.inr (.inr (.inr f))))) H) (hAa : A a) (hS : va_S A H0 H locs) (hn : n < 2147483648) (hj : j < n) (hdg : decode cc pc = .ok (.aastore, 1))
    (kk : ∀ (H1 : Heap) (locs : List Loc), va_at K.1 classes (a, .inl (kO K, n, .inr (.inr (.inr (.inr (va_up f j none)))))) H1 → (∀ q : Nat, q ≠ a → H1[q]? = H[q]?) → H1.size = H.size → va_S A H0 H1 locs → W p l e R s m args below meth c H1 locs cells slots Q (F0 m (pc + 1) ls rest)) : W p l e R s m args below meth c H locs cells slots Q (F0 m pc ls (.null :: .int (nI j) :: .ref a :: rest)) := by
  have hin := vp_in_nI hj hn
  refine va_WaastN (C := "java/lang/Object") S.1 S.2.1 h ((hC.1.2 3 _ rfl).1 n (fun j => va_rf (f j))) (fun h => by cases h) (by show ¬ (nI j < 0 ∨ (arrV _ _ _).slots.size ≤ _); rw [arrV_size]; exact hin) rfl rfl hdg fun H1 e1 z oq => ?_
  refine kk H1 _ ?_ oq z (hS.put z oq hAa)
  show H1[a]? = some (vp_cell _ _)
  rw [e1, clamp_nI hj hn, vp_cell_q, vp_cell_q, arrV_store]
  congr 2
  funext q
  by_cases hq : q = j
  · subst hq
    simp [updV, va_up, va_rf]
  · simp [updV, va_up, hq]
theorem f_aast {j n v ci : Nat} {f : Nat → Option Nat} {vs : List Value} {C : String} {T : u_T} {N : Nat} (S : CallFix p m c cc nL s args WALL own) (hC : CX K s) (h : va_at K.1 classes (a, .inl (kO K, n, .inr (.inr (.inr (.inr f))))) H) (hv : va_at K.1 classes (v, .inr (ci, vs)) H) (hc : classes[ci]? = some (C, T, N)) (hca : Cond.castable C "java/lang/Object" ∈ NALL) (hAa : A a) (hS : va_S A H0 H locs) (hn : n < 2147483648) (hj : j < n) (hdg : decode cc pc = .ok (.aastore, 1))
    (kk : ∀ (H1 : Heap) (locs : List Loc), va_at K.1 classes (a, .inl (kO K, n, .inr (.inr (.inr (.inr (va_up f j (some v))))))) H1 → (∀ q : Nat, q ≠ a → H1[q]? = H[q]?) → H1.size = H.size → va_S A H0 H1 locs → W p l e R s m args below meth c H1 locs cells slots Q (F0 m (pc + 1) ls rest)) : W p l e R s m args below meth c H locs cells slots Q (F0 m pc ls (.ref v :: .int (nI j) :: .ref a :: rest)) := by
  have hin := vp_in_nI hj hn
  have hlt : (nI j).toNatClampNeg < n := Nat.not_le.mp fun q => hin (Or.inr q)
  have h0 : ¬ nI j < 0 := fun q => hin (Or.inl q)
  obtain ⟨r', hr', cellV, g1, g2, g3, -⟩ := hv
  have hcls := (hC.1.1 ci _ hc).2
  obtain ⟨kA, comp, k1, k2, k3, -⟩ := (hC.1.2 3 _ rfl).2
  obtain ⟨kE, hkE, -⟩ := Vm.findClass_spec k3
  obtain ⟨c0, t1, f1, f2, f3⟩ := Cond.castable_spec (va_Nw.use (A := args) rfl (hC.2.1 _ hca))
  cases hcls.1.symm.trans f1
  cases k3.symm.trans f2
  obtain ⟨kC, hkC, -⟩ := hcls.2
  refine W.aast S.1 S.2.1 h (fun q h => by cases h) (fun h => by cases h) k1 k2 rfl hkE ⟨h0, by show _ < (arrV _ _ _).slots.size; rw [arrV_size]; exact hlt⟩ g1 (fun q h => by rw [g3] at h; cases h) (by rw [g2]; exact hkC) (by rw [g2]; exact f3) rfl rfl hdg fun H1 e1 z oq => ?_
  refine kk H1 _ ?_ oq z (hS.put z oq hAa)
  show H1[a]? = some (vp_cell _ _)
  rw [e1, clamp_nI hj hn, vp_cell_q, vp_cell_q, arrV_store]
  congr 2
  funext q
  by_cases hq : q = j
  · subst hq
    simp [updV, va_up, va_rf]
  · simp [updV, va_up, hq]
end
/-- the class's addresses by number: monitor, list, its array, log, times, pairs; then formula k and its sets -/
def ca (mon lst els lg tm pr : Nat) (ad sa : Nat → Nat) (i : Nat) : Nat :=
  if i = 0 then mon else if i = 1 then lst else if i = 2 then els else if i = 3 then lg else if i = 4 then tm else if i = 5 then pr else if i % 2 = 0 then ad ((i - 6) / 2) else sa ((i - 6) / 2)
/-- they are apart, and the law's own (but the list's array while it is the empty one of all lists) -/
def dst (K : KT) (mon lst els lg tm pr : Nat) (ad sa : Nat → Nat) (n cap : Nat) : Prop :=
  (∀ i j, i < 6 + 2 * n → j < 6 + 2 * n → ca mon lst els lg tm pr ad sa i = ca mon lst els lg tm pr ad sa j → i = j) ∧ (∀ i, i < 6 + 2 * n → i ≠ 2 → kz K ≤ ca mon lst els lg tm pr ad sa i) ∧ (0 < cap → kz K ≤ els) ∧ (cap = 0 → els = kte K)
section
variable {K : KT} {mon lst els lg tm pr : Nat} {ad sa : Nat → Nat} {n cap : Nat}
theorem ca_ad (k : Nat) : ca mon lst els lg tm pr ad sa (6 + 2 * k) = ad k := by
  unfold ca
  rw [if_neg (by omega), if_neg (by omega), if_neg (by omega), if_neg (by omega), if_neg (by omega), if_neg (by omega), if_pos (by omega)]
  congr 1
  omega
theorem ca_sa (k : Nat) : ca mon lst els lg tm pr ad sa (7 + 2 * k) = sa k := by
  unfold ca
  rw [if_neg (by omega), if_neg (by omega), if_neg (by omega), if_neg (by omega), if_neg (by omega), if_neg (by omega), if_neg (by omega)]
  congr 1
  omega
theorem dst.fix (h : dst K mon lst els lg tm pr ad sa n cap) {i j : Nat} (hi : i < 6) (hj : j < 6) (hij : i ≠ j) : ca mon lst els lg tm pr ad sa i ≠ ca mon lst els lg tm pr ad sa j := fun e => hij (h.1 i j (by omega) (by omega) e)
theorem dst.fad (h : dst K mon lst els lg tm pr ad sa n cap) {i k : Nat} (hi : i < 6) (hk : k < n) : ca mon lst els lg tm pr ad sa i ≠ ad k := fun e => by
  rw [← ca_ad (mon := mon) (lst := lst) (els := els) (lg := lg) (tm := tm) (pr := pr) (ad := ad) (sa := sa) k] at e
  have := h.1 i _ (by omega) (by omega) e
  omega
theorem dst.fsa (h : dst K mon lst els lg tm pr ad sa n cap) {i k : Nat} (hi : i < 6) (hk : k < n) : ca mon lst els lg tm pr ad sa i ≠ sa k := fun e => by
  rw [← ca_sa (mon := mon) (lst := lst) (els := els) (lg := lg) (tm := tm) (pr := pr) (ad := ad) (sa := sa) k] at e
  have := h.1 i _ (by omega) (by omega) e
  omega
theorem dst.aa (h : dst K mon lst els lg tm pr ad sa n cap) {j k : Nat} (hj : j < n) (hk : k < n) (hjk : j ≠ k) : ad j ≠ ad k := fun e => by
  rw [← ca_ad (mon := mon) (lst := lst) (els := els) (lg := lg) (tm := tm) (pr := pr) (ad := ad) (sa := sa) j, ← ca_ad (mon := mon) (lst := lst) (els := els) (lg := lg) (tm := tm) (pr := pr) (ad := ad) (sa := sa) k] at e
  have := h.1 _ _ (by omega) (by omega) e
  omega
theorem dst.ss (h : dst K mon lst els lg tm pr ad sa n cap) {j k : Nat} (hj : j < n) (hk : k < n) (hjk : j ≠ k) : sa j ≠ sa k := fun e => by
  rw [← ca_sa (mon := mon) (lst := lst) (els := els) (lg := lg) (tm := tm) (pr := pr) (ad := ad) (sa := sa) j, ← ca_sa (mon := mon) (lst := lst) (els := els) (lg := lg) (tm := tm) (pr := pr) (ad := ad) (sa := sa) k] at e
  have := h.1 _ _ (by omega) (by omega) e
  omega
theorem dst.as (h : dst K mon lst els lg tm pr ad sa n cap) {j k : Nat} (hj : j < n) (hk : k < n) : ad j ≠ sa k := fun e => by
  rw [← ca_ad (mon := mon) (lst := lst) (els := els) (lg := lg) (tm := tm) (pr := pr) (ad := ad) (sa := sa) j, ← ca_sa (mon := mon) (lst := lst) (els := els) (lg := lg) (tm := tm) (pr := pr) (ad := ad) (sa := sa) k] at e
  have := h.1 _ _ (by omega) (by omega) e
  omega
theorem dst.zad (h : dst K mon lst els lg tm pr ad sa n cap) {k : Nat} (hk : k < n) : kz K ≤ ad k := by
  have := h.2.1 (6 + 2 * k) (by omega) (by omega)
  rw [ca_ad] at this
  exact this
theorem dst.zsa (h : dst K mon lst els lg tm pr ad sa n cap) {k : Nat} (hk : k < n) : kz K ≤ sa k := by
  have := h.2.1 (7 + 2 * k) (by omega) (by omega)
  rw [ca_sa] at this
  exact this
/-- what the class may write -/
def ac (K : KT) (mon lst els lg tm pr : Nat) (ad sa : Nat → Nat) (n : Nat) (q : Nat) : Prop := kz K ≤ q ∧ ∃ i, i < 6 + 2 * n ∧ q = ca mon lst els lg tm pr ad sa i
theorem ac_fix (h : dst K mon lst els lg tm pr ad sa n cap) {i : Nat} (hi : i < 6) (h2 : i ≠ 2) : ac K mon lst els lg tm pr ad sa n (ca mon lst els lg tm pr ad sa i) := ⟨h.2.1 i (by omega) h2, i, by omega, rfl⟩
theorem ac_ad (h : dst K mon lst els lg tm pr ad sa n cap) {k : Nat} (hk : k < n) : ac K mon lst els lg tm pr ad sa n (ad k) := ⟨h.zad hk, 6 + 2 * k, by omega, (ca_ad k).symm⟩
theorem ac_sa (h : dst K mon lst els lg tm pr ad sa n cap) {k : Nat} (hk : k < n) : ac K mon lst els lg tm pr ad sa n (sa k) := ⟨h.zsa hk, 7 + 2 * k, by omega, (ca_sa k).symm⟩
theorem ac_els (h : dst K mon lst els lg tm pr ad sa n cap) (hc : 0 < cap) : ac K mon lst els lg tm pr ad sa n els := ⟨h.2.2.1 hc, 2, by omega, rfl⟩
end
