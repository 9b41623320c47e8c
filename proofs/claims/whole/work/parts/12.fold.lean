/-! fold and unfold by bits; rows: representatives are counted once; bitCount -/
def zAt (v : Nat) : Int64 := if v = 0 then 1229782938247303441 else if v = 1 then 4222189076152335 else 65535
theorem zAt_tb : ∀ v, v < 3 → ∀ n, n < 64 → tb (zAt v) n = decide (n / 4 ^ v % 4 = 0) := by decide +kernel
/-- the set's shift to the right by e steps of the variable v, as the class computes it -/
def shr4 (v e : Nat) (x : Int64) : Int64 := (x.toUInt64 >>> ((nI (e * 4 ^ v)).toInt64.toUInt64 &&& Int64.toUInt64 63)).toInt64
def shl4 (v e : Nat) (x : Int64) : Int64 := x <<< ((nI (e * 4 ^ v)).toInt64 &&& 63)
theorem st_lt : ∀ v, v < 3 → ∀ e, e < 4 → e * 4 ^ v < 64 := by decide
def fold4 (v : Nat) (x : Int64) : Int64 := (x ||| shr4 v 1 x ||| shr4 v 2 x ||| shr4 v 3 x) &&& zAt v
def unfold4 (v : Nat) (x : Int64) : Int64 := x ||| shl4 v 1 x ||| shl4 v 2 x ||| shl4 v 3 x
theorem fold4_tb {v : Nat} (hv : v < 3) (x : Int64) {n : Nat} (hn : n < 64) : tb (fold4 v x) n = (a4 (fun d => tb x (n + d * 4 ^ v)) && decide (n / 4 ^ v % 4 = 0)) := by
  unfold fold4 shr4 a4
  rw [tb_and, tb_or, tb_or, tb_or, tb_ushr x (st_lt v hv 1 (by decide)), tb_ushr x (st_lt v hv 2 (by decide)), tb_ushr x (st_lt v hv 3 (by decide)), zAt_tb v hv n hn]
  simp only [Nat.zero_mul, Nat.add_zero, Nat.add_comm]
theorem unfold4_tb {v : Nat} (hv : v < 3) (x : Int64) {n : Nat} (hn : n < 64) : tb (unfold4 v x) n = a4 (fun e => decide (e * 4 ^ v ≤ n) && tb x (n - e * 4 ^ v)) := by
  unfold unfold4 shl4 a4
  rw [tb_or, tb_or, tb_or, tb_shl x (st_lt v hv 1 (by decide)) hn, tb_shl x (st_lt v hv 2 (by decide)) hn, tb_shl x (st_lt v hv 3 (by decide)) hn]
  simp
/-- EXISTS v: some value at v does -/
theorem exists4 {v : Nat} (hv : v < 3) (x : Int64) {n : Nat} (hn : n < 64) : tb (unfold4 v (fold4 v x)) n = a4 (fun d => tb x (rp v n d)) := by
  rw [unfold4_tb hv _ hn, Bool.eq_iff_iff, a4_iff, a4_iff]
  constructor
  · rintro ⟨e, he, h⟩
    rw [Bool.and_eq_true, decide_eq_true_eq] at h
    obtain ⟨h1, h2⟩ := h
    rw [fold4_tb hv x (by omega), Bool.and_eq_true, decide_eq_true_eq] at h2
    obtain ⟨h3, h4⟩ := h2
    have e1 := zr_sub v hv n hn e he h1 h4
    obtain ⟨d, hd, h5⟩ := a4_iff.mp h3
    refine ⟨d, hd, ?_⟩
    unfold rp
    rw [← e1]
    exact h5
  · rintro ⟨d, hd, h⟩
    refine ⟨n / 4 ^ v % 4, Nat.mod_lt _ (by decide), ?_⟩
    have h1 := zr_le v hv n hn
    have h2 := zr_zr v hv n hn
    have h3 := zr_lt v hv n hn
    unfold zr at h2 h3
    rw [Bool.and_eq_true, decide_eq_true_eq, fold4_tb hv x h3, Bool.and_eq_true, decide_eq_true_eq]
    exact ⟨h1, a4_iff.mpr ⟨d, hd, h⟩, h2⟩
theorem fold4_iff {v : Nat} (hv : v < 3) (x : Int64) {n : Nat} (hn : n < 64) : tb (fold4 v x) n = true ↔ ∃ m, m < 64 ∧ tb x m = true ∧ zr v m = n := by
  rw [fold4_tb hv x hn, Bool.and_eq_true, decide_eq_true_eq, a4_iff]
  constructor
  · rintro ⟨⟨d, hd, h⟩, h2⟩
    obtain ⟨h3, h4⟩ := zr_up v hv n hn d hd h2
    exact ⟨n + d * 4 ^ v, h4, h, h3⟩
  · rintro ⟨m, hm, h, h2⟩
    have h3 := zr_zr v hv m hm
    have h4 := zr_add v hv m hm
    rw [h2] at h3 h4
    exact ⟨⟨m / 4 ^ v % 4, Nat.mod_lt _ (by decide), by rw [h4]; exact h⟩, h3⟩
/-- the representative of an assignment: 0 at each variable below k that is not free -/
def cn (fr : Nat → Bool) : Nat → Nat → Nat
  | 0, n => n
  | k + 1, n => if fr k = true then cn fr k n else zr k (cn fr k n)
theorem cn_lt {fr : Nat → Bool} {n : Nat} (hn : n < 64) : ∀ k, k ≤ 3 → cn fr k n < 64
  | 0, _ => hn
  | k + 1, hk => by
    show (if fr k = true then cn fr k n else zr k (cn fr k n)) < 64
    have h := cn_lt (fr := fr) hn k (by omega)
    split
    · exact h
    · exact zr_lt k (by omega) _ h
/-- the class's fold over the variables below k that are not free -/
def fd (fr : Nat → Bool) (x : Int64) : Nat → Int64
  | 0 => x
  | k + 1 => if fr k = true then fd fr x k else fold4 k (fd fr x k)
theorem fd_iff (fr : Nat → Bool) (x : Int64) : ∀ k, k ≤ 3 → ∀ n, n < 64 → (tb (fd fr x k) n = true ↔ ∃ m, m < 64 ∧ tb x m = true ∧ cn fr k m = n)
  | 0, _, n, hn => ⟨fun h => ⟨n, hn, h, rfl⟩, fun ⟨m, _, h, e⟩ => by
      have e' : m = n := e
      subst e'; exact h⟩
  | k + 1, hk, n, hn => by
    have ih := fd_iff fr x k (by omega)
    cases hf : fr k with
    | true =>
      have e1 : fd fr x (k + 1) = fd fr x k := by
        show (if fr k = true then _ else _) = _
        rw [hf]; rfl
      have e2 : ∀ m, cn fr (k + 1) m = cn fr k m := by
        intro m
        show (if fr k = true then _ else _) = _
        rw [hf]; rfl
      rw [e1, ih n hn]
      constructor
      · rintro ⟨m, a, b, c⟩; exact ⟨m, a, b, by rw [e2]; exact c⟩
      · rintro ⟨m, a, b, c⟩; exact ⟨m, a, b, by rw [e2] at c; exact c⟩
    | false =>
      have e1 : fd fr x (k + 1) = fold4 k (fd fr x k) := by
        show (if fr k = true then _ else _) = _
        rw [hf]; rfl
      have e2 : ∀ m, cn fr (k + 1) m = zr k (cn fr k m) := by
        intro m
        show (if fr k = true then _ else _) = _
        rw [hf]; rfl
      rw [e1, fold4_iff (by omega) _ hn]
      constructor
      · rintro ⟨y, hy, h1, h2⟩
        obtain ⟨m, a, b, c⟩ := (ih y hy).mp h1
        exact ⟨m, a, b, by rw [e2, c]; exact h2⟩
      · rintro ⟨m, a, b, c⟩
        rw [e2] at c
        exact ⟨cn fr k m, cn_lt a k (by omega), (ih _ (cn_lt a k (by omega))).mpr ⟨m, a, b, rfl⟩, c⟩
/-- the reference's count: those that satisfy and agree with no lower one that does -/
def first (p : Nat → Bool) (c : Nat → Nat) (n : Nat) : Bool := p n && !anyb (fun m => p m && decide (c m = c n)) n
theorem reps {p : Nat → Bool} {c : Nat → Nat} (hc : ∀ n, n < 64 → c n < 64) : ∀ N, N ≤ 64 → ct (first p c) N = ct (fun x => anyb (fun m => p m && decide (c m = x)) N) 64
  | 0, _ => by
    exact (ct_off (p := fun x => anyb (fun m => p m && decide (c m = x)) 0) (a := 0) (N := 64) (by omega) (fun i _ _ => rfl)).symm
  | N + 1, hN => by
    have ih := reps (p := p) hc N (by omega)
    show ct (first p c) N + (if first p c N = true then 1 else 0) = _
    rw [ih]
    cases hf : first p c N with
    | true =>
      unfold first at hf
      rw [Bool.and_eq_true, Bool.not_eq_true'] at hf
      obtain ⟨h1, h2⟩ := hf
      refine (ct_flip (x := c N) h2 ?_ (fun y hy => ?_) (hc N (by omega))).symm
      · show (anyb _ N || (p N && decide (c N = c N))) = true
        rw [h1]; simp
      · show (anyb _ N || (p N && decide (c N = y))) = _
        rw [decide_eq_false (fun e => hy e.symm), Bool.and_false, Bool.or_false]
    | false =>
      show ct _ 64 + 0 = _
      rw [Nat.add_zero]
      apply ct_congr
      intro x _
      show _ = (anyb _ N || (p N && decide (c N = x)))
      by_cases e : c N = x
      · subst e
        unfold first at hf
        cases h1 : p N with
        | false => simp
        | true =>
          rw [h1, Bool.true_and] at hf
          have h2 : anyb (fun m => p m && decide (c m = c N)) N = true := by
            cases h3 : anyb (fun m => p m && decide (c m = c N)) N with
            | true => rfl
            | false => rw [h3] at hf; cases hf
          rw [h2]; rfl
      · rw [decide_eq_false e, Bool.and_false, Bool.or_false]
/-- rows: the bits of the folded set are as many as the reference counts -/
theorem rows_eq (fr : Nat → Bool) (x : Int64) : ct (tb (fd fr x 3)) 64 = ct (first (tb x) (cn fr 3)) 64 := by
  rw [reps (fun n hn => cn_lt hn 3 (by omega)) 64 (by omega)]
  apply ct_congr
  intro n hn
  rw [Bool.eq_iff_iff, fd_iff fr x 3 (by omega) n hn, anyb_iff]
  constructor
  · rintro ⟨m, a, b, c⟩
    exact ⟨m, a, by rw [b, decide_eq_true c]; rfl⟩
  · rintro ⟨m, a, b⟩
    rw [Bool.and_eq_true, decide_eq_true_eq] at b
    exact ⟨m, a, b.1, b.2⟩
/-- two assignments agree at the free variables -/
def agr (fr : Nat → Bool) (n m : Nat) : Bool := allb (fun v => !fr v || decide (vl v n = vl v m)) 3
theorem agr_cn (fr : Nat → Bool) {n m : Nat} (hn : n < 64) (hm : m < 64) : agr fr n m = decide (cn fr 3 m = cn fr 3 n) := by
  rw [Bool.eq_iff_iff, decide_eq_true_eq]
  unfold agr
  rw [allb_iff]
  have e3 : ∀ (P : Nat → Prop), (∀ i, i < 3 → P i) ↔ P 0 ∧ P 1 ∧ P 2 := fun P => ⟨fun h => ⟨h 0 (by omega), h 1 (by omega), h 2 (by omega)⟩, fun h i hi => by
    have : i = 0 ∨ i = 1 ∨ i = 2 := by omega
    rcases this with rfl | rfl | rfl
    · exact h.1
    · exact h.2.1
    · exact h.2.2⟩
  rw [e3]
  unfold vl cn cn cn cn zr
  simp only [Bool.or_eq_true, Bool.not_eq_true', decide_eq_true_eq]
  cases fr 0 <;> cases fr 1 <;> cases fr 2 <;> simp <;> omega
