/-! the small functions, in natural numbers -/
theorem vl_lt {t n : Nat} (h : t ≤ 2 ∨ (4 ≤ t ∧ t ≤ 7)) : vl t n < 4 := by
  unfold vl
  split
  · exact Nat.mod_lt _ (by decide)
  · omega
def tmr (t : Nat) : Prop := t ≤ 2 ∨ (4 ≤ t ∧ t ≤ 7)
theorem valueOf_all : ∀ t, t < 8 → ∀ n, n < 64 → t = 3 ∨ f_M_valueOf (nI t) (nI n) = nI (vl t n) := by decide +kernel
theorem value_all : ∀ t, t < 8 → ∀ n, n < 64 → t = 3 ∨ f_R_value (nI t) (nI n) = nI (vl t n) := by decide +kernel
theorem valueOf_eq {t n : Nat} (h : tmr t) (hn : n < 64) : f_M_valueOf (nI t) (nI n) = nI (vl t n) := by
  unfold tmr at h
  rcases valueOf_all t (by omega) n hn with e | e
  · omega
  · exact e
theorem value_eq {t n : Nat} (h : tmr t) (hn : n < 64) : f_R_value (nI t) (nI n) = nI (vl t n) := by
  unfold tmr at h
  rcases value_all t (by omega) n hn with e | e
  · omega
  · exact e
theorem pairBit_eq (r x y : Nat) : f_M_pairBit (nI r) (nI x) (nI y) = (1 : Int64) <<< ((nI (16 * r + 4 * x + y)).toInt64 &&& 63) := by
  unfold f_M_pairBit
  rw [show (16 : Int32) * nI r = nI (16 * r) from pk_mul 16 r, show (4 : Int32) * nI x = nI (4 * x) from pk_mul 4 x, nI_add, nI_add]
theorem i32_nlt {x y : Int32} : ¬ x < y ↔ y ≤ x := Int32.not_lt
theorem liesIn_0 (d lo hi : Int32) : f_M_liesIn d lo hi = 0 ↔ ly lo hi d = false := by
  unfold f_M_liesIn ly
  by_cases h1 : d < lo
  · rw [if_pos h1, decide_eq_false (fun h => (i32_nlt.mpr h) h1)]
    simp
  · rw [if_neg h1, decide_eq_true (i32_nlt.mp h1), Bool.true_and]
    by_cases h2 : hi = -1
    · rw [if_pos h2, decide_eq_true h2]
      simp
    · rw [if_neg h2, decide_eq_false h2, Bool.false_or]
      by_cases h3 : hi < d
      · rw [if_pos h3, decide_eq_false (fun h => (i32_nlt.mpr h) h3)]
        simp
      · rw [if_neg h3, decide_eq_true (i32_nlt.mp h3)]
        simp
theorem st_1 : ∀ v, v < 3 → ((1 : Int32) <<< (((2 * nI v) : Int32) &&& 31)) = nI (1 * 4 ^ v) ∧ 2 * ((1 : Int32) <<< (((2 * nI v) : Int32) &&& 31)) = nI (2 * 4 ^ v) ∧ 3 * ((1 : Int32) <<< (((2 * nI v) : Int32) &&& 31)) = nI (3 * 4 ^ v) := by decide +kernel
theorem fold_eq {v : Nat} (hv : v < 3) (x : Int64) : f_M_fold v x = fold4 v x := by
  obtain ⟨h1, h2, h3⟩ := st_1 v hv
  unfold f_M_fold fold4 shr4
  rw [h2, h3, h1]
theorem unfold_eq {v : Nat} (hv : v < 3) (x : Int64) : f_M_unfold (nI v) x = unfold4 v x := by
  obtain ⟨h1, h2, h3⟩ := st_1 v hv
  unfold f_M_unfold unfold4 shl4
  rw [h2, h3, h1]
theorem bitCount_eq (x : Int64) : f_Long_bitCount x = nI (ct (tb x) 64) := by
  rw [← bc_eq]
  rfl
