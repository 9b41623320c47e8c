/-! the class's sets after a place are the reference's; the reference's search for a part that is not bounded -/
section
variable {kd wh fi se : Nat → Nat} {lo hi T T' P P' : Nat → Int32} {X X' : Nat → Int64} {t : Nat → Nat} {n N : Nat}
/-- the sets of all formulas as one row: what setAt answers -/
def yv (dc : Nat → Nat) (stt : Nat → Nat → Int64) (q : Nat) : Int64 := if q % 24 < dc (q / 24) then stt (q / 24) (q % 24) else 0
theorem yv_at {dc : Nat → Nat} {stt : Nat → Nat → Int64} {k j : Nat} (hj : j < dc k) (h24 : dc k ≤ 24) : yv dc stt (24 * k + j) = stt k j := by
  unfold yv
  rw [show (24 * k + j) % 24 = j by omega, show (24 * k + j) / 24 = k by omega, if_pos hj]
theorem newOk {dc dc' : Nat → Nat} {stt stt' : Nat → Nat → Int64} (hV : tabOk kd wh fi se lo hi n) (hN : N + 1 ≤ 24)
    (hT : tmOk T' t (N + 1)) (eT : ∀ i, i < N → T' i = T i) (eP : ∀ r i, r < 3 → i < N → P' (24 * r + i) = P (24 * r + i))
    (hX : ∀ k, k < n → ∀ i, i < N → ∀ b, b < 64 → tb (X (24 * k + i)) b = sat kd wh fi se lo hi T P X N k i b)
    (hX' : ∀ k, k < n → ∀ i, i < N + 1 → ∀ b, b < 64 → tb (X' (24 * k + i)) b = sat kd wh fi se lo hi T' P' X' (N + 1) k i b)
    (hr : ∀ k, k < n → dc k = rch kd fi se hi T dc N k) (hr' : ∀ k, k < n → dc' k = rch kd fi se hi T' dc' (N + 1) k)
    (ho : ∀ k, k < n → ∀ i, i < dc k → ∀ b, b < 64 → tb (stt k i) b = tb (X (24 * k + i)) b)
    (hk1 : ∀ k, k < n → ∀ i, i < dc k → stt' k i = stt k i)
    (hk2 : ∀ k, k < n → ∀ i, dc k ≤ i → i < dc' k → ∀ b, b < 64 → tb (stt' k i) b = sat kd wh fi se lo hi T' P' (yv dc' stt') (N + 1) k i b) :
    ∀ k, k < n → ∀ i, i < dc' k → ∀ b, b < 64 → tb (stt' k i) b = tb (X' (24 * k + i)) b := by
  have hle := rch_all hV (Nat.le_refl n) hr
  have hle' := rch_all hV (Nat.le_refl n) hr'
  have hst := stay hV hT eT eP hX hX' hr hle
  intro k
  induction k using Nat.strongRecOn with
  | ind k ih =>
    intro hk i hi b hb
    by_cases h : i < dc k
    · rw [hk1 k hk i h, ho k hk i h b hb, hst k hk i h b hb]
    · have hiN : i < N + 1 := by have := hle' k hk; omega
      rw [hk2 k hk i (by omega) hi b hb, hX' k hk i hiN b hb]
      have hv := (hV k hk).2.2.2.1
      refine sat_step (T := T') (P := P') hV hk (Nat.le_refl _) hT (fun _ _ => rfl) (fun _ _ _ _ => rfl) (rc := dc') (by rw [← hr' k hk]; exact hi) hiN hb (fun h j hj x hx => ?_) (fun h j hj x hx => ?_)
      · have hf := (hv h).1
        rw [yv_at hj (by have := hle' (fi k) (by omega); omega)]
        exact ih _ hf (by omega) j hj x hx
      · have hf := (hv h).2
        rw [yv_at hj (by have := hle' (se k) (by omega); omega)]
        exact ih _ hf (by omega) j hj x hx
/-- bounded: those marked are all bounded iff f is (going down from f) -/
def mkd (er : Nat → Bool) (f : Nat) (pt : Nat → Bool) (k : Nat) : Prop := er f = true ↔ ∀ j, j < k → pt j = true → er j = true
theorem mkd_start {er : Nat → Bool} {f : Nat} : mkd er f (fun k => decide (k = f)) (f + 1) := by
  constructor
  · intro h j _ hj
    rw [decide_eq_true_eq] at hj
    subst hj; exact h
  · intro h
    exact h f (by omega) (by simp)
theorem mkd_end {er : Nat → Bool} {f : Nat} {pt : Nat → Bool} (h : mkd er f pt 0) : er f = true := h.mpr (fun j hj => absurd hj (by omega))
theorem mkd_skip {er : Nat → Bool} {f k : Nat} {pt : Nat → Bool} (h : mkd er f pt (k + 1)) (hp : pt k = true → er k = true) : mkd er f pt k := by
  refine h.trans ⟨fun g j hj hp2 => g j (by omega) hp2, fun g j hj hp2 => ?_⟩
  by_cases e : j = k
  · subst e; exact hp hp2
  · exact g j (by omega) hp2
theorem mkd_no {er : Nat → Bool} {f k : Nat} {pt : Nat → Bool} (h : mkd er f pt (k + 1)) (hp : pt k = true) (he : er k = false) : er f = false := by
  cases hf : er f with
  | false => rfl
  | true => exact absurd (h.mp hf k (by omega) hp) (by rw [he]; decide)
theorem mkd_step {er : Nat → Bool} {f k a b : Nat} {pt : Nat → Bool} (h : mkd er f pt (k + 1)) (hp : pt k = true) (he : er k = (er a && er b)) (ha : a < k) (hb : b < k) : mkd er f (fun j => decide (j = b) || (decide (j = a) || pt j)) k := by
  refine h.trans ⟨fun g j hj hp2 => ?_, fun g j hj hp2 => ?_⟩
  · have hk := g k (by omega) hp
    rw [he, Bool.and_eq_true] at hk
    rw [Bool.or_eq_true, Bool.or_eq_true, decide_eq_true_eq, decide_eq_true_eq] at hp2
    rcases hp2 with e | e | e
    · subst e; exact hk.2
    · subst e; exact hk.1
    · exact g j (by omega) e
  · by_cases e : j = k
    · subst e
      rw [he, g a ha (by simp), g b hb (by simp)]
      rfl
    · exact g j (by omega) (by simp [hp2])
end
