/-! steps of the loops that build sets, in bits -/
/-- a set that is built bit by bit: below n as p says -/
def bld (p : Nat → Bool) (n : Nat) (x : Int64) : Prop := ∀ b, b < 64 → tb x b = (decide (b < n) && p b)
theorem bld_0 (p : Nat → Bool) : bld p 0 0 := fun b _ => by rw [tb_0]; simp
theorem bld_t {p : Nat → Bool} {n : Nat} {x : Int64} (hn : n < 64) (h : bld p n x) (hp : p n = true) : bld p (n + 1) (x ||| ((1 : Int64) <<< ((nI n).toInt64 &&& 63))) := by
  intro b hb
  rw [tb_orbit x hn hb, h b hb]
  by_cases e : b = n
  · subst e; simp [hp]
  · by_cases e2 : b < n
    · have e3 : b < n + 1 := by omega
      simp [e, e2, e3]
    · have e3 : ¬ b < n + 1 := by omega
      simp [e, e2, e3]
theorem bld_f {p : Nat → Bool} {n : Nat} {x : Int64} (h : bld p n x) (hp : p n = false) : bld p (n + 1) x := by
  intro b hb
  rw [h b hb]
  by_cases e : b = n
  · subst e; simp [hp]
  · by_cases e2 : b < n
    · have e3 : b < n + 1 := by omega
      simp [e2, e3]
    · have e3 : ¬ b < n + 1 := by omega
      simp [e2, e3]
theorem bld_64 {p : Nat → Bool} {x : Int64} (h : bld p 64 x) : ∀ b, b < 64 → tb x b = p b := fun b hb => by rw [h b hb, decide_eq_true hb, Bool.true_and]
/-- SINCE, at the place j (counting down): what is found, or still may be -/
theorem sm_t {L A B : Nat → Bool} {j : Nat} {r s g : Bool} (hL : L j = true) (h : r = (s || (g && sm L A B (j + 1)))) : r = ((s || (g && B j)) || ((g && A j) && sm L A B j)) := by
  rw [h]
  show (s || (g && (L j && B j || A j && sm L A B j))) = _
  rw [hL]
  cases s <;> cases g <;> cases B j <;> cases A j <;> rfl
theorem sm_f {L A B : Nat → Bool} {j : Nat} {r s g : Bool} (hL : L j = false) (h : r = (s || (g && sm L A B (j + 1)))) : r = (s || ((g && A j) && sm L A B j)) := by
  rw [h]
  show (s || (g && (L j && B j || A j && sm L A B j))) = _
  rw [hL]
  cases s <;> cases g <;> cases A j <;> rfl
theorem um_t {L A B : Nat → Bool} {d j : Nat} {r s g : Bool} (hL : L j = true) (h : r = (s || (g && um L A B (d + 1) j))) : r = ((s || (g && B j)) || ((g && A j) && um L A B d (j + 1))) := by
  rw [h]
  show (s || (g && (L j && B j || A j && um L A B d (j + 1)))) = _
  rw [hL]
  cases s <;> cases g <;> cases B j <;> cases A j <;> rfl
theorem um_f {L A B : Nat → Bool} {d j : Nat} {r s g : Bool} (hL : L j = false) (h : r = (s || (g && um L A B (d + 1) j))) : r = (s || ((g && A j) && um L A B d (j + 1))) := by
  rw [h]
  show (s || (g && (L j && B j || A j && um L A B d (j + 1)))) = _
  rw [hL]
  cases s <;> cases g <;> cases A j <;> rfl
theorem um_end {L A B : Nat → Bool} {d j : Nat} {r s g : Bool} (hL : ∀ i, j ≤ i → i < j + d → L i = false) (h : r = (s || (g && um L A B d j))) : r = s := by
  rw [h, um_off hL]
  cases s <;> cases g <;> rfl
theorem sm_end {L A B : Nat → Bool} {r s g : Bool} (h : r = (s || (g && sm L A B 0))) : r = s := by
  rw [h]
  show (s || (g && false)) = s
  cases s <;> cases g <;> rfl
/-- the reference's own loops: a search that ends at the first answer -/
theorem sm_ref {L A B : Nat → Bool} {j : Nat} : sm L A B (j + 1) = if (L j && B j) = true then true else if A j = true then sm L A B j else false := by
  show (L j && B j || A j && sm L A B j) = _
  cases (L j && B j) <;> cases A j <;> rfl
theorem um_ref {L A B : Nat → Bool} {d j : Nat} : um L A B (d + 1) j = if (L j && B j) = true then true else if A j = true then um L A B d (j + 1) else false := by
  show (L j && B j || A j && um L A B d (j + 1)) = _
  cases (L j && B j) <;> cases A j <;> rfl
