/-! counting, SINCE and UNTIL as recursions, four values of a variable -/
def ct (p : Nat → Bool) : Nat → Nat
  | 0 => 0
  | n + 1 => ct p n + (if p n = true then 1 else 0)
theorem ct_congr {p q : Nat → Bool} : ∀ {N : Nat}, (∀ i, i < N → p i = q i) → ct p N = ct q N
  | 0, _ => rfl
  | N + 1, h => by
    show ct p N + _ = ct q N + _
    rw [ct_congr (fun i hi => h i (by omega)), h N (by omega)]
theorem ct_le (p : Nat → Bool) : ∀ N : Nat, ct p N ≤ N
  | 0 => Nat.le_refl _
  | N + 1 => by
    show ct p N + _ ≤ N + 1
    have h := ct_le p N
    split <;> omega
theorem ct_add (p : Nat → Bool) (a : Nat) : ∀ b : Nat, ct p (a + b) = ct p a + ct (fun j => p (a + j)) b
  | 0 => rfl
  | b + 1 => by
    show ct p (a + b) + (if p (a + b) = true then 1 else 0) = ct p a + (ct (fun j => p (a + j)) b + (if p (a + b) = true then 1 else 0))
    rw [ct_add p a b, Nat.add_assoc]
theorem ct_flip {p q : Nat → Bool} {x : Nat} (hp : p x = false) (hq : q x = true) (h : ∀ y, y ≠ x → q y = p y) : ∀ {N : Nat}, x < N → ct q N = ct p N + 1
  | 0, hx => absurd hx (by omega)
  | N + 1, hx => by
    show ct q N + _ = ct p N + _ + 1
    by_cases e : N = x
    · subst e
      rw [hp, hq, ct_congr (q := p) (fun i hi => h i (by omega))]
      simp
    · rw [ct_flip hp hq h (N := N) (by omega), h N e]
      omega
theorem ct_pre {p : Nat → Bool} : ∀ {N i : Nat}, (∀ a b, a ≤ b → b < N → p b = true → p a = true) → i < ct p N → p i = true ∧ i < N
  | 0, i, _, h => absurd h (by simp [ct])
  | N + 1, i, mono, h => by
    have hN := ct_le p (N + 1)
    cases hp : p N with
    | true => exact ⟨mono i N (by omega) (by omega) hp, by omega⟩
    | false =>
      have h' : i < ct p N := by
        have e : ct p (N + 1) = ct p N + (if p N = true then 1 else 0) := rfl
        rw [e, hp] at h
        simpa using h
      have := ct_pre (N := N) (fun a b h1 h2 h3 => mono a b h1 (by omega) h3) h'
      exact ⟨this.1, by omega⟩
theorem ct_off {p : Nat → Bool} {a : Nat} : ∀ {N : Nat}, a ≤ N → (∀ i, a ≤ i → i < N → p i = false) → ct p N = ct p a
  | 0, h, _ => by
    have : a = 0 := by omega
    subst this; rfl
  | N + 1, h, hz => by
    by_cases e : a = N + 1
    · rw [e]
    · show ct p N + _ = _
      rw [hz N (by omega) (by omega), ct_off (N := N) (by omega) (fun i h1 h2 => hz i h1 (by omega))]
      simp
def anyb (p : Nat → Bool) : Nat → Bool
  | 0 => false
  | n + 1 => anyb p n || p n
theorem anyb_iff {p : Nat → Bool} : ∀ {N : Nat}, anyb p N = true ↔ ∃ i, i < N ∧ p i = true
  | 0 => ⟨fun h => (by cases h), fun ⟨i, h, _⟩ => absurd h (by omega)⟩
  | N + 1 => by
    show (anyb p N || p N) = true ↔ _
    rw [Bool.or_eq_true, anyb_iff (N := N)]
    constructor
    · rintro (⟨i, h1, h2⟩ | h)
      · exact ⟨i, by omega, h2⟩
      · exact ⟨N, by omega, h⟩
    · rintro ⟨i, h1, h2⟩
      by_cases e : i = N
      · subst e; exact Or.inr h2
      · exact Or.inl ⟨i, by omega, h2⟩
def allb (p : Nat → Bool) : Nat → Bool
  | 0 => true
  | n + 1 => allb p n && p n
theorem allb_iff {p : Nat → Bool} : ∀ {N : Nat}, allb p N = true ↔ ∀ i, i < N → p i = true
  | 0 => ⟨fun _ i h => absurd h (by omega), fun _ => rfl⟩
  | N + 1 => by
    show (allb p N && p N) = true ↔ _
    rw [Bool.and_eq_true, allb_iff (N := N)]
    constructor
    · rintro ⟨h, h2⟩ i hi
      by_cases e : i = N
      · subst e; exact h2
      · exact h i (by omega)
    · intro h
      exact ⟨fun i hi => h i (by omega), h N (by omega)⟩
/-- since: sm L A B (i + 1) is its value at the place i -/
def sm (L A B : Nat → Bool) : Nat → Bool
  | 0 => false
  | j + 1 => (L j && B j) || (A j && sm L A B j)
/-- until: um L A B d j looks at the d places from j on -/
def um (L A B : Nat → Bool) : Nat → Nat → Bool
  | 0, _ => false
  | d + 1, j => (L j && B j) || (A j && um L A B d (j + 1))
theorem sm_congr {L L' A A' B B' : Nat → Bool} : ∀ {k : Nat}, (∀ j, j < k → L j = L' j ∧ A j = A' j ∧ B j = B' j) → sm L A B k = sm L' A' B' k
  | 0, _ => rfl
  | k + 1, h => by
    show (L k && B k || A k && sm L A B k) = _
    rw [(h k (by omega)).1, (h k (by omega)).2.1, (h k (by omega)).2.2, sm_congr (k := k) (fun j hj => h j (by omega))]
    rfl
theorem um_congr {L L' A A' B B' : Nat → Bool} : ∀ {d j : Nat}, (∀ i, j ≤ i → i < j + d → L i = L' i ∧ A i = A' i ∧ B i = B' i) → um L A B d j = um L' A' B' d j
  | 0, _, _ => rfl
  | d + 1, j, h => by
    show (L j && B j || A j && um L A B d (j + 1)) = _
    rw [(h j (by omega) (by omega)).1, (h j (by omega) (by omega)).2.1, (h j (by omega) (by omega)).2.2, um_congr (d := d) (j := j + 1) (fun i h1 h2 => h i (by omega) (by omega))]
    rfl
theorem um_off {L A B : Nat → Bool} : ∀ {d j : Nat}, (∀ i, j ≤ i → i < j + d → L i = false) → um L A B d j = false
  | 0, _, _ => rfl
  | d + 1, j, h => by
    show (L j && B j || A j && um L A B d (j + 1)) = _
    rw [h j (by omega) (by omega), um_off (d := d) (j := j + 1) (fun i h1 h2 => h i (by omega) (by omega))]
    simp
theorem um_cut {L A B : Nat → Bool} : ∀ {c d j : Nat}, c ≤ d → (∀ i, j + c ≤ i → i < j + d → L i = false) → um L A B d j = um L A B c j
  | 0, d, j, _, h => by rw [um_off (fun i h1 h2 => h i (by omega) h2)]; rfl
  | c + 1, 0, j, hc, _ => absurd hc (by omega)
  | c + 1, d + 1, j, hc, h => by
    show (L j && B j || A j && um L A B d (j + 1)) = (L j && B j || A j && um L A B c (j + 1))
    rw [um_cut (c := c) (d := d) (j := j + 1) (by omega) (fun i h1 h2 => h i (by omega) (by omega))]
/-- four values -/
def a4 (q : Nat → Bool) : Bool := q 0 || q 1 || q 2 || q 3
theorem a4_iff {q : Nat → Bool} : a4 q = true ↔ ∃ d, d < 4 ∧ q d = true := by
  unfold a4
  simp only [Bool.or_eq_true]
  constructor
  · rintro (((h | h) | h) | h)
    · exact ⟨0, by omega, h⟩
    · exact ⟨1, by omega, h⟩
    · exact ⟨2, by omega, h⟩
    · exact ⟨3, by omega, h⟩
  · rintro ⟨d, hd, h⟩
    have : d = 0 ∨ d = 1 ∨ d = 2 ∨ d = 3 := by omega
    rcases this with rfl | rfl | rfl | rfl
    · exact Or.inl (Or.inl (Or.inl h))
    · exact Or.inl (Or.inl (Or.inr h))
    · exact Or.inl (Or.inr h)
    · exact Or.inr h
theorem a4_congr {p q : Nat → Bool} (h : ∀ d, d < 4 → p d = q d) : a4 p = a4 q := by
  unfold a4
  rw [h 0 (by omega), h 1 (by omega), h 2 (by omega), h 3 (by omega)]
/-- the value that the assignment n gives the term t -/
def vl (t n : Nat) : Nat := if t ≤ 2 then n / 4 ^ t % 4 else t - 4
/-- n with the value d at the variable v -/
def rp (v n d : Nat) : Nat := n - n / 4 ^ v % 4 * 4 ^ v + d * 4 ^ v
theorem rp_lt : ∀ v, v < 3 → ∀ n, n < 64 → ∀ d, d < 4 → rp v n d < 64 := by decide +kernel
/-- n with the value 0 at the variable v -/
def zr (v n : Nat) : Nat := n - n / 4 ^ v % 4 * 4 ^ v
theorem zr_lt : ∀ v, v < 3 → ∀ n, n < 64 → zr v n < 64 := by decide +kernel
theorem zr_zr : ∀ v, v < 3 → ∀ n, n < 64 → zr v n / 4 ^ v % 4 = 0 := by decide +kernel
theorem zr_add : ∀ v, v < 3 → ∀ n, n < 64 → zr v n + (n / 4 ^ v % 4) * 4 ^ v = n := by decide +kernel
theorem zr_up : ∀ v, v < 3 → ∀ n, n < 64 → ∀ d, d < 4 → n / 4 ^ v % 4 = 0 → zr v (n + d * 4 ^ v) = n ∧ n + d * 4 ^ v < 64 := by decide +kernel
theorem zr_sub : ∀ v, v < 3 → ∀ n, n < 64 → ∀ e, e < 4 → e * 4 ^ v ≤ n → (n - e * 4 ^ v) / 4 ^ v % 4 = 0 → e = n / 4 ^ v % 4 := by decide +kernel
theorem zr_le : ∀ v, v < 3 → ∀ n, n < 64 → n / 4 ^ v % 4 * 4 ^ v ≤ n := by decide +kernel
