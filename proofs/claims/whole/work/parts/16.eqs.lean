/-! free, ranged, bounded and progress as equations over the table; two solutions agree -/
def bI (b : Bool) : Int32 := if b = true then 1 else 0
def vr (t : Nat) : Int32 := if t ≤ 2 then (1 : Int32) <<< (nI t &&& 31) else 0
def mskN (v : Nat) : Int32 := ((1 : Int32) <<< (nI v &&& 31)) ^^^ (-1)
def frE (kd wh fi se : Nat → Nat) (fr : Nat → Int32) (k : Nat) : Int32 :=
  if kd k ≤ 2 then vr (fi k) ||| vr (se k)
  else if kd k = 6 then (fr (fi k) ||| fr (se k)) &&& mskN (wh k)
  else fr (fi k) ||| fr (se k)
def rgE (kd wh fi se : Nat → Nat) (rg : Nat → Int32) (k : Nat) : Int32 :=
  if kd k = 0 then vr (fi k) ||| vr (se k)
  else if kd k = 1 then (if vr (fi k) = 0 ∨ vr (se k) = 0 then vr (fi k) ||| vr (se k) else 0)
  else if kd k = 2 ∨ kd k = 3 then 0
  else if kd k = 4 then rg (fi k) ||| rg (se k)
  else if kd k = 5 then rg (fi k) &&& rg (se k)
  else if kd k = 6 then rg (fi k) &&& mskN (wh k)
  else rg (se k)
def erE (kd wh fi se : Nat → Nat) (rg : Nat → Int32) (er : Nat → Bool) (k : Nat) : Bool :=
  if kd k ≤ 2 then true else (!decide (kd k = 6) || bt (rg (fi k)) (wh k)) && (er (fi k) && er (se k))
section
variable {kd wh fi se : Nat → Nat} {lo hi T T' P P' : Nat → Int32} {X X' : Nat → Int64} {n N : Nat}
theorem frE_congr {fr fr' : Nat → Int32} {k : Nat} (h1 : 3 ≤ kd k → fr (fi k) = fr' (fi k)) (h2 : 3 ≤ kd k → fr (se k) = fr' (se k)) : frE kd wh fi se fr k = frE kd wh fi se fr' k := by
  unfold frE
  by_cases c : kd k ≤ 2
  · rw [if_pos c, if_pos c]
  · rw [if_neg c, if_neg c, h1 (by omega), h2 (by omega)]
theorem rgE_congr {rg rg' : Nat → Int32} {k : Nat} (h1 : 3 ≤ kd k → rg (fi k) = rg' (fi k)) (h2 : 3 ≤ kd k → rg (se k) = rg' (se k)) : rgE kd wh fi se rg k = rgE kd wh fi se rg' k := by
  unfold rgE
  by_cases c : kd k ≤ 2
  · have : kd k = 0 ∨ kd k = 1 ∨ kd k = 2 := by omega
    rcases this with e | e | e <;> simp [e]
  · rw [h1 (by omega), h2 (by omega)]
theorem erE_congr {rg rg' : Nat → Int32} {er er' : Nat → Bool} {k : Nat} (h0 : 3 ≤ kd k → rg (fi k) = rg' (fi k)) (h1 : 3 ≤ kd k → er (fi k) = er' (fi k)) (h2 : 3 ≤ kd k → er (se k) = er' (se k)) : erE kd wh fi se rg er k = erE kd wh fi se rg' er' k := by
  unfold erE
  by_cases c : kd k ≤ 2
  · rw [if_pos c, if_pos c]
  · rw [if_neg c, if_neg c, h0 (by omega), h1 (by omega), h2 (by omega)]
theorem rch_congr {rc rc' : Nat → Nat} {k : Nat} (eT : ∀ i, i < N → T' i = T i) (h1 : 3 ≤ kd k → rc (fi k) = rc' (fi k)) (h2 : 3 ≤ kd k → rc (se k) = rc' (se k)) : rch kd fi se hi T rc N k = rch kd fi se hi T' rc' N k := by
  unfold rch
  by_cases c : kd k ≤ 2
  · rw [if_pos c, if_pos c]
  · rw [if_neg c, if_neg c, h1 (by omega), h2 (by omega)]
    have e : dcd (hi k) T N (min (rc' (fi k)) (rc' (se k))) = dcd (hi k) T' N (min (rc' (fi k)) (rc' (se k))) := by
      unfold dcd
      apply ct_congr
      intro i hi
      rw [Bool.eq_iff_iff, anyb_iff, anyb_iff]
      constructor
      · rintro ⟨x, hx, h⟩
        exact ⟨x, hx, by rw [eT i hi, eT x (by omega)]; exact h⟩
      · rintro ⟨x, hx, h⟩
        exact ⟨x, hx, by rw [eT i hi, eT x (by omega)] at h; exact h⟩
    rw [e]
theorem sol_unique {α : Type} {F : (Nat → α) → Nat → α} (hV : tabOk kd wh fi se lo hi n) (hF : ∀ (f g : Nat → α) (k : Nat), (3 ≤ kd k → f (fi k) = g (fi k)) → (3 ≤ kd k → f (se k) = g (se k)) → F f k = F g k)
    {f g : Nat → α} {M : Nat} (hM : M ≤ n) (hf : ∀ k, k < M → f k = F f k) (hg : ∀ k, k < M → g k = F g k) : ∀ k, k < M → f k = g k := by
  intro k
  induction k using Nat.strongRecOn with
  | ind k ih =>
    intro hk
    rw [hf k hk, hg k hk]
    have hv := (hV k (by omega)).2.2.2.1
    exact hF f g k (fun h => ih _ (hv h).1 (by have := (hv h).1; omega)) (fun h => ih _ (hv h).2 (by have := (hv h).2; omega))
theorem rch_le (rc : Nat → Nat) (k : Nat) (h : 3 ≤ kd k → rc (fi k) ≤ N ∧ rc (se k) ≤ N) : rch kd fi se hi T rc N k ≤ N := by
  unfold rch
  by_cases c : kd k ≤ 2
  · rw [if_pos c]; omega
  · rw [if_neg c]
    obtain ⟨h1, h2⟩ := h (by omega)
    split
    · omega
    · split
      · exact dcd_le _ _ _ _
      · omega
theorem rch_all (hV : tabOk kd wh fi se lo hi n) {rc : Nat → Nat} {M : Nat} (hM : M ≤ n) (hr : ∀ k, k < M → rc k = rch kd fi se hi T rc N k) : ∀ k, k < M → rc k ≤ N := by
  intro k
  induction k using Nat.strongRecOn with
  | ind k ih =>
    intro hk
    rw [hr k hk]
    have hv := (hV k (by omega)).2.2.2.1
    exact rch_le rc k (fun h => ⟨ih _ (hv h).1 (by have := (hv h).1; omega), ih _ (hv h).2 (by have := (hv h).2; omega)⟩)
theorem rch_0 (rc : Nat → Nat) (k : Nat) (h : 3 ≤ kd k → rc (fi k) = 0 ∧ rc (se k) = 0) : rch kd fi se hi T rc 0 k = 0 := by
  have := rch_le (kd := kd) (fi := fi) (se := se) (hi := hi) (T := T) (N := 0) rc k (fun h' => by have := h h'; omega)
  omega
/-- the sets of other formulas than the parts, and the places that are not asked, don't count -/
theorem sat_congr {k i b : Nat} (hb : b < 64) (hw : wh k ≤ 2) (hiN : i < N) (h1 : 3 ≤ kd k → ∀ j, j < N → ∀ x, x < 64 → tb (X (24 * fi k + j)) x = tb (X' (24 * fi k + j)) x) (h2 : 3 ≤ kd k → ∀ j, j < N → ∀ x, x < 64 → tb (X (24 * se k + j)) x = tb (X' (24 * se k + j)) x) :
    sat kd wh fi se lo hi T P X N k i b = sat kd wh fi se lo hi T P X' N k i b := by
  unfold sat
  by_cases c : kd k ≤ 2
  · have : kd k = 0 ∨ kd k = 1 ∨ kd k = 2 := by omega
    rcases this with e | e | e <;> simp [e]
  · have g1 := h1 (by omega)
    have g2 := h2 (by omega)
    rw [g1 i hiN b hb, g2 i hiN b hb]
    have e6 : a4 (fun d => tb (X (24 * fi k + i)) (rp (wh k) b d)) = a4 (fun d => tb (X' (24 * fi k + i)) (rp (wh k) b d)) := by
      exact a4_congr (fun d hd => g1 i hiN _ (rp_lt (wh k) (by omega) b hb d hd))
    have e7 : tb (X (24 * fi k + (i - 1))) b = tb (X' (24 * fi k + (i - 1))) b := g1 (i - 1) (by omega) b hb
    have e8 : sm (fun j => ly (lo k) (hi k) (T i - T j)) (fun j => tb (X (24 * fi k + j)) b) (fun j => tb (X (24 * se k + j)) b) (i + 1) = sm (fun j => ly (lo k) (hi k) (T i - T j)) (fun j => tb (X' (24 * fi k + j)) b) (fun j => tb (X' (24 * se k + j)) b) (i + 1) :=
      sm_congr (fun j hj => ⟨rfl, g1 j (by omega) b hb, g2 j (by omega) b hb⟩)
    have e9 : um (fun j => ly (lo k) (hi k) (T j - T i)) (fun j => tb (X (24 * fi k + j)) b) (fun j => tb (X (24 * se k + j)) b) (N - i) i = um (fun j => ly (lo k) (hi k) (T j - T i)) (fun j => tb (X' (24 * fi k + j)) b) (fun j => tb (X' (24 * se k + j)) b) (N - i) i :=
      um_congr (fun j h1 h2 => ⟨rfl, g1 j (by omega) b hb, g2 j (by omega) b hb⟩)
    rw [e6, e7, e8, e9]
end
