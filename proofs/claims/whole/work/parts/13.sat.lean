/-! what a formula's set at a place is, its progress, and that what is decided stays -/
def ly (lo hi d : Int32) : Bool := decide (lo ≤ d) && (decide (hi = -1) || decide (d ≤ hi))
/-- does the assignment n satisfy f at i (X: the sets of all formulas, 24 to a formula; N places) -/
def sat (kd wh fi se : Nat → Nat) (lo hi T P : Nat → Int32) (X : Nat → Int64) (N f i n : Nat) : Bool :=
  if kd f = 0 then bt (P (24 * wh f + i)) (vl (fi f) n + 4 * vl (se f) n)
  else if kd f = 1 then decide (vl (fi f) n = vl (se f) n)
  else if kd f = 2 then decide (vl (fi f) n < vl (se f) n)
  else if kd f = 3 then !tb (X (24 * fi f + i)) n
  else if kd f = 4 then tb (X (24 * fi f + i)) n && tb (X (24 * se f + i)) n
  else if kd f = 5 then tb (X (24 * fi f + i)) n || tb (X (24 * se f + i)) n
  else if kd f = 6 then a4 (fun d => tb (X (24 * fi f + i)) (rp (wh f) n d))
  else if kd f = 7 then decide (0 < i) && (ly (lo f) (hi f) (T i - T (i - 1)) && tb (X (24 * fi f + (i - 1))) n)
  else if kd f = 8 then sm (fun j => ly (lo f) (hi f) (T i - T j)) (fun j => tb (X (24 * fi f + j)) n) (fun j => tb (X (24 * se f + j)) n) (i + 1)
  else um (fun j => ly (lo f) (hi f) (T j - T i)) (fun j => tb (X (24 * fi f + j)) n) (fun j => tb (X (24 * se f + j)) n) (N - i) i
/-- the places i that are decided for UNTIL when its parts are known up to m (as the reference counts them) -/
def dcd (hi : Int32) (T : Nat → Int32) (N m : Nat) : Nat := ct (fun i => anyb (fun k => decide (T i + hi < T k)) (min (m + 1) N)) N
def rch (kd fi se : Nat → Nat) (hi T : Nat → Int32) (rc : Nat → Nat) (N k : Nat) : Nat :=
  if kd k ≤ 2 then N
  else if kd k = 7 then min N (min (rc (fi k)) (rc (se k)) + 1)
  else if kd k = 9 then dcd (hi k) T N (min (rc (fi k)) (rc (se k)))
  else min (rc (fi k)) (rc (se k))
theorem nI_lt3 {a b c : Nat} (ha : a ≤ 1000000) (hb : b ≤ 1000000) (hc : c ≤ 1000000) : nI a + nI b < nI c ↔ a + b < c := by
  rw [nI_add, nI_ltI (by omega) (by omega)]
theorem nI_dif {a b c : Nat} (ha : a ≤ 1000000) (hb : b ≤ 1000000) (hab : a ≤ b) (hc : c ≤ 1000000) : nI c < nI b - nI a ↔ a + c < b := by
  rw [pk_sub hab, nI_ltI (by omega) (by omega)]
  omega
/-- times: t i below N, never falling, at most 1000000 -/
def tmOk (T : Nat → Int32) (t : Nat → Nat) (N : Nat) : Prop := (∀ i, i < N → T i = nI (t i) ∧ t i ≤ 1000000) ∧ ∀ i j, i ≤ j → j < N → t i ≤ t j
/-- UNTIL's count, as the class works it out -/
theorem dcd_eq {T : Nat → Int32} {t : Nat → Nat} {N m h : Nat} {hi : Int32} (hT : tmOk T t N) (hh : hi = nI h) (hb : h ≤ 1000000) (hN : 0 < N) :
    dcd hi T N m = ct (fun i => decide (hi < T (min m (N - 1)) - T i)) (min m (N - 1)) := by
  subst hh
  have e1 : ∀ i, i < N → anyb (fun k => decide (T i + nI h < T k)) (min (m + 1) N) = decide (t i + h < t (min m (N - 1))) := by
    intro i hi
    rw [Bool.eq_iff_iff, anyb_iff, decide_eq_true_eq]
    constructor
    · rintro ⟨k, hk, h2⟩
      rw [decide_eq_true_eq, (hT.1 i hi).1, (hT.1 k (by omega)).1, nI_lt3 (hT.1 i hi).2 hb (hT.1 k (by omega)).2] at h2
      have := hT.2 k (min m (N - 1)) (by omega) (by omega)
      omega
    · intro h2
      refine ⟨min m (N - 1), by omega, ?_⟩
      rw [decide_eq_true_eq, (hT.1 i hi).1, (hT.1 (min m (N - 1)) (by omega)).1, nI_lt3 (hT.1 i hi).2 hb (hT.1 _ (by omega)).2]
      exact h2
  unfold dcd
  rw [ct_congr e1, ct_off (a := min m (N - 1)) (by omega) (fun i h1 h2 => ?_)]
  · apply ct_congr
    intro i hi
    rw [(hT.1 i (by omega)).1, (hT.1 (min m (N - 1)) (by omega)).1, Bool.eq_iff_iff, decide_eq_true_eq, decide_eq_true_eq,
      nI_dif (hT.1 i (by omega)).2 (hT.1 _ (by omega)).2 (hT.2 i _ (by omega) (by omega)) hb]
  · have := hT.2 (min m (N - 1)) i h1 h2
    exact decide_eq_false (by omega)
theorem dcd_0 (hi : Int32) (T : Nat → Int32) (m : Nat) : dcd hi T 0 m = 0 := rfl
theorem dcd_le (hi : Int32) (T : Nat → Int32) (N m : Nat) : dcd hi T N m ≤ N := ct_le _ _
/-- a place that is counted: the time at 'last' lies beyond it -/
theorem dcd_at {T : Nat → Int32} {t : Nat → Nat} {N m h i : Nat} {hi : Int32} (hT : tmOk T t N) (hh : hi = nI h) (hb : h ≤ 1000000) (hi2 : i < dcd hi T N m) :
    i < min m (N - 1) ∧ t i + h < t (min m (N - 1)) := by
  have hN : 0 < N := by
    rcases Nat.eq_zero_or_pos N with e | e
    · subst e
      exact absurd hi2 (by rw [dcd_0]; omega)
    · exact e
  rw [dcd_eq hT hh hb hN] at hi2
  have hp : ∀ x, x < min m (N - 1) → (decide (hi < T (min m (N - 1)) - T x) = true ↔ t x + h < t (min m (N - 1))) := by
    intro x hx
    rw [decide_eq_true_eq, hh, (hT.1 x (by omega)).1, (hT.1 (min m (N - 1)) (by omega)).1, nI_dif (hT.1 x (by omega)).2 (hT.1 _ (by omega)).2 (hT.2 x _ (by omega) (by omega)) hb]
  obtain ⟨h1, h2⟩ := ct_pre (fun a b h1 h2 h3 => by
    rw [hp a (by omega)]
    rw [hp b h2] at h3
    have := hT.2 a b h1 (by omega)
    omega) hi2
  exact ⟨h2, (hp i h2).mp h1⟩
/-- the table is as the making calls leave it -/
def tabOk (kd wh fi se : Nat → Nat) (lo hi : Nat → Int32) (n : Nat) : Prop := ∀ k, k < n →
  kd k ≤ 9 ∧ wh k ≤ 2 ∧ (kd k ≤ 2 → (fi k ≤ 2 ∨ (4 ≤ fi k ∧ fi k ≤ 7)) ∧ (se k ≤ 2 ∨ (4 ≤ se k ∧ se k ≤ 7))) ∧ (3 ≤ kd k → fi k < k ∧ se k < k) ∧
  ((kd k = 3 ∨ kd k = 6 ∨ kd k = 7) → se k = fi k) ∧ (kd k = 9 → ∃ h : Nat, h ≤ 1000000 ∧ hi k = nI h)
/-- nothing lies in the interval of an UNTIL's place at and beyond 'last' -/
theorem ly_off {T : Nat → Int32} {t : Nat → Nat} {N h i j : Nat} {lo hi : Int32} (hT : tmOk T t N) (hh : hi = nI h) (hb : h ≤ 1000000) (hij : i ≤ j) (hj : j < N) (ho : t i + h < t j) : ly lo hi (T j - T i) = false := by
  unfold ly
  have h1 : ¬ hi = -1 := by
    rw [hh]
    intro e
    have := congrArg Int32.toInt e
    rw [nI_toInt (by omega)] at this
    have h9 : (-1 : Int32).toInt = -1 := by decide
    omega
  have h2 : ¬ T j - T i ≤ hi := by
    rw [hh, (hT.1 i (by omega)).1, (hT.1 j hj).1, pk_sub (by omega), nI_leI (by have := (hT.1 j hj).2; omega) (by omega)]
    omega
  rw [decide_eq_false h1, decide_eq_false h2]
  simp
/-- one formula: below its progress its set hangs on the parts' sets below theirs, and on nothing that comes later -/
theorem sat_step {kd wh fi se : Nat → Nat} {lo hi T T' P P' : Nat → Int32} {X X' : Nat → Int64} {rc t : Nat → Nat} {n N N' k i b : Nat} (hV : tabOk kd wh fi se lo hi n) (hk : k < n) (hNN : N ≤ N')
    (hT : tmOk T' t N') (eT : ∀ i, i < N → T' i = T i) (eP : ∀ r i, r < 3 → i < N → P' (24 * r + i) = P (24 * r + i)) (hik : i < rch kd fi se hi T rc N k) (hiN : i < N) (hb : b < 64)
    (ihf : 3 ≤ kd k → ∀ j, j < rc (fi k) → ∀ x, x < 64 → tb (X' (24 * fi k + j)) x = tb (X (24 * fi k + j)) x) (ihs : 3 ≤ kd k → ∀ j, j < rc (se k) → ∀ x, x < 64 → tb (X' (24 * se k + j)) x = tb (X (24 * se k + j)) x) :
    sat kd wh fi se lo hi T' P' X' N' k i b = sat kd wh fi se lo hi T P X N k i b := by
  obtain ⟨v9, vw, vt, vp, vs, vh⟩ := hV k hk
  have hrk := hik
  unfold rch at hrk
  by_cases c2 : kd k ≤ 2
  · unfold sat
    have : kd k = 0 ∨ kd k = 1 ∨ kd k = 2 := by omega
    rcases this with e | e | e
    · simp only [e, if_true]
      rw [eP (wh k) i (by omega) hiN]
    · simp [e]
    · simp [e]
  · rw [if_neg c2] at hrk
    have ihf := ihf (by omega)
    have ihs := ihs (by omega)
    by_cases c7 : kd k = 7
    · rw [if_pos c7] at hrk
      have hse := vs (Or.inr (Or.inr c7))
      unfold sat
      simp only [c7]
      by_cases h0 : 0 < i
      · rw [eT i hiN, eT (i - 1) (by omega)]
        simp only [Nat.reduceEqDiff, if_false, if_true]
        rw [ihf (i - 1) (by omega) b hb]
      · simp [h0]
    · rw [if_neg c7] at hrk
      by_cases c9 : kd k = 9
      · rw [if_pos c9] at hrk
        obtain ⟨h, hb9, hh⟩ := vh c9
        have hTN : tmOk T t N := ⟨fun x hx => ⟨(eT x hx).symm.trans (hT.1 x (by omega)).1, (hT.1 x (by omega)).2⟩, fun x y h1 h2 => hT.2 x y h1 (by omega)⟩
        obtain ⟨d1, d2⟩ := dcd_at hTN hh hb9 hrk
        generalize hlast : min (min (rc (fi k)) (rc (se k))) (N - 1) = last at d1 d2
        unfold sat
        simp only [c9]
        simp only [Nat.reduceEqDiff, if_false]
        have off' : ∀ x, i + (last - i) ≤ x → x < i + (N' - i) → ly (lo k) (hi k) (T' x - T' i) = false := fun x h1 h2 => ly_off hT hh hb9 (by omega) (by omega) (by have := hT.2 last x (by omega) (by omega); omega)
        have off : ∀ x, i + (last - i) ≤ x → x < i + (N - i) → ly (lo k) (hi k) (T x - T i) = false := fun x h1 h2 => ly_off hTN hh hb9 (by omega) (by omega) (by have := hTN.2 last x (by omega) (by omega); omega)
        rw [um_cut (c := last - i) (d := N' - i) (by omega) off', um_cut (c := last - i) (d := N - i) (by omega) off]
        apply um_congr
        intro x h1 h2
        refine ⟨by rw [eT x (by omega), eT i hiN], ihf x (by omega) b hb, ihs x (by omega) b hb⟩
      · rw [if_neg c9] at hrk
        have hif : i < rc (fi k) := by omega
        have his : i < rc (se k) := by omega
        by_cases c8 : kd k = 8
        · unfold sat
          simp only [c8]
          simp only [Nat.reduceEqDiff, if_false, if_true]
          apply sm_congr
          intro x hx
          exact ⟨by rw [eT x (by omega), eT i hiN], ihf x (by omega) b hb, ihs x (by omega) b hb⟩
        · have : kd k = 3 ∨ kd k = 4 ∨ kd k = 5 ∨ kd k = 6 := by omega
          unfold sat
          rcases this with e | e | e | e
          · simp only [e, Nat.reduceEqDiff, if_false, if_true]
            rw [ihf i hif b hb]
          · simp only [e, Nat.reduceEqDiff, if_false, if_true]
            rw [ihf i hif b hb, ihs i his b hb]
          · simp only [e, Nat.reduceEqDiff, if_false, if_true]
            rw [ihf i hif b hb, ihs i his b hb]
          · simp only [e, Nat.reduceEqDiff, if_false, if_true]
            exact a4_congr (fun d hd => ihf i hif _ (rp_lt (wh k) (by omega) b hb d hd))
/-- what is below the progress stays when a place comes -/
theorem stay {kd wh fi se : Nat → Nat} {lo hi T T' P P' : Nat → Int32} {X X' : Nat → Int64} {rc t : Nat → Nat} {n N : Nat} (hV : tabOk kd wh fi se lo hi n)
    (hT : tmOk T' t (N + 1)) (eT : ∀ i, i < N → T' i = T i) (eP : ∀ r i, r < 3 → i < N → P' (24 * r + i) = P (24 * r + i))
    (hX : ∀ k, k < n → ∀ i, i < N → ∀ b, b < 64 → tb (X (24 * k + i)) b = sat kd wh fi se lo hi T P X N k i b)
    (hX' : ∀ k, k < n → ∀ i, i < N + 1 → ∀ b, b < 64 → tb (X' (24 * k + i)) b = sat kd wh fi se lo hi T' P' X' (N + 1) k i b)
    (hr : ∀ k, k < n → rc k = rch kd fi se hi T rc N k) (hle : ∀ k, k < n → rc k ≤ N) :
    ∀ k, k < n → ∀ i, i < rc k → ∀ b, b < 64 → tb (X' (24 * k + i)) b = tb (X (24 * k + i)) b := by
  intro k
  induction k using Nat.strongRecOn with
  | ind k ih =>
    intro hk i hi b hb
    have hiN : i < N := by have := hle k hk; omega
    rw [hX k hk i hiN b hb, hX' k hk i (by omega) b hb]
    have hv := (hV k hk).2.2.2.1
    exact sat_step hV hk (by omega) hT eT eP (by rw [← hr k hk]; exact hi) hiN hb (fun h => ih _ (hv h).1 (by have := (hv h).1; omega)) (fun h => ih _ (hv h).2 (by have := (hv h).2; omega))
