/-! the formulas in the heap, over the table -/
def xt (kd wh fi se : Nat → Nat) (lo hi : Nat → Int32) (ad : Nat → Nat) (k : Nat) : List Value :=
  if kd k = 0 then [.int (nI (wh k)), .int (nI (fi k)), .int (nI (se k))]
  else if kd k = 1 then [.int 0, .int (nI (fi k)), .int (nI (se k))]
  else if kd k = 2 then [.int 1, .int (nI (fi k)), .int (nI (se k))]
  else if kd k = 3 then [.ref (ad (fi k))]
  else if kd k = 4 then [.int 1, .ref (ad (fi k)), .ref (ad (se k))]
  else if kd k = 5 then [.int 0, .ref (ad (fi k)), .ref (ad (se k))]
  else if kd k = 6 then [.int (nI (wh k)), .ref (ad (fi k))]
  else if kd k = 7 then [.int (lo k), .int (hi k), .ref (ad (fi k))]
  else [.int (lo k), .int (hi k), .ref (ad (fi k)), .ref (ad (se k))]
def cx (kd : Nat) : Nat := if kd = 0 then 0 else if kd ≤ 2 then 1 else if kd = 3 then 2 else if kd ≤ 5 then 3 else if kd = 6 then 4 else if kd = 7 then 5 else if kd = 8 then 6 else 7
theorem cx_lt (kd : Nat) : cx kd < 8 := by
  unfold cx
  repeat' split
  all_goals decide
/-- formula k's object -/
def fo (kd wh fi se : Nat → Nat) (lo hi fr rg er : Nat → Int32) (dc ad sa : Nat → Nat) (k : Nat) : va_E :=
  .inr (cx (kd k), .int (fr k) :: .int (rg k) :: .int (er k) :: .int (nI (dc k)) :: .ref (sa k) :: xt kd wh fi se lo hi ad k)
/-- formula k in the heap: its object, its sets -/
def fmk (K : KT) (kd wh fi se : Nat → Nat) (lo hi fr rg er : Nat → Int32) (dc ad sa : Nat → Nat) (stt : Nat → Nat → Int64) (H : Heap) (k : Nat) : Prop :=
  va_at K.1 classes (ad k, fo kd wh fi se lo hi fr rg er dc ad sa k) H ∧ va_at K.1 classes (sa k, .inl (kJ K, 24, .inr (.inl (stt k)))) H
section
variable {kd wh fi se : Nat → Nat} {lo hi fr rg er T P : Nat → Int32} {X : Nat → Int64} {dc ad sa rc : Nat → Nat} {stt : Nat → Nat → Int64} {N k i b : Nat}
theorem fo_0 (h : kd k = 0) : fo kd wh fi se lo hi fr rg er dc ad sa k = .inr (0, [.int (fr k), .int (rg k), .int (er k), .int (nI (dc k)), .ref (sa k), .int (nI (wh k)), .int (nI (fi k)), .int (nI (se k))]) := by simp [fo, xt, cx, h]
theorem fo_1 (h : kd k = 1) : fo kd wh fi se lo hi fr rg er dc ad sa k = .inr (1, [.int (fr k), .int (rg k), .int (er k), .int (nI (dc k)), .ref (sa k), .int 0, .int (nI (fi k)), .int (nI (se k))]) := by simp [fo, xt, cx, h]
theorem fo_2 (h : kd k = 2) : fo kd wh fi se lo hi fr rg er dc ad sa k = .inr (1, [.int (fr k), .int (rg k), .int (er k), .int (nI (dc k)), .ref (sa k), .int 1, .int (nI (fi k)), .int (nI (se k))]) := by simp [fo, xt, cx, h]
theorem fo_3 (h : kd k = 3) : fo kd wh fi se lo hi fr rg er dc ad sa k = .inr (2, [.int (fr k), .int (rg k), .int (er k), .int (nI (dc k)), .ref (sa k), .ref (ad (fi k))]) := by simp [fo, xt, cx, h]
theorem fo_4 (h : kd k = 4) : fo kd wh fi se lo hi fr rg er dc ad sa k = .inr (3, [.int (fr k), .int (rg k), .int (er k), .int (nI (dc k)), .ref (sa k), .int 1, .ref (ad (fi k)), .ref (ad (se k))]) := by simp [fo, xt, cx, h]
theorem fo_5 (h : kd k = 5) : fo kd wh fi se lo hi fr rg er dc ad sa k = .inr (3, [.int (fr k), .int (rg k), .int (er k), .int (nI (dc k)), .ref (sa k), .int 0, .ref (ad (fi k)), .ref (ad (se k))]) := by simp [fo, xt, cx, h]
theorem fo_6 (h : kd k = 6) : fo kd wh fi se lo hi fr rg er dc ad sa k = .inr (4, [.int (fr k), .int (rg k), .int (er k), .int (nI (dc k)), .ref (sa k), .int (nI (wh k)), .ref (ad (fi k))]) := by simp [fo, xt, cx, h]
theorem fo_7 (h : kd k = 7) : fo kd wh fi se lo hi fr rg er dc ad sa k = .inr (5, [.int (fr k), .int (rg k), .int (er k), .int (nI (dc k)), .ref (sa k), .int (lo k), .int (hi k), .ref (ad (fi k))]) := by simp [fo, xt, cx, h]
theorem fo_8 (h : kd k = 8) : fo kd wh fi se lo hi fr rg er dc ad sa k = .inr (6, [.int (fr k), .int (rg k), .int (er k), .int (nI (dc k)), .ref (sa k), .int (lo k), .int (hi k), .ref (ad (fi k)), .ref (ad (se k))]) := by simp [fo, xt, cx, h]
theorem fo_9 (h : kd k = 9) : fo kd wh fi se lo hi fr rg er dc ad sa k = .inr (7, [.int (fr k), .int (rg k), .int (er k), .int (nI (dc k)), .ref (sa k), .int (lo k), .int (hi k), .ref (ad (fi k)), .ref (ad (se k))]) := by simp [fo, xt, cx, h]
theorem sat_0 (h : kd k = 0) : sat kd wh fi se lo hi T P X N k i b = bt (P (24 * wh k + i)) (vl (fi k) b + 4 * vl (se k) b) := by simp [sat, h]
theorem sat_1 (h : kd k = 1) : sat kd wh fi se lo hi T P X N k i b = decide (vl (fi k) b = vl (se k) b) := by simp [sat, h]
theorem sat_2 (h : kd k = 2) : sat kd wh fi se lo hi T P X N k i b = decide (vl (fi k) b < vl (se k) b) := by simp [sat, h]
theorem sat_3 (h : kd k = 3) : sat kd wh fi se lo hi T P X N k i b = !tb (X (24 * fi k + i)) b := by simp [sat, h]
theorem sat_4 (h : kd k = 4) : sat kd wh fi se lo hi T P X N k i b = (tb (X (24 * fi k + i)) b && tb (X (24 * se k + i)) b) := by simp [sat, h]
theorem sat_5 (h : kd k = 5) : sat kd wh fi se lo hi T P X N k i b = (tb (X (24 * fi k + i)) b || tb (X (24 * se k + i)) b) := by simp [sat, h]
theorem sat_6 (h : kd k = 6) : sat kd wh fi se lo hi T P X N k i b = a4 (fun d => tb (X (24 * fi k + i)) (rp (wh k) b d)) := by simp [sat, h]
theorem sat_7 (h : kd k = 7) : sat kd wh fi se lo hi T P X N k i b = (decide (0 < i) && (ly (lo k) (hi k) (T i - T (i - 1)) && tb (X (24 * fi k + (i - 1))) b)) := by simp [sat, h]
theorem sat_8 (h : kd k = 8) : sat kd wh fi se lo hi T P X N k i b = sm (fun j => ly (lo k) (hi k) (T i - T j)) (fun j => tb (X (24 * fi k + j)) b) (fun j => tb (X (24 * se k + j)) b) (i + 1) := by simp [sat, h]
theorem sat_9 (h : kd k = 9) : sat kd wh fi se lo hi T P X N k i b = um (fun j => ly (lo k) (hi k) (T j - T i)) (fun j => tb (X (24 * fi k + j)) b) (fun j => tb (X (24 * se k + j)) b) (N - i) i := by simp [sat, h]
theorem rch_a (h : kd k ≤ 2) : rch kd fi se hi T rc N k = N := by simp [rch, h]
theorem rch_m (h1 : ¬ kd k ≤ 2) (h2 : ¬ kd k = 7) (h3 : ¬ kd k = 9) : rch kd fi se hi T rc N k = min (rc (fi k)) (rc (se k)) := by simp [rch, h1, h2, h3]
theorem rch_7 (h : kd k = 7) : rch kd fi se hi T rc N k = min N (min (rc (fi k)) (rc (se k)) + 1) := by simp [rch, h]
theorem rch_9 (h : kd k = 9) : rch kd fi se hi T rc N k = dcd (hi k) T N (min (rc (fi k)) (rc (se k))) := by simp [rch, h]
theorem yv_sv {k j : Nat} (hj : j < 24) : yv dc stt (24 * k + j) = sv (dc k) (stt k) j := by
  unfold yv sv
  rw [show (24 * k + j) % 24 = j by omega, show (24 * k + j) / 24 = k by omega]
end
