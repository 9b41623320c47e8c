/-! bits of Int32 and Int64. The rows bt, b_*, s_l, s_u, wb_* stand as in kit/laws/BITS.to-paste -/
def bt (x : Int32) (i : Nat) : Bool := x.toBitVec.getLsbD i
theorem b_ext {x y : Int32} (h : ∀ i, i < 32 → bt x i = bt y i) : x = y := Int32.toBitVec_inj.mp (BitVec.eq_of_getLsbD_eq (fun i hi => h i hi))
theorem b_or (x y : Int32) (i : Nat) : bt (x ||| y) i = (bt x i || bt y i) := by unfold bt; rw [Int32.toBitVec_or, BitVec.getLsbD_or]
theorem b_and (x y : Int32) (i : Nat) : bt (x &&& y) i = (bt x i && bt y i) := by unfold bt; rw [Int32.toBitVec_and, BitVec.getLsbD_and]
theorem b_xor (x y : Int32) (i : Nat) : bt (x ^^^ y) i = (bt x i ^^ bt y i) := by unfold bt; rw [Int32.toBitVec_xor, BitVec.getLsbD_xor]
theorem b_big {x : Int32} {i : Nat} (h : 32 ≤ i) : bt x i = false := BitVec.getLsbD_of_ge _ _ h
theorem b_m1 : ∀ i, i < 32 → bt (-1) i = true := by decide +kernel
theorem b_0 (i : Nat) : bt 0 i = false := BitVec.getLsbD_zero
theorem b_1 : ∀ i, i < 32 → bt 1 i = decide (i = 0) := by decide +kernel
theorem s_l : ∀ n, n < 32 → ((nI n &&& 31).toBitVec.smod 32).toNat = n := by decide +kernel
theorem b_shl (n : Nat) (hn : n < 32) (x : Int32) {i : Nat} (hi : i < 32) : bt (x <<< (nI n &&& 31)) i = (decide (n ≤ i) && bt x (i - n)) := by
  unfold bt
  rw [Int32.toBitVec_shiftLeft]
  show (x.toBitVec <<< ((nI n &&& 31).toBitVec.smod 32).toNat).getLsbD i = _
  rw [s_l n hn, BitVec.getLsbD_shiftLeft]
  rcases Nat.lt_or_ge i n with h | h
  · simp [h, Nat.not_le.mpr h]
  · simp [hi, h, Nat.not_lt.mpr h]
theorem b_sshr (n : Nat) (hn : n < 32) (x : Int32) {i : Nat} (hi : i < 32) : bt (x >>> (nI n &&& 31)) i = if n + i < 32 then bt x (n + i) else bt x 31 := by
  unfold bt
  rw [Int32.toBitVec_shiftRight]
  show (x.toBitVec.sshiftRight ((nI n &&& 31).toBitVec.smod 32).toNat).getLsbD i = _
  rw [s_l n hn, BitVec.getLsbD_sshiftRight, BitVec.msb_eq_getLsbD_last]
  simp [hi]
theorem b_bit {k i : Nat} (hk : k < 32) (hi : i < 32) : bt ((1 : Int32) <<< (nI k &&& 31)) i = decide (i = k) := by
  rw [b_shl k hk 1 hi, b_1 (i - k) (by omega)]
  by_cases h : i = k
  · subst h; simp
  · by_cases h2 : k ≤ i
    · have h3 : ¬ (i - k = 0) := by omega
      simp [h, h3]
    · simp [h, h2]
theorem b_and1 (y : Int32) : y &&& 1 = if bt y 0 = true then 1 else 0 := by
  cases hb : bt y 0
  · apply b_ext
    intro n hn
    rw [b_and, b_1 n hn]
    simp only [Bool.false_eq_true, if_false, b_0]
    by_cases h : n = 0
    · subst h; rw [hb]; rfl
    · simp [h]
  · apply b_ext
    intro n hn
    rw [b_and, b_1 n hn]
    simp only [if_true, b_1 n hn]
    by_cases h : n = 0
    · subst h; rw [hb]; rfl
    · simp [h]
theorem b_sh0 (x : Int32) {k : Nat} (hk : k < 32) : bt (x >>> (nI k &&& 31)) 0 = bt x k := by
  rw [b_sshr k hk x (by decide)]
  simp [hk]
theorem b_tst1 (x : Int32) {k : Nat} (hk : k < 32) : (x >>> (nI k &&& 31)) &&& 1 = if bt x k = true then 1 else 0 := by
  rw [b_and1, b_sh0 x hk]
theorem b_one_ne : ¬ ((1 : Int32) = 0) := by decide
theorem b_tst_one (x : Int32) {k : Nat} (hk : k < 32) : (x >>> (nI k &&& 31)) &&& 1 = 1 ↔ bt x k = true := by
  rw [b_tst1 x hk]
  cases bt x k
  · exact ⟨fun h => absurd h.symm b_one_ne, fun h => by cases h⟩
  · exact ⟨fun _ => rfl, fun _ => rfl⟩
theorem b_tst_zero (x : Int32) {k : Nat} (hk : k < 32) : (x >>> (nI k &&& 31)) &&& 1 = 0 ↔ bt x k = false := by
  rw [b_tst1 x hk]
  cases bt x k
  · exact ⟨fun _ => rfl, fun _ => rfl⟩
  · exact ⟨fun h => absurd h b_one_ne, fun h => by cases h⟩
theorem b_andbit (x : Int32) {k : Nat} (hk : k < 32) : x &&& ((1 : Int32) <<< (nI k &&& 31)) = 0 ↔ bt x k = false := by
  constructor
  · intro h
    have t : bt (x &&& ((1 : Int32) <<< (nI k &&& 31))) k = bt 0 k := by rw [h]
    rw [b_and, b_bit hk hk, b_0] at t
    simpa using t
  · intro h
    apply b_ext
    intro n hn
    rw [b_and, b_bit hk hn, b_0]
    by_cases e : n = k
    · subst e; rw [h]; rfl
    · simp [e]
theorem b_orbit (x : Int32) {k n : Nat} (hk : k < 32) (hn : n < 32) : bt (x ||| ((1 : Int32) <<< (nI k &&& 31))) n = (bt x n || decide (n = k)) := by
  rw [b_or, b_bit hk hn]
theorem b_or0 (x : Int32) : 0 ||| x = x := by
  apply b_ext
  intro n hn
  rw [b_or, b_0, Bool.false_or]
theorem b_orx (x : Int32) : x ||| x = x := by
  apply b_ext
  intro n hn
  rw [b_or, Bool.or_self]
theorem wb_c : ∀ k, k < 64 → ((nI k).toInt64 &&& 63) = lN k := by decide +kernel
theorem wb_cu : ∀ k, k < 64 → ((nI k).toInt64.toUInt64 &&& Int64.toUInt64 63) = UInt64.ofNat k := by decide +kernel
theorem ml_s64 : ∀ k, k < 64 → (((nI k).toInt64 &&& 63).toBitVec.smod 64).toNat = k := by decide +kernel
theorem ml_u64 : ∀ k, k < 64 → ((UInt64.ofNat k).toBitVec % 64).toNat = k := by decide +kernel
def tb (x : Int64) (n : Nat) : Bool := x.toBitVec.getLsbD n
theorem tb_ext {x y : Int64} (h : ∀ n, n < 64 → tb x n = tb y n) : x = y := Int64.toBitVec_inj.mp (BitVec.eq_of_getLsbD_eq (fun i hi => h i hi))
theorem tb_or (x y : Int64) (n : Nat) : tb (x ||| y) n = (tb x n || tb y n) := by unfold tb; rw [Int64.toBitVec_or, BitVec.getLsbD_or]
theorem tb_and (x y : Int64) (n : Nat) : tb (x &&& y) n = (tb x n && tb y n) := by unfold tb; rw [Int64.toBitVec_and, BitVec.getLsbD_and]
theorem tb_xor (x y : Int64) (n : Nat) : tb (x ^^^ y) n = (tb x n ^^ tb y n) := by unfold tb; rw [Int64.toBitVec_xor, BitVec.getLsbD_xor]
theorem tb_big {x : Int64} {n : Nat} (h : 64 ≤ n) : tb x n = false := BitVec.getLsbD_of_ge _ _ h
theorem tb_0 (n : Nat) : tb 0 n = false := BitVec.getLsbD_zero
theorem tb_1 : ∀ n, n < 64 → tb 1 n = decide (n = 0) := by decide +kernel
theorem tb_m1 : ∀ n, n < 64 → tb (-1) n = true := by decide +kernel
theorem tb_not (x : Int64) {n : Nat} (h : n < 64) : tb (x ^^^ (-1)) n = !tb x n := by
  rw [tb_xor, tb_m1 n h]
  cases tb x n <;> rfl
theorem tb_shl (x : Int64) {k n : Nat} (hk : k < 64) (hn : n < 64) : tb (x <<< ((nI k).toInt64 &&& 63)) n = (decide (k ≤ n) && tb x (n - k)) := by
  unfold tb
  rw [Int64.toBitVec_shiftLeft]
  show (x.toBitVec <<< (((nI k).toInt64 &&& 63).toBitVec.smod 64).toNat).getLsbD n = _
  rw [ml_s64 k hk, BitVec.getLsbD_shiftLeft]
  rcases Nat.lt_or_ge n k with h | h
  · simp [h, Nat.not_le.mpr h]
  · simp [hn, h, Nat.not_lt.mpr h]
theorem tb_ushr (x : Int64) {k : Nat} (hk : k < 64) (n : Nat) : tb ((x.toUInt64 >>> ((nI k).toInt64.toUInt64 &&& Int64.toUInt64 63)).toInt64) n = tb x (k + n) := by
  rw [wb_cu k hk]
  show (x.toUInt64 >>> UInt64.ofNat k).toBitVec.getLsbD n = x.toUInt64.toBitVec.getLsbD (k + n)
  rw [UInt64.toBitVec_shiftRight]
  show (x.toUInt64.toBitVec >>> ((UInt64.ofNat k).toBitVec % 64).toNat).getLsbD n = _
  rw [ml_u64 k hk, BitVec.getLsbD_ushiftRight]
theorem tb_sshr (x : Int64) {k n : Nat} (hk : k < 64) (hn : n < 64) : tb (x >>> ((nI k).toInt64 &&& 63)) n = if k + n < 64 then tb x (k + n) else tb x 63 := by
  unfold tb
  rw [Int64.toBitVec_shiftRight]
  show (x.toBitVec.sshiftRight (((nI k).toInt64 &&& 63).toBitVec.smod 64).toNat).getLsbD n = _
  rw [ml_s64 k hk, BitVec.getLsbD_sshiftRight, BitVec.msb_eq_getLsbD_last]
  simp [hn]
theorem tb_bit {k n : Nat} (hk : k < 64) (hn : n < 64) : tb ((1 : Int64) <<< ((nI k).toInt64 &&& 63)) n = decide (n = k) := by
  rw [tb_shl 1 hk hn, tb_1 (n - k) (by omega)]
  by_cases h : n = k
  · subst h; simp
  · by_cases h2 : k ≤ n
    · have h3 : ¬ (n - k = 0) := by omega
      simp [h, h3]
    · simp [h, h2]
theorem tb_and1 (y : Int64) : y &&& 1 = if tb y 0 = true then 1 else 0 := by
  cases hb : tb y 0
  · apply tb_ext
    intro n hn
    rw [tb_and, tb_1 n hn]
    simp only [Bool.false_eq_true, if_false, tb_0]
    by_cases h : n = 0
    · subst h; rw [hb]; rfl
    · simp [h]
  · apply tb_ext
    intro n hn
    rw [tb_and, tb_1 n hn]
    simp only [if_true, tb_1 n hn]
    by_cases h : n = 0
    · subst h; rw [hb]; rfl
    · simp [h]
theorem tb_one_ne : ¬ ((1 : Int64) = 0) := by decide
theorem tb_sh0 (x : Int64) {k : Nat} (hk : k < 64) : tb (x >>> ((nI k).toInt64 &&& 63)) 0 = tb x k := by
  rw [tb_sshr x hk (by decide)]
  simp [hk]
theorem tb_tst (x : Int64) {k : Nat} (hk : k < 64) : (x >>> ((nI k).toInt64 &&& 63)) &&& 1 = 1 ↔ tb x k = true := by
  rw [tb_and1, tb_sh0 x hk]
  cases tb x k
  · exact ⟨fun h => absurd h.symm tb_one_ne, fun h => by cases h⟩
  · exact ⟨fun _ => rfl, fun _ => rfl⟩
theorem tb_andbit (x : Int64) {k : Nat} (hk : k < 64) : x &&& ((1 : Int64) <<< ((nI k).toInt64 &&& 63)) = 0 ↔ tb x k = false := by
  constructor
  · intro h
    have t : tb (x &&& ((1 : Int64) <<< ((nI k).toInt64 &&& 63))) k = tb 0 k := by rw [h]
    rw [tb_and, tb_bit hk hk, tb_0] at t
    simpa using t
  · intro h
    apply tb_ext
    intro n hn
    rw [tb_and, tb_bit hk hn, tb_0]
    by_cases e : n = k
    · subst e; rw [h]; rfl
    · simp [e]
theorem tb_orbit (x : Int64) {k n : Nat} (hk : k < 64) (hn : n < 64) : tb (x ||| ((1 : Int64) <<< ((nI k).toInt64 &&& 63))) n = (tb x n || decide (n = k)) := by
  rw [tb_or, tb_bit hk hn]
theorem lg_cmp0 (x y : Int64) : lg_cmp x y = 0 ↔ x = y := by
  unfold lg_cmp
  by_cases h1 : y < x
  · simp only [h1, if_true]
    refine ⟨fun h => absurd h (by decide), fun h => ?_⟩
    subst h
    exact absurd h1 (by rw [Int64.lt_iff_toInt_lt]; omega)
  · by_cases h2 : x = y
    · simp [h2]
    · simp [h1, h2]
