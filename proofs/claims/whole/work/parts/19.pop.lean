/-! Long.bitCount counts the bits -/
theorem wb_tb (n : Nat) : (lN n).toBitVec = BitVec.ofNat 64 n := rfl
theorem wb_inj {a b : Int64} (h : a.toBitVec = b.toBitVec) : a = b := Int64.toBitVec_inj.mp h
theorem wb_tn {n : Nat} (h : n < 2 ^ 64) : (lN n).toBitVec.toNat = n := by rw [wb_tb, BitVec.toNat_ofNat, Nat.mod_eq_of_lt h]
theorem wb_of (x : Int64) : ∃ n, n < 2 ^ 64 ∧ x = lN n := ⟨x.toBitVec.toNat, x.toBitVec.isLt, wb_inj (by rw [wb_tb]; simp)⟩
theorem wb_shr {n k : Nat} (hn : n < 2 ^ 64) (hk : k < 64) : ((lN n).toUInt64 >>> ((nI k).toInt64.toUInt64 &&& Int64.toUInt64 63)).toInt64 = lN (n / 2 ^ k) := by
  rw [wb_cu k hk]
  apply wb_inj
  apply BitVec.eq_of_toNat_eq
  show ((lN n).toUInt64 >>> UInt64.ofNat k).toNat = (BitVec.ofNat 64 _).toNat
  have h1 : (UInt64.ofNat k).toNat = k := by
    show (BitVec.ofNat 64 k).toNat = k
    rw [BitVec.toNat_ofNat, Nat.mod_eq_of_lt (by omega)]
  have h2 : (lN n).toUInt64.toNat = n := wb_tn hn
  rw [UInt64.toNat_shiftRight, h1, h2, Nat.mod_eq_of_lt hk, Nat.shiftRight_eq_div_pow, BitVec.toNat_ofNat, Nat.mod_eq_of_lt (Nat.lt_of_le_of_lt (Nat.div_le_self _ _) hn)]
theorem wb_and {a b : Nat} (ha : a < 2 ^ 64) (hb : b < 2 ^ 64) : lN a &&& lN b = lN (a &&& b) := by
  apply wb_inj
  rw [Int64.toBitVec_and, wb_tb, wb_tb, wb_tb]
  apply BitVec.eq_of_toNat_eq
  rw [BitVec.toNat_and, BitVec.toNat_ofNat, BitVec.toNat_ofNat, BitVec.toNat_ofNat, Nat.mod_eq_of_lt ha, Nat.mod_eq_of_lt hb, Nat.mod_eq_of_lt (Nat.and_lt_two_pow _ hb)]
theorem tb_lN {u n : Nat} (hn : n < 64) : tb (lN u) n = u.testBit n := by
  unfold tb
  rw [wb_tb, BitVec.getLsbD_ofNat]
  simp [hn]
/-- k bytes c -/
def mk8 (c : Nat) : Nat → Nat
  | 0 => 0
  | k + 1 => c + 256 * mk8 c k
theorem and8 (x c m : Nat) (hc : c < 256) : x &&& (c + 256 * m) = (x % 256 &&& c) + 256 * (x / 256 &&& m) := by
  have h1 : (x &&& (c + 256 * m)) % 2 ^ 8 = (x % 2 ^ 8 &&& (c + 256 * m) % 2 ^ 8) := Nat.and_mod_two_pow
  have h2 : (x &&& (c + 256 * m)) / 2 ^ 8 = (x / 2 ^ 8 &&& (c + 256 * m) / 2 ^ 8) := Nat.and_div_two_pow
  have e1 : (c + 256 * m) % 2 ^ 8 = c := by omega
  have e2 : (c + 256 * m) / 2 ^ 8 = m := by omega
  rw [e1] at h1
  rw [e2] at h2
  have h3 := Nat.mod_add_div (x &&& (c + 256 * m)) (2 ^ 8)
  rw [h1, h2] at h3
  exact h3.symm
def p1 (k u : Nat) : Nat := u - (u / 2 &&& mk8 0x55 k)
def p2 (k u : Nat) : Nat := (u &&& mk8 0x33 k) + (u / 4 &&& mk8 0x33 k)
def p3 (k u : Nat) : Nat := (u + u / 16) &&& mk8 0x0f k
theorem p1_8 : ∀ a, a < 256 → ∀ b, b < 2 → ((a / 2 + 128 * b) % 256 &&& 0x55) = (a / 2 &&& 0x55) ∧ (a / 2 &&& 0x55) ≤ a := by decide +kernel
theorem p2_8 : ∀ a, a < 256 → ∀ b, b < 4 → ((a / 4 + 64 * b) % 256 &&& 0x33) = (a / 4 &&& 0x33) ∧ (a % 256 &&& 0x33) = (a &&& 0x33) := by decide +kernel
theorem p3_8 : ∀ a, a < 256 → ∀ b, b < 5 → p2 1 (p1 1 a) + p2 1 (p1 1 a) / 16 + 16 * b < 256 ∧ ((p2 1 (p1 1 a) + p2 1 (p1 1 a) / 16 + 16 * b) % 256 &&& 0x0f) = ct (fun j => a.testBit j) 8 ∧ p2 1 (p1 1 a) < 256 ∧ p2 1 (p1 1 a) % 16 < 5 ∧ p1 1 a < 256 := by decide +kernel
theorem p1_s {a u k : Nat} (ha : a < 256) : p1 (k + 1) (a + 256 * u) = p1 1 a + 256 * p1 k u := by
  have h := p1_8 a ha (u % 2) (by omega)
  have e0 : p1 1 a = a - (a / 2 &&& 0x55) := rfl
  have h2 : (u / 2 &&& mk8 0x55 k) ≤ u := Nat.le_trans Nat.and_le_left (Nat.div_le_self _ _)
  unfold p1 at e0 ⊢
  show a + 256 * u - ((a + 256 * u) / 2 &&& (0x55 + 256 * mk8 0x55 k)) = _
  rw [and8 _ 0x55 _ (by decide), show (a + 256 * u) / 2 % 256 = (a / 2 + 128 * (u % 2)) % 256 by omega, show (a + 256 * u) / 2 / 256 = u / 2 by omega, h.1, e0]
  have := h.2
  omega
theorem p2_s {a u k : Nat} (ha : a < 256) : p2 (k + 1) (a + 256 * u) = p2 1 a + 256 * p2 k u := by
  have h := p2_8 a ha (u % 4) (by omega)
  have e0 : p2 1 a = (a &&& 0x33) + (a / 4 &&& 0x33) := rfl
  rw [e0]
  unfold p2
  show ((a + 256 * u) &&& (0x33 + 256 * mk8 0x33 k)) + ((a + 256 * u) / 4 &&& (0x33 + 256 * mk8 0x33 k)) = _
  rw [and8 _ 0x33 _ (by decide), and8 _ 0x33 _ (by decide), show (a + 256 * u) % 256 = a % 256 by omega, show (a + 256 * u) / 256 = u by omega, show (a + 256 * u) / 4 % 256 = (a / 4 + 64 * (u % 4)) % 256 by omega, show (a + 256 * u) / 4 / 256 = u / 4 by omega, h.1, h.2]
  omega
theorem p3_s {a u k : Nat} (hb : a + a / 16 + 16 * (u % 16) < 256) : p3 (k + 1) (a + 256 * u) = ((a + a / 16 + 16 * (u % 16)) % 256 &&& 0x0f) + 256 * p3 k u := by
  unfold p3
  show ((a + 256 * u + (a + 256 * u) / 16) &&& (0x0f + 256 * mk8 0x0f k)) = _
  rw [and8 _ 0x0f _ (by decide), show (a + 256 * u + (a + 256 * u) / 16) % 256 = (a + a / 16 + 16 * (u % 16)) % 256 by omega, show (a + 256 * u + (a + 256 * u) / 16) / 256 = u + u / 16 by omega]
/-- the bytes' counts, side by side -/
def pb (u : Nat) : Nat → Nat
  | 0 => 0
  | k + 1 => ct (fun j => (u % 256).testBit j) 8 + 256 * pb (u / 256) k
theorem p_all : ∀ (k u : Nat), u < 256 ^ k → p3 k (p2 k (p1 k u)) = pb u k ∧ p2 k (p1 k u) % 16 < 5
  | 0, u, h => by
    have : u = 0 := by simpa using h
    subst this
    decide
  | k + 1, u, h => by
    have hu : u / 256 < 256 ^ k := by
      rw [Nat.pow_succ] at h
      exact Nat.div_lt_of_lt_mul (by rw [Nat.mul_comm]; exact h)
    obtain ⟨i1, i2⟩ := p_all k (u / 256) hu
    have e : u % 256 + 256 * (u / 256) = u := Nat.mod_add_div u 256
    have ha : u % 256 < 256 := Nat.mod_lt _ (by decide)
    obtain ⟨q1, q2, q3, q4, q5⟩ := p3_8 (u % 256) ha (p2 k (p1 k (u / 256)) % 16) i2
    have r1 : p2 (k + 1) (p1 (k + 1) u) = p2 1 (p1 1 (u % 256)) + 256 * p2 k (p1 k (u / 256)) := by
      rw [← e, p1_s ha, p2_s q5, e]
    rw [r1]
    refine ⟨?_, by omega⟩
    rw [p3_s q1, q2, i1]
    rfl
theorem ct8_le (p : Nat → Bool) : ct p 8 ≤ 8 := ct_le p 8
theorem pb_ct : ∀ (k u : Nat), ∃ S, S = ct (fun j => u.testBit j) (8 * k)
  | _, _ => ⟨_, rfl⟩
theorem ct_byte (u k : Nat) : ct (fun j => u.testBit j) (8 + k) = ct (fun j => (u % 256).testBit j) 8 + ct (fun j => (u / 256).testBit j) k := by
  rw [ct_add]
  congr 1
  · apply ct_congr
    intro i hi
    have := Nat.testBit_mod_two_pow u 8 i
    rw [decide_eq_true hi, Bool.true_and] at this
    exact this.symm
  · apply ct_congr
    intro i _
    have : (u / 2 ^ 8).testBit i = u.testBit (8 + i) := by rw [Nat.testBit_div_two_pow]; congr 1; omega
    exact this.symm
/-- the last three steps -/
theorem dg1 {x b y : Nat} (h : x = b + 256 * y) (hb : b < 256) : x / 256 = y := by omega
theorem dg2 {x b0 b1 y : Nat} (h : x = b0 + 256 * (b1 + 256 * y)) (h0 : b0 < 256) (h1 : b1 < 256) : x / 65536 = y := by omega
theorem dg4 {x b0 b1 b2 b3 y : Nat} (h : x = b0 + 256 * (b1 + 256 * (b2 + 256 * (b3 + 256 * y)))) (h0 : b0 < 256) (h1 : b1 < 256) (h2 : b2 < 256) (h3 : b3 < 256) : x / 4294967296 = y := by omega
theorem dgm {x b y : Nat} (h : x = b + 256 * y) (hb : b < 128) : x % 128 = b := by omega
theorem dgb {b0 b1 b2 b3 b4 b5 b6 b7 : Nat} (h0 : b0 ≤ 32) (h1 : b1 ≤ 32) (h2 : b2 ≤ 32) (h3 : b3 ≤ 32) (h4 : b4 ≤ 32) (h5 : b5 ≤ 32) (h6 : b6 ≤ 32) (h7 : b7 ≤ 32) : b0 + 256 * (b1 + 256 * (b2 + 256 * (b3 + 256 * (b4 + 256 * (b5 + 256 * (b6 + 256 * (b7))))))) < 4611686018427387904 := by omega
theorem lin4 (b0 b1 b2 b3 b4 b5 b6 b7 : Nat) : (b0 + 256 * (b1 + 256 * (b2 + 256 * (b3 + 256 * (b4 + 256 * (b5 + 256 * (b6 + 256 * (b7)))))))) + (b1 + 256 * (b2 + 256 * (b3 + 256 * (b4 + 256 * (b5 + 256 * (b6 + 256 * (b7))))))) = (b0 + b1) + 256 * ((b1 + b2) + 256 * ((b2 + b3) + 256 * ((b3 + b4) + 256 * ((b4 + b5) + 256 * ((b5 + b6) + 256 * ((b6 + b7) + 256 * (b7))))))) := by omega
theorem lin5 (b0 b1 b2 b3 b4 b5 b6 b7 : Nat) : ((b0 + b1) + 256 * ((b1 + b2) + 256 * ((b2 + b3) + 256 * ((b3 + b4) + 256 * ((b4 + b5) + 256 * ((b5 + b6) + 256 * ((b6 + b7) + 256 * (b7)))))))) + ((b2 + b3) + 256 * ((b3 + b4) + 256 * ((b4 + b5) + 256 * ((b5 + b6) + 256 * ((b6 + b7) + 256 * (b7)))))) = (b0 + b1 + b2 + b3) + 256 * ((b1 + b2 + b3 + b4) + 256 * ((b2 + b3 + b4 + b5) + 256 * ((b3 + b4 + b5 + b6) + 256 * ((b4 + b5 + b6 + b7) + 256 * ((b5 + b6 + b7) + 256 * ((b6 + b7) + 256 * (b7))))))) := by omega
theorem lin6 (b0 b1 b2 b3 b4 b5 b6 b7 : Nat) : ((b0 + b1 + b2 + b3) + 256 * ((b1 + b2 + b3 + b4) + 256 * ((b2 + b3 + b4 + b5) + 256 * ((b3 + b4 + b5 + b6) + 256 * ((b4 + b5 + b6 + b7) + 256 * ((b5 + b6 + b7) + 256 * ((b6 + b7) + 256 * (b7)))))))) + ((b4 + b5 + b6 + b7) + 256 * ((b5 + b6 + b7) + 256 * ((b6 + b7) + 256 * (b7)))) = (b0 + b1 + b2 + b3 + b4 + b5 + b6 + b7) + 256 * ((b1 + b2 + b3 + b4 + (b5 + b6 + b7)) + 256 * ((b2 + b3 + b4 + b5 + (b6 + b7)) + 256 * ((b3 + b4 + b5 + b6 + b7) + 256 * ((b4 + b5 + b6 + b7) + 256 * ((b5 + b6 + b7) + 256 * ((b6 + b7) + 256 * (b7))))))) := by omega
theorem p_sum {b0 b1 b2 b3 b4 b5 b6 b7 i3 i4 i5 i6 : Nat} (h0 : b0 ≤ 8) (h1 : b1 ≤ 8) (h2 : b2 ≤ 8) (h3 : b3 ≤ 8) (h4 : b4 ≤ 8) (h5 : b5 ≤ 8) (h6 : b6 ≤ 8) (h7 : b7 ≤ 8)
    (e3 : i3 = b0 + 256 * (b1 + 256 * (b2 + 256 * (b3 + 256 * (b4 + 256 * (b5 + 256 * (b6 + 256 * (b7)))))))) (e4 : i4 = i3 + i3 / 256) (e5 : i5 = i4 + i4 / 65536) (e6 : i6 = i5 + i5 / 4294967296) :
    i6 % 128 = b0 + b1 + b2 + b3 + b4 + b5 + b6 + b7 ∧ i3 < 4611686018427387904 ∧ i4 < 4611686018427387904 ∧ i5 < 4611686018427387904 := by
  have f4 : i4 = (b0 + b1) + 256 * ((b1 + b2) + 256 * ((b2 + b3) + 256 * ((b3 + b4) + 256 * ((b4 + b5) + 256 * ((b5 + b6) + 256 * ((b6 + b7) + 256 * (b7))))))) := by
    rw [e4, dg1 e3 (Nat.lt_of_le_of_lt h0 (by decide)), e3]
    exact lin4 b0 b1 b2 b3 b4 b5 b6 b7
  have c0 : b0 + b1 ≤ 16 := Nat.add_le_add h0 h1
  have c1 : b1 + b2 ≤ 16 := Nat.add_le_add h1 h2
  have c2 : b2 + b3 ≤ 16 := Nat.add_le_add h2 h3
  have c3 : b3 + b4 ≤ 16 := Nat.add_le_add h3 h4
  have c4 : b4 + b5 ≤ 16 := Nat.add_le_add h4 h5
  have c5 : b5 + b6 ≤ 16 := Nat.add_le_add h5 h6
  have c6 : b6 + b7 ≤ 16 := Nat.add_le_add h6 h7
  have f5 : i5 = (b0 + b1 + b2 + b3) + 256 * ((b1 + b2 + b3 + b4) + 256 * ((b2 + b3 + b4 + b5) + 256 * ((b3 + b4 + b5 + b6) + 256 * ((b4 + b5 + b6 + b7) + 256 * ((b5 + b6 + b7) + 256 * ((b6 + b7) + 256 * (b7))))))) := by
    rw [e5, dg2 f4 (Nat.lt_of_le_of_lt c0 (by decide)) (Nat.lt_of_le_of_lt c1 (by decide)), f4]
    exact lin5 b0 b1 b2 b3 b4 b5 b6 b7
  have g0 : b0 + b1 + b2 + b3 ≤ 32 := Nat.add_le_add (Nat.add_le_add c0 h2) h3
  have g1 : b1 + b2 + b3 + b4 ≤ 32 := Nat.add_le_add (Nat.add_le_add c1 h3) h4
  have g2 : b2 + b3 + b4 + b5 ≤ 32 := Nat.add_le_add (Nat.add_le_add c2 h4) h5
  have g3 : b3 + b4 + b5 + b6 ≤ 32 := Nat.add_le_add (Nat.add_le_add c3 h5) h6
  have g4 : b4 + b5 + b6 + b7 ≤ 32 := Nat.add_le_add (Nat.add_le_add c4 h6) h7
  have g5 : b5 + b6 + b7 ≤ 32 := Nat.le_trans (Nat.add_le_add c5 h7) (by decide)
  have l8 : ∀ {x : Nat}, x ≤ 8 → x ≤ 32 := fun h => Nat.le_trans h (by decide)
  have l16 : ∀ {x : Nat}, x ≤ 16 → x ≤ 32 := fun h => Nat.le_trans h (by decide)
  have l256 : ∀ {x : Nat}, x ≤ 32 → x < 256 := fun h => Nat.lt_of_le_of_lt h (by decide)
  refine ⟨?_, by rw [e3]; exact dgb (l8 h0) (l8 h1) (l8 h2) (l8 h3) (l8 h4) (l8 h5) (l8 h6) (l8 h7), by rw [f4]; exact dgb (l16 c0) (l16 c1) (l16 c2) (l16 c3) (l16 c4) (l16 c5) (l16 c6) (l8 h7), by rw [f5]; exact dgb g0 g1 g2 g3 g4 g5 (l16 c6) (l8 h7)⟩
  have f6 : i6 = (b0 + b1 + b2 + b3 + b4 + b5 + b6 + b7) + 256 * ((b1 + b2 + b3 + b4 + (b5 + b6 + b7)) + 256 * ((b2 + b3 + b4 + b5 + (b6 + b7)) + 256 * ((b3 + b4 + b5 + b6 + b7) + 256 * ((b4 + b5 + b6 + b7) + 256 * ((b5 + b6 + b7) + 256 * ((b6 + b7) + 256 * (b7))))))) := by
    rw [e6, dg4 f5 (l256 g0) (l256 g1) (l256 g2) (l256 g3), f5]
    exact lin6 b0 b1 b2 b3 b4 b5 b6 b7
  refine dgm f6 ?_
  have k1 := Nat.add_le_add g0 g4
  clear f6 f5 f4 e3 e4 e5 e6
  omega
theorem pop_nat {u : Nat} (hu : u < 256 ^ 8) {i3 i4 i5 i6 : Nat} (e3 : i3 = p3 8 (p2 8 (p1 8 u))) (e4 : i4 = i3 + i3 / 256) (e5 : i5 = i4 + i4 / 65536) (e6 : i6 = i5 + i5 / 4294967296) :
    i6 % 128 = ct (fun j => u.testBit j) 64 ∧ i3 < 4611686018427387904 ∧ i4 < 4611686018427387904 ∧ i5 < 4611686018427387904 := by
  rw [(p_all 8 u hu).1] at e3
  have hs := p_sum (ct8_le _) (ct8_le _) (ct8_le _) (ct8_le _) (ct8_le _) (ct8_le _) (ct8_le _) (ct8_le _) (show i3 = ct (fun j => (u % 256).testBit j) 8 + 256 * (ct (fun j => (u / 256 % 256).testBit j) 8 + 256 * (ct (fun j => (u / 256 / 256 % 256).testBit j) 8 + 256 * (ct (fun j => (u / 256 / 256 / 256 % 256).testBit j) 8 + 256 * (ct (fun j => (u / 256 / 256 / 256 / 256 % 256).testBit j) 8 + 256 * (ct (fun j => (u / 256 / 256 / 256 / 256 / 256 % 256).testBit j) 8 + 256 * (ct (fun j => (u / 256 / 256 / 256 / 256 / 256 / 256 % 256).testBit j) 8 + 256 * (ct (fun j => (u / 256 / 256 / 256 / 256 / 256 / 256 / 256 % 256).testBit j) 8))))))) from e3) e4 e5 e6
  refine ⟨?_, hs.2⟩
  rw [hs.1]
  have h64 : ct (fun j => u.testBit j) (8 + (8 + (8 + (8 + (8 + (8 + (8 + (8 + 0)))))))) = ct (fun j => (u % 256).testBit j) 8 + (ct (fun j => (u / 256 % 256).testBit j) 8 + (ct (fun j => (u / 256 / 256 % 256).testBit j) 8 + (ct (fun j => (u / 256 / 256 / 256 % 256).testBit j) 8 + (ct (fun j => (u / 256 / 256 / 256 / 256 % 256).testBit j) 8 + (ct (fun j => (u / 256 / 256 / 256 / 256 / 256 % 256).testBit j) 8 + (ct (fun j => (u / 256 / 256 / 256 / 256 / 256 / 256 % 256).testBit j) 8 + (ct (fun j => (u / 256 / 256 / 256 / 256 / 256 / 256 / 256 % 256).testBit j) 8 + 0))))))) := by
    rw [ct_byte, ct_byte, ct_byte, ct_byte, ct_byte, ct_byte, ct_byte, ct_byte]
    rfl
  rw [show (64 : Nat) = 8 + (8 + (8 + (8 + (8 + (8 + (8 + (8 + 0))))))) from rfl, h64]
  simp only [Nat.add_zero, Nat.add_assoc]
def ush (x : Int64) (k : Int32) : Int64 := (x.toUInt64 >>> (k.toInt64.toUInt64 &&& Int64.toUInt64 63)).toInt64
def bc1 (x : Int64) : Int64 := x - (ush x 1 &&& 6148914691236517205)
def bc2 (x : Int64) : Int64 := (x &&& 3689348814741910323) + (ush x 2 &&& 3689348814741910323)
def bc3 (x : Int64) : Int64 := (x + ush x 4) &&& 1085102592571150095
def bcF (x : Int64) : Int32 :=
  (((bc3 (bc2 (bc1 x)) + ush (bc3 (bc2 (bc1 x))) 8) + ush (bc3 (bc2 (bc1 x)) + ush (bc3 (bc2 (bc1 x))) 8) 16) + ush ((bc3 (bc2 (bc1 x)) + ush (bc3 (bc2 (bc1 x))) 8) + ush (bc3 (bc2 (bc1 x)) + ush (bc3 (bc2 (bc1 x))) 8) 16) 32).toInt32 &&& 127
theorem ush_lN {n : Nat} (k : Nat) (hn : n < 2 ^ 64) (hk : k < 64) : ush (lN n) (nI k) = lN (n / 2 ^ k) := wb_shr hn hk
theorem mk_lt : mk8 0x55 8 = 6148914691236517205 ∧ mk8 0x33 8 = 3689348814741910323 ∧ mk8 0x0f 8 = 1085102592571150095 := by decide +kernel
theorem bc1_lN {u : Nat} (hu : u < 2 ^ 64) : bc1 (lN u) = lN (p1 8 u) ∧ p1 8 u < 2 ^ 64 := by
  have h1 : ush (lN u) 1 = lN (u / 2) := ush_lN 1 hu (by decide)
  have hle : (u / 2 &&& mk8 0x55 8) ≤ u := Nat.le_trans Nat.and_le_left (Nat.div_le_self _ _)
  refine ⟨?_, Nat.lt_of_le_of_lt (Nat.sub_le _ _) hu⟩
  unfold bc1 p1
  rw [h1, show (6148914691236517205 : Int64) = lN 6148914691236517205 from rfl, wb_and (by omega) (by decide), lN_sub (by rw [mk_lt.1] at hle; exact hle), mk_lt.1]
theorem bc2_lN {v : Nat} (hv : v < 2 ^ 64) : bc2 (lN v) = lN (p2 8 v) ∧ p2 8 v ≤ 2 * 3689348814741910323 := by
  have h1 : ush (lN v) 2 = lN (v / 4) := ush_lN 2 hv (by decide)
  have a1 : (v &&& mk8 0x33 8) ≤ mk8 0x33 8 := Nat.and_le_right
  have a2 : (v / 4 &&& mk8 0x33 8) ≤ mk8 0x33 8 := Nat.and_le_right
  unfold bc2 p2
  rw [mk_lt.2.1] at a1 a2 ⊢
  refine ⟨?_, by omega⟩
  rw [h1, show (3689348814741910323 : Int64) = lN 3689348814741910323 from rfl, wb_and hv (by decide), wb_and (by omega) (by decide), lN_add]
theorem bc3_lN {w : Nat} (hw : w ≤ 2 * 3689348814741910323) : bc3 (lN w) = lN (p3 8 w) := by
  have h1 : ush (lN w) 4 = lN (w / 16) := ush_lN 4 (by omega) (by decide)
  unfold bc3 p3
  rw [mk_lt.2.2, h1, show (1085102592571150095 : Int64) = lN 1085102592571150095 from rfl, lN_add, wb_and (by omega) (by decide)]
theorem bc_eq (x : Int64) : bcF x = nI (ct (tb x) 64) := by
  obtain ⟨u, hu, rfl⟩ := wb_of x
  obtain ⟨e1, b1⟩ := bc1_lN hu
  obtain ⟨e2, b2⟩ := bc2_lN b1
  have e3 := bc3_lN b2
  obtain ⟨hs, q3, q4, q5⟩ := pop_nat (show u < 256 ^ 8 from hu) (i3 := p3 8 (p2 8 (p1 8 u))) rfl rfl rfl rfl
  unfold bcF
  rw [e1, e2, e3]
  generalize p3 8 (p2 8 (p1 8 u)) = i3 at hs q3 q4 q5
  rw [show ush (lN i3) 8 = lN (i3 / 256) from ush_lN 8 (by omega) (by decide), lN_add]
  generalize i3 + i3 / 256 = i4 at hs q4 q5
  rw [show ush (lN i4) 16 = lN (i4 / 65536) from ush_lN 16 (by omega) (by decide), lN_add]
  generalize i4 + i4 / 65536 = i5 at hs q5
  rw [show ush (lN i5) 32 = lN (i5 / 4294967296) from ush_lN 32 (by omega) (by decide), lN_add]
  generalize i5 + i5 / 4294967296 = i6 at hs
  rw [lN_i, pk_and (nI i6) 7 (m := 127) (by decide)]
  have e7 : (nI i6).toBitVec.toNat = i6 % 2 ^ 32 := by
    show (BitVec.ofNat 32 i6).toNat = _
    rw [BitVec.toNat_ofNat]
  rw [e7, show i6 % 2 ^ 32 % 2 ^ 7 = i6 % 128 by omega, hs]
  congr 1
  apply ct_congr
  intro i hi
  exact (tb_lN hi).symm
