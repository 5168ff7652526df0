/-! Bits. -/
theorem nI_ofI {x : Int} (h : 0 ≤ x) : Int32.ofInt x = Int32.ofNat x.toNat := by
  obtain ⟨n, rfl⟩ := Int.eq_ofNat_of_zero_le h
  rw [Int.toNat_natCast]
  exact Int32.ofInt_eq_ofNat
theorem sN_and (a b : Nat) : Int32.ofNat a &&& Int32.ofNat b = Int32.ofNat (a &&& b) := by
  apply Int32.toBitVec_inj.mp
  rw [Int32.toBitVec_and]
  show BitVec.ofNat 32 a &&& BitVec.ofNat 32 b = BitVec.ofNat 32 (a &&& b)
  rw [BitVec.ofNat_and]
theorem sN_or (a b : Nat) : Int32.ofNat a ||| Int32.ofNat b = Int32.ofNat (a ||| b) := by
  apply Int32.toBitVec_inj.mp
  rw [Int32.toBitVec_or]
  show BitVec.ofNat 32 a ||| BitVec.ofNat 32 b = BitVec.ofNat 32 (a ||| b)
  rw [BitVec.ofNat_or]
theorem sN_i {a : Nat} (h : a < 2147483648) : (Int32.ofNat a).toInt = a := Int32.toInt_ofNat_of_lt (by omega)
theorem bAnd_n {x y : Int} (hx : 0 ≤ x) (hy : 0 ≤ y) (h : x < 2147483648) : bAnd x y = ((x.toNat &&& y.toNat : Nat) : Int) := by
  unfold bAnd
  rw [nI_ofI hx, nI_ofI hy, sN_and, sN_i (Nat.lt_of_le_of_lt Nat.and_le_left (by omega))]
theorem or_lt {a b k : Nat} (ha : a < 2 ^ k) (hb : b < 2 ^ k) : a ||| b < 2 ^ k := Nat.or_lt_two_pow ha hb
theorem bOr_n {x y : Int} (hx : 0 ≤ x) (hy : 0 ≤ y) (h : x < 2147483648) (h2 : y < 2147483648) : bOr x y = ((x.toNat ||| y.toNat : Nat) : Int) := by
  unfold bOr
  have := or_lt (a := x.toNat) (b := y.toNat) (k := 31) (by omega) (by omega)
  rw [nI_ofI hx, nI_ofI hy, sN_or, sN_i (by omega)]
theorem sN_sl : ∀ n, n < 32 → ((Int32.ofNat n &&& 31).toBitVec.smod 32).toNat = n := by decide +kernel
theorem bShr_n {x k : Int} (hx : 0 ≤ x) (h : x < 2147483648) (hk : 0 ≤ k) (hk2 : k < 32) : bShr x k = ((x.toNat / 2 ^ k.toNat : Nat) : Int) := by
  unfold bShr
  rw [nI_ofI hx, nI_ofI hk, show Int32.ofNat x.toNat >>> (Int32.ofNat k.toNat &&& 31) = Int32.ofNat (x.toNat / 2 ^ k.toNat) from pk_shrN (by omega) _ k.toNat (sN_sl k.toNat (by omega)), sN_i (Nat.lt_of_le_of_lt (Nat.div_le_self _ _) (by omega))]
theorem bShl1_all : ∀ k : Nat, k < 31 → bShl 1 (k : Int) = ((2 ^ k : Nat) : Int) := by decide +kernel
theorem bShl1 {k : Int} (h0 : 0 ≤ k) (h1 : k < 31) : bShl 1 k = ((2 ^ k.toNat : Nat) : Int) := by
  obtain ⟨n, rfl⟩ := Int.eq_ofNat_of_zero_le h0
  rw [Int.toNat_natCast]
  exact bShl1_all n (by omega)
def tb (d i : Int) : Bool := d.toNat.testBit i.toNat
theorem bit_nat (a i : Nat) : a / 2 ^ i % 2 = if a.testBit i then 1 else 0 := by
  rw [← Nat.toNat_testBit]
  cases a.testBit i <;> rfl
theorem bit_tb {d i : Int} (h0 : 0 ≤ d) (h1 : d < 2147483648) (i0 : 0 ≤ i) (i1 : i < 32) : bAnd (bShr d i) 1 = if tb d i then 1 else 0 := by
  have hq : d.toNat / 2 ^ i.toNat < 2147483648 := Nat.lt_of_le_of_lt (Nat.div_le_self _ _) (by omega)
  rw [bShr_n h0 h1 i0 i1, bAnd_n (Int.natCast_nonneg _) (by omega) (by omega), Int.toNat_natCast]
  show ((d.toNat / 2 ^ i.toNat &&& 1 : Nat) : Int) = _
  rw [Nat.and_one_is_mod, bit_nat]
  unfold tb
  cases d.toNat.testBit i.toNat <;> rfl
theorem bOr_lt {x y : Int} {k : Nat} (hx : 0 ≤ x) (hy : 0 ≤ y) (hk : k ≤ 31) (h : x.toNat < 2 ^ k) (h2 : y.toNat < 2 ^ k) : 0 ≤ bOr x y ∧ (bOr x y).toNat < 2 ^ k := by
  have hp : 2 ^ k ≤ 2 ^ 31 := Nat.pow_le_pow_right (by decide) hk
  rw [bOr_n hx hy (by omega) (by omega)]
  exact ⟨by omega, by rw [Int.toNat_natCast]; exact or_lt h h2⟩
theorem bOr_lt20 {x y : Int} (hx : 0 ≤ x) (hy : 0 ≤ y) (h : x < 1048576) (h2 : y < 1048576) : 0 ≤ bOr x y ∧ bOr x y < 1048576 := by
  have := bOr_lt (k := 20) hx hy (by decide) (by omega) (by omega)
  omega
theorem tb_or {x y i : Int} (hx : 0 ≤ x) (hy : 0 ≤ y) (h : x < 2147483648) (h2 : y < 2147483648) : tb (bOr x y) i = (tb x i || tb y i) := by
  unfold tb
  rw [bOr_n hx hy h h2, Int.toNat_natCast, Nat.testBit_or]
theorem tb_shl {j i : Int} (h0 : 0 ≤ j) (h1 : j < 31) (i0 : 0 ≤ i) : tb (bShl 1 j) i = decide (i = j) := by
  unfold tb
  rw [bShl1 h0 h1, Int.toNat_natCast, Nat.testBit_two_pow]
  by_cases h : i = j
  · subst h; simp
  · have h3 : ¬ j.toNat = i.toNat := by omega
    rw [decide_eq_false h, decide_eq_false h3]
theorem tb_hi {d i : Int} (h : d.toNat < 2 ^ i.toNat) : tb d i = false := Nat.testBit_lt_two_pow h
theorem bShl1_lt {j : Int} {n : Nat} (h0 : 0 ≤ j) (h1 : j < 31) (h2 : j.toNat < n) : 0 ≤ bShl 1 j ∧ (bShl 1 j).toNat < 2 ^ n := by
  rw [bShl1 h0 h1]
  exact ⟨Int.natCast_nonneg _, by rw [Int.toNat_natCast]; exact Nat.pow_lt_pow_right (by decide) h2⟩
