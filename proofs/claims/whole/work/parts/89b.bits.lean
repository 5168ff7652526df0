/-! Ones of a whole number. -/
theorem ush_all : ∀ k : Nat, k < 32 → (((Int32.ofNat k).toUInt32 &&& Int32.toUInt32 31).toNat % 32 = k) := by decide +kernel
theorem bUsh_n {x : Int} {k : Nat} (hx : 0 ≤ x) (h : x < 2147483648) (hk : k < 32) : bUsh x (k : Int) = x / 2 ^ k := by
  obtain ⟨n, rfl⟩ := Int.eq_ofNat_of_zero_le hx
  unfold bUsh
  rw [nI_ofI (by omega), nI_ofI (by omega), Int.toNat_natCast, Int.toNat_natCast]
  have e : ((Int32.ofNat n).toUInt32 >>> ((Int32.ofNat k).toUInt32 &&& Int32.toUInt32 31)).toNat = n / 2 ^ k := by
    rw [UInt32.toNat_shiftRight, ush_all k hk, Nat.shiftRight_eq_div_pow]
    congr 1
    show (BitVec.ofNat 32 n).toNat = n
    rw [BitVec.toNat_ofNat]
    omega
  have hl : n / 2 ^ k < 2147483648 := Nat.lt_of_le_of_lt (Nat.div_le_self _ _) (by omega)
  generalize ((Int32.ofNat n).toUInt32 >>> ((Int32.ofNat k).toUInt32 &&& Int32.toUInt32 31)) = u at e
  show u.toBitVec.toInt = _
  rw [BitVec.toInt_eq_toNat_of_lt (by show 2 * u.toNat < 2 ^ 32; omega)]
  show (u.toNat : Int) = _
  rw [e]
  exact Int.natCast_ediv _ _ |>.trans (by rw [Int.natCast_pow]; rfl)
theorem and_d {a m y k : Nat} (ha : a < 256) (hm : m < 256) : (a + 256 * y) &&& (m + 256 * k) = (a &&& m) + 256 * (y &&& k) := by
  have e1 : ((a + 256 * y) &&& (m + 256 * k)) % 2 ^ 8 = a &&& m := by
    rw [Nat.and_mod_two_pow]
    rw [show (a + 256 * y) % 2 ^ 8 = a by omega, show (m + 256 * k) % 2 ^ 8 = m by omega]
  have e2 : ((a + 256 * y) &&& (m + 256 * k)) / 2 ^ 8 = y &&& k := by
    rw [Nat.and_div_two_pow]
    rw [show (a + 256 * y) / 2 ^ 8 = y by omega, show (m + 256 * k) / 2 ^ 8 = k by omega]
  omega
def pn : Nat → Nat → Nat
  | 0, _ => 0
  | n + 1, x => x % 2 + pn n (x / 2)
def c1 (a : Nat) : Nat := a - ((a / 2) &&& 85)
def c2 (a : Nat) : Nat := (a &&& 51) + ((a / 4) &&& 51)
def c3 (a : Nat) : Nat := (a + a / 16) &&& 15
theorem byte_all : ∀ a, a < 256 → c1 a < 256 ∧ (a / 2) &&& 85 ≤ a ∧ c2 (c1 a) ≤ 68 ∧ c2 (c1 a) % 16 ≤ 4 ∧ c3 (c2 (c1 a)) = pn 8 a ∧ pn 8 a ≤ 8 := by decide +kernel
theorem m1_all : ∀ a, a < 256 → ∀ t, t < 2 → (a / 2 + 128 * t) &&& 85 = (a / 2) &&& 85 := by decide +kernel
theorem m2_all : ∀ a, a < 256 → ∀ t, t < 4 → (a / 4 + 64 * t) &&& 51 = (a / 4) &&& 51 := by decide +kernel
theorem m3_all : ∀ a, a < 69 → ∀ t, t < 5 → (a + a / 16 + 16 * t) &&& 15 = (a + a / 16) &&& 15 := by decide +kernel
theorem s1_d {a y m : Nat} (ha : a < 256) : (a + 256 * y) / 2 &&& (85 + 256 * m) = ((a / 2) &&& 85) + 256 * ((y / 2) &&& m) := by
  rw [show (a + 256 * y) / 2 = (a / 2 + 128 * (y % 2)) + 256 * (y / 2) by omega, and_d (by omega) (by omega), m1_all a ha _ (by omega)]
theorem s2_d {a y m : Nat} (ha : a < 256) : (a + 256 * y) / 4 &&& (51 + 256 * m) = ((a / 4) &&& 51) + 256 * ((y / 4) &&& m) := by
  rw [show (a + 256 * y) / 4 = (a / 4 + 64 * (y % 4)) + 256 * (y / 4) by omega, and_d (by omega) (by omega), m2_all a ha _ (by omega)]
theorem s3_d {a y m : Nat} (ha : a ≤ 68) (hy : y % 16 ≤ 4) : ((a + 256 * y) + (a + 256 * y) / 16) &&& (15 + 256 * m) = c3 a + 256 * ((y + y / 16) &&& m) := by
  rw [show (a + 256 * y) + (a + 256 * y) / 16 = (a + a / 16 + 16 * (y % 16)) + 256 * (y + y / 16) by omega, and_d (by omega) (by omega), m3_all a (by omega) _ (by omega)]
  rfl
theorem pop3 {a b c : Nat} (ha : a < 256) (hb : b < 256) (hc : c < 256) {x v1 v2 v3 v4 v5 : Nat} (hx : x = a + 256 * (b + 256 * c))
    (h1 : v1 = x - (x / 2 &&& 1431655765)) (h2 : v2 = (v1 &&& 858993459) + (v1 / 4 &&& 858993459)) (h3 : v3 = (v2 + v2 / 16) &&& 252645135) (h4 : v4 = v3 + v3 / 256) (h5 : v5 = v4 + v4 / 65536) : x / 2 &&& 1431655765 ≤ x ∧ v1 < 16777216 ∧ v2 < 16777216 ∧ v3 < 16777216 ∧ v4 < 33554432 ∧ v5 < 67108864 ∧ v5 &&& 63 = pn 8 a + pn 8 b + pn 8 c := by
  obtain ⟨a1, a2, a3, a4, a5, a6⟩ := byte_all a ha
  obtain ⟨b1, b2, b3, b4, b5, b6⟩ := byte_all b hb
  obtain ⟨d1, d2, d3, d4, d5, d6⟩ := byte_all c hc
  have e1 : x / 2 &&& 1431655765 = (a / 2 &&& 85) + 256 * ((b / 2 &&& 85) + 256 * (c / 2 &&& 85)) := by
    rw [hx, show 1431655765 = 85 + 256 * (85 + 256 * (85 + 256 * 85)) from rfl, s1_d ha, s1_d hb, show c / 2 &&& (85 + 256 * 85) = (c + 256 * 0) / 2 &&& (85 + 256 * 85) from rfl, s1_d hc, show (0 / 2 &&& 85 : Nat) = 0 from rfl]
    omega
  have f1 : v1 = c1 a + 256 * (c1 b + 256 * c1 c) := by
    rw [h1, e1, hx]
    unfold c1
    omega
  have e2 : v1 &&& 858993459 = (c1 a &&& 51) + 256 * ((c1 b &&& 51) + 256 * (c1 c &&& 51)) := by
    rw [f1, show 858993459 = 51 + 256 * (51 + 256 * (51 + 256 * 51)) from rfl, and_d a1 (by omega), and_d b1 (by omega), show c1 c &&& (51 + 256 * 51) = (c1 c + 256 * 0) &&& (51 + 256 * 51) from rfl, and_d d1 (by omega), Nat.zero_and, Nat.mul_zero, Nat.add_zero]
  have e3 : v1 / 4 &&& 858993459 = (c1 a / 4 &&& 51) + 256 * ((c1 b / 4 &&& 51) + 256 * (c1 c / 4 &&& 51)) := by
    rw [f1, show 858993459 = 51 + 256 * (51 + 256 * (51 + 256 * 51)) from rfl, s2_d a1, s2_d b1, show c1 c / 4 &&& (51 + 256 * 51) = (c1 c + 256 * 0) / 4 &&& (51 + 256 * 51) from rfl, s2_d d1, show (0 / 4 &&& 51 : Nat) = 0 from rfl, Nat.mul_zero, Nat.add_zero]
  have f2 : v2 = c2 (c1 a) + 256 * (c2 (c1 b) + 256 * c2 (c1 c)) := by
    rw [h2, e2, e3]
    unfold c2
    omega
  have f3 : v3 = pn 8 a + 256 * (pn 8 b + 256 * pn 8 c) := by
    rw [h3, f2, show 252645135 = 15 + 256 * (15 + 256 * (15 + 256 * 15)) from rfl, s3_d a3 (by omega), s3_d b3 (by omega), show (c2 (c1 c) + c2 (c1 c) / 16) &&& (15 + 256 * 15) = ((c2 (c1 c) + 256 * 0) + (c2 (c1 c) + 256 * 0) / 16) &&& (15 + 256 * 15) from rfl, s3_d d3 (by omega), a5, b5, d5, show (0 + 0 / 16 &&& 15 : Nat) = 0 from rfl, Nat.mul_zero, Nat.add_zero]
  have e6 : v5 &&& 63 = v5 % 64 := Nat.and_two_pow_sub_one_eq_mod v5 6
  have f4 : v4 = pn 8 a + pn 8 b + 256 * (pn 8 b + pn 8 c + 256 * pn 8 c) := by
    clear e1 e2 e3 f1 f2 h1 h2 h3
    omega
  have f5 : v5 = pn 8 a + pn 8 b + pn 8 c + 256 * (pn 8 b + pn 8 c + 256 * pn 8 c) := by
    clear e1 e2 e3 f1 f2 h1 h2 h3 h4 f3
    omega
  have f6 : v5 &&& 63 = pn 8 a + pn 8 b + pn 8 c := by
    rw [e6, f5]
    clear e1 e2 e3 f1 f2 h1 h2 h3 h4 f3 f4 h5 f5
    omega
  clear h1 h2 h3 h4 h5
  refine ⟨by rw [e1, hx]; omega, by omega, by omega, by omega, by omega, by omega, f6⟩
theorem pn_top (n : Nat) : ∀ x, pn (n + 1) x = pn n x + x / 2 ^ n % 2 := by
  induction n with
  | zero => intro x; show x % 2 + 0 = 0 + x / 1 % 2; omega
  | succ n ih =>
    intro x
    show x % 2 + pn (n + 1) (x / 2) = (x % 2 + pn n (x / 2)) + _
    rw [ih (x / 2), Nat.div_div_eq_div_mul, show 2 * 2 ^ n = 2 ^ (n + 1) by rw [Nat.pow_succ]; omega]
    omega
theorem pn_add (m : Nat) : ∀ n x, pn (n + m) x = pn n x + pn m (x / 2 ^ n)
  | 0, x => by rw [Nat.zero_add]; show pn m x = 0 + pn m (x / 1); rw [Nat.div_one]; omega
  | n + 1, x => by
    rw [show n + 1 + m = (n + m) + 1 by omega]
    show x % 2 + pn (n + m) (x / 2) = (x % 2 + pn n (x / 2)) + _
    rw [pn_add m n (x / 2), Nat.div_div_eq_div_mul, show 2 * 2 ^ n = 2 ^ (n + 1) by rw [Nat.pow_succ]; omega]
    omega
theorem pn_mod : ∀ n x k, pn n (x + 2 ^ n * k) = pn n x
  | 0, _, _ => rfl
  | n + 1, x, k => by
    show (x + 2 ^ (n + 1) * k) % 2 + pn n ((x + 2 ^ (n + 1) * k) / 2) = x % 2 + pn n (x / 2)
    rw [show 2 ^ (n + 1) * k = 2 * (2 ^ n * k) by rw [Nat.pow_succ, Nat.mul_comm (2 ^ n) 2, Nat.mul_assoc], show (x + 2 * (2 ^ n * k)) / 2 = x / 2 + 2 ^ n * k by omega, pn_mod n (x / 2) k]
    omega
theorem pn_cz (x : Nat) : ∀ n, cz (tb (x : Int)) n = (pn n x : Nat)
  | 0 => rfl
  | n + 1 => by
    show cz (tb (x : Int)) n + (if tb x n then 1 else 0) = _
    rw [pn_cz x n, pn_top]
    unfold tb
    rw [Int.toNat_natCast, Int.toNat_natCast, ← Nat.toNat_testBit]
    cases x.testBit n <;> simp
theorem bAnd_c {x m : Nat} (h : x < 2147483648) : bAnd (x : Int) (m : Int) = ((x &&& m : Nat) : Int) := by
  rw [bAnd_n (by omega) (by omega) (by omega), Int.toNat_natCast, Int.toNat_natCast]
theorem bUsh_c {x k d : Nat} (h : x < 2147483648) (hk : k < 32) (hd : 2 ^ k = d) : bUsh (x : Int) (k : Int) = ((x / d : Nat) : Int) := by
  subst hd
  rw [bUsh_n (by omega) (by omega) hk, Int.natCast_ediv, Int.natCast_pow]
  rfl
theorem ev_bitC {x : Int} {M : Mem} (h0 : 0 ≤ x) (h1 : x < 16777216) : j_bitCount_0f7a4 x M = some (cz (tb x) 24, M) := by
  obtain ⟨n, rfl⟩ := Int.eq_ofNat_of_zero_le h0
  obtain ⟨q1, q2, q3, q4, q5, q6, q7⟩ := pop3 (a := n % 256) (b := n / 256 % 256) (c := n / 65536) (x := n) (by omega) (by omega) (by omega) (by omega) rfl rfl rfl rfl rfl
  unfold j_bitCount_0f7a4
  have e1 : w32 ((n : Int) - bAnd (bUsh n 1) 1431655765) = ((n - (n / 2 &&& 1431655765) : Nat) : Int) := by
    rw [show (1 : Int) = ((1 : Nat) : Int) from rfl, bUsh_c (d := 2) (by omega) (by omega) rfl, show (1431655765 : Int) = ((1431655765 : Nat) : Int) from rfl, bAnd_c (by omega), w32_id (by omega) (by omega)]
    omega
  generalize n - (n / 2 &&& 1431655765) = v1 at *
  have e2 : w32 (bAnd (v1 : Int) 858993459 + bAnd (bUsh v1 2) 858993459) = (((v1 &&& 858993459) + (v1 / 4 &&& 858993459) : Nat) : Int) := by
    rw [show (2 : Int) = ((2 : Nat) : Int) from rfl, bUsh_c (d := 4) (by omega) (by omega) rfl, show (858993459 : Int) = ((858993459 : Nat) : Int) from rfl, bAnd_c (by omega), bAnd_c (by omega), w32_id (by omega) (by omega)]
    omega
  generalize (v1 &&& 858993459) + (v1 / 4 &&& 858993459) = v2 at *
  have e3 : bAnd (w32 ((v2 : Int) + bUsh v2 4)) 252645135 = (((v2 + v2 / 16) &&& 252645135 : Nat) : Int) := by
    rw [show (4 : Int) = ((4 : Nat) : Int) from rfl, bUsh_c (d := 16) (by omega) (by omega) rfl, w32_id (by omega) (by omega), show (252645135 : Int) = ((252645135 : Nat) : Int) from rfl, ← Int.natCast_add, bAnd_c (by omega)]
  generalize (v2 + v2 / 16) &&& 252645135 = v3 at *
  have e4 : w32 ((v3 : Int) + bUsh v3 8) = ((v3 + v3 / 256 : Nat) : Int) := by
    rw [show (8 : Int) = ((8 : Nat) : Int) from rfl, bUsh_c (d := 256) (by omega) (by omega) rfl, w32_id (by omega) (by omega)]
    omega
  generalize v3 + v3 / 256 = v4 at *
  have e5 : w32 ((v4 : Int) + bUsh v4 16) = ((v4 + v4 / 65536 : Nat) : Int) := by
    rw [show (16 : Int) = ((16 : Nat) : Int) from rfl, bUsh_c (d := 65536) (by omega) (by omega) rfl, w32_id (by omega) (by omega)]
    omega
  generalize v4 + v4 / 65536 = v5 at *
  have e6 : bAnd (v5 : Int) 63 = ((v5 &&& 63 : Nat) : Int) := by
    rw [show (63 : Int) = ((63 : Nat) : Int) from rfl, bAnd_c (by omega)]
  show some (bAnd (w32 (w32 (bAnd (w32 (w32 (bAnd (w32 ((n : Int) - bAnd (bUsh n 1) 1431655765)) 858993459 + bAnd (bUsh (w32 ((n : Int) - bAnd (bUsh n 1) 1431655765)) 2) 858993459) + _)) 252645135 + _) + _)) 63, M) = _
  rw [e1, e2, e3, e4, e5, e6, q7, pn_cz, show 24 = 8 + 16 from rfl, pn_add, show 16 = 8 + 8 from rfl, pn_add, ← pn_mod 8 (n % 256) (n / 256), ← pn_mod 8 (n / 256 % 256) (n / 65536)]
  rw [show n % 256 + 2 ^ 8 * (n / 256) = n by omega, show n / 256 % 256 + 2 ^ 8 * (n / 65536) = n / 2 ^ 8 by omega, show n / 65536 = n / 2 ^ 8 / 2 ^ 8 by omega]
  congr 1
  congr 1
  omega
theorem cz_hi {x : Int} {n : Nat} (h0 : 0 ≤ x) (h1 : x < 2 ^ n) (m : Nat) : cz (tb x) (n + m) = cz (tb x) n := by
  induction m with
  | zero => rfl
  | succ m ih =>
    show cz (tb x) (n + m) + (if tb x ((n + m : Nat) : Int) then 1 else 0) = _
    rw [ih, show tb x ((n + m : Nat) : Int) = false from ?_]
    · simp
    · unfold tb
      rw [Int.toNat_natCast]
      apply Nat.testBit_lt_two_pow
      have : (2 : Nat) ^ n ≤ 2 ^ (n + m) := Nat.pow_le_pow_right (by omega) (by omega)
      have h2 : x.toNat < 2 ^ n := by
        have : ((2 ^ n : Nat) : Int) = (2 : Int) ^ n := by rw [Int.natCast_pow]; rfl
        omega
      omega
