/-! Whole numbers for the machine's ints: every int is its number in Int, wrapped by w32 (longs: w64). -/
def w32 (z : Int) : Int := (Int32.ofInt z).toInt
def w64 (z : Int) : Int := (Int64.ofInt z).toInt
def R32 (z : Int) : Prop := -2147483648 ≤ z ∧ z ≤ 2147483647
def R64 (z : Int) : Prop := -9223372036854775808 ≤ z ∧ z ≤ 9223372036854775807
theorem w32_r (z : Int) : R32 (w32 z) := by
  have h1 := Int32.le_toInt (Int32.ofInt z)
  have h2 := Int32.toInt_lt (Int32.ofInt z)
  unfold R32 w32
  omega
theorem w64_r (z : Int) : R64 (w64 z) := by
  have h1 := Int64.le_toInt (Int64.ofInt z)
  have h2 := Int64.toInt_lt (Int64.ofInt z)
  unfold R64 w64
  omega
theorem w32_i {z : Int} (h : R32 z) : w32 z = z := by
  unfold R32 at h
  exact Int32.toInt_ofInt_of_le (by omega) (by omega)
theorem w64_i {z : Int} (h : R64 z) : w64 z = z := by
  unfold R64 at h
  exact Int64.toInt_ofInt_of_le (by omega) (by omega)
theorem w32_id {z : Int} (h1 : -2147483648 ≤ z) (h2 : z ≤ 2147483647) : w32 z = z := w32_i ⟨h1, h2⟩
theorem w64_id {z : Int} (h1 : -9223372036854775808 ≤ z) (h2 : z ≤ 9223372036854775807) : w64 z = z := w64_i ⟨h1, h2⟩
theorem R32.up {z : Int} (h : R32 z) : R64 z := by unfold R32 at h; unfold R64; omega
theorem w32_of (z : Int) : Int32.ofInt (w32 z) = Int32.ofInt z := Int32.ofInt_toInt _
theorem w64_of (z : Int) : Int64.ofInt (w64 z) = Int64.ofInt z := Int64.ofInt_toInt _
theorem i32_ti {z : Int} (h : R32 z) : (Int32.ofInt z).toInt = z := w32_i h
theorem i64_ti {z : Int} (h : R64 z) : (Int64.ofInt z).toInt = z := w64_i h
theorem i32_eq {x y : Int} (hx : R32 x) (hy : R32 y) : Int32.ofInt x = Int32.ofInt y ↔ x = y := by
  constructor
  · intro h
    have := congrArg Int32.toInt h
    rwa [i32_ti hx, i32_ti hy] at this
  · rintro rfl; rfl
theorem i32_lt {x y : Int} (hx : R32 x) (hy : R32 y) : Int32.ofInt x < Int32.ofInt y ↔ x < y := by
  rw [Int32.lt_iff_toInt_lt, i32_ti hx, i32_ti hy]
theorem i32_le {x y : Int} (hx : R32 x) (hy : R32 y) : Int32.ofInt x ≤ Int32.ofInt y ↔ x ≤ y := by
  rw [Int32.le_iff_toInt_le, i32_ti hx, i32_ti hy]
theorem r32_0 : R32 0 := ⟨by decide, by decide⟩
theorem i32_0 : (0 : Int32) = Int32.ofInt 0 := rfl
theorem i64_0 : (0 : Int64) = Int64.ofInt 0 := rfl
theorem i32_add (x y : Int) : Int32.ofInt x + Int32.ofInt y = Int32.ofInt (w32 (x + y)) := by rw [w32_of, Int32.ofInt_add]
theorem i32_sub (x y : Int) : Int32.ofInt x - Int32.ofInt y = Int32.ofInt (w32 (x - y)) := by rw [w32_of, Int32.ofInt_sub]
theorem i32_mul (x y : Int) : Int32.ofInt x * Int32.ofInt y = Int32.ofInt (w32 (x * y)) := by rw [w32_of, Int32.ofInt_mul]
theorem i32_neg (x : Int) : -Int32.ofInt x = Int32.ofInt (w32 (-x)) := by rw [w32_of, Int32.ofInt_neg]
theorem i64_add (x y : Int) : Int64.ofInt x + Int64.ofInt y = Int64.ofInt (w64 (x + y)) := by rw [w64_of, Int64.ofInt_add]
theorem i64_sub (x y : Int) : Int64.ofInt x - Int64.ofInt y = Int64.ofInt (w64 (x - y)) := by rw [w64_of, Int64.ofInt_sub]
theorem i64_mul (x y : Int) : Int64.ofInt x * Int64.ofInt y = Int64.ofInt (w64 (x * y)) := by rw [w64_of, Int64.ofInt_mul]
theorem i64_neg (x : Int) : -Int64.ofInt x = Int64.ofInt (w64 (-x)) := by rw [w64_of, Int64.ofInt_neg]
theorem i32_div {x y : Int} (hx : R32 x) (hy : R32 y) : Int32.ofInt x / Int32.ofInt y = Int32.ofInt (w32 (x.tdiv y)) := by
  rw [w32_of]
  apply Int32.toInt_inj.mp
  rw [Int32.toInt_div, i32_ti hx, i32_ti hy, Int32.toInt_ofInt]
theorem i64_div {x y : Int} (hx : R64 x) (hy : R64 y) : Int64.ofInt x / Int64.ofInt y = Int64.ofInt (w64 (x.tdiv y)) := by
  rw [w64_of]
  apply Int64.toInt_inj.mp
  rw [Int64.toInt_div, i64_ti hx, i64_ti hy, Int64.toInt_ofInt]
theorem i32_rem {x y : Int} (hx : R32 x) (hy : R32 y) : Int32.ofInt x - Int32.ofInt x / Int32.ofInt y * Int32.ofInt y = Int32.ofInt (w32 (x.tmod y)) := by
  rw [i32_div hx hy, w32_of, ← Int32.ofInt_mul, ← Int32.ofInt_sub, w32_of, Int.tmod_def, Int.mul_comm y]
theorem i32_l {x : Int} (h : R32 x) : (Int32.ofInt x).toInt64 = Int64.ofInt x := by
  apply Int64.toInt_inj.mp
  rw [Int32.toInt_toInt64, i32_ti h, i64_ti h.up]
theorem i64_i (x : Int) : (Int64.ofInt x).toInt32 = Int32.ofInt (w32 x) := by rw [w32_of, Int64.toInt32_ofInt]
/-- bits -/
def bAnd (x y : Int) : Int := (Int32.ofInt x &&& Int32.ofInt y).toInt
def bOr (x y : Int) : Int := (Int32.ofInt x ||| Int32.ofInt y).toInt
def bXor (x y : Int) : Int := (Int32.ofInt x ^^^ Int32.ofInt y).toInt
def bShl (x y : Int) : Int := (Int32.ofInt x <<< (Int32.ofInt y &&& 31)).toInt
def bShr (x y : Int) : Int := (Int32.ofInt x >>> (Int32.ofInt y &&& 31)).toInt
def bUsh (x y : Int) : Int := ((Int32.ofInt x).toUInt32 >>> ((Int32.ofInt y).toUInt32 &&& Int32.toUInt32 31)).toInt32.toInt
def bChr (x : Int) : Int := ((Int32.ofInt x).toUInt32 % 65536).toInt32.toInt
theorem ti_r (x : Int32) : R32 x.toInt := by
  have h1 := Int32.le_toInt x
  have h2 := Int32.toInt_lt x
  unfold R32
  omega
/-- an index within a row of n -/
def inB (x : Int) (n : Nat) : Prop := 0 ≤ x ∧ x < n
theorem inB_in {x : Int} {n : Nat} (hx : R32 x) (h : inB x n) : vp_in (Int32.ofInt x) n := by
  rw [vp_in_iff, i32_ti hx]; exact h
theorem inB_ix {x : Int} (hx : R32 x) (h : 0 ≤ x) : (Int32.ofInt x).toNatClampNeg = x.toNat := by
  show (Int32.ofInt x).toInt.toNat = x.toNat
  rw [i32_ti hx]
example (a b : Int32) (h : a < b) (h2 : b < 100) (h3 : 0 ≤ a) : a + 1 ≤ b := by grind
example (c : Int) (h : 0 ≤ c) (h2 : c < 16) : w32 (20 + w32 (3 * c)) = 20 + 3 * c := by
  simp (disch := omega) only [w32_id]
