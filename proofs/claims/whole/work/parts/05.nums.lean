/-! numbers: ints and longs as whole numbers -/
theorem i_add (a b : Int) : Int32.ofInt (a + b) = Int32.ofInt a + Int32.ofInt b := Int32.ofInt_add a b
theorem i_sub (a b : Int) : Int32.ofInt (a - b) = Int32.ofInt a - Int32.ofInt b := Int32.ofInt_sub a b
theorem i_mul (a b : Int) : Int32.ofInt (a * b) = Int32.ofInt a * Int32.ofInt b := Int32.ofInt_mul a b
theorem i_neg (a : Int) : Int32.ofInt (-a) = -Int32.ofInt a := Int32.ofInt_neg a
theorem l_add (a b : Int) : Int64.ofInt (a + b) = Int64.ofInt a + Int64.ofInt b := Int64.ofInt_add a b
theorem l_sub (a b : Int) : Int64.ofInt (a - b) = Int64.ofInt a - Int64.ofInt b := Int64.ofInt_sub a b
theorem l_mul (a b : Int) : Int64.ofInt (a * b) = Int64.ofInt a * Int64.ofInt b := Int64.ofInt_mul a b
theorem l_neg (a : Int) : Int64.ofInt (-a) = -Int64.ofInt a := Int64.ofInt_neg a
theorem i_to {a : Int} (h : I32 a) : (Int32.ofInt a).toInt = a := Int32.toInt_ofInt_of_le (by omega) (by omega)
theorem l_to {a : Int} (h : I64 a) : (Int64.ofInt a).toInt = a := Int64.toInt_ofInt_of_le (by omega) (by omega)
theorem i_of (x : Int32) : Int32.ofInt x.toInt = x := Int32.ofInt_toInt x
theorem i_in (x : Int32) : I32 x.toInt := ⟨by have := x.le_toInt; simp at this; exact this, by have := x.toInt_lt; omega⟩
theorem i_lt {a b : Int} (h : I32 a) (g : I32 b) : Int32.ofInt a < Int32.ofInt b ↔ a < b := by rw [Int32.lt_iff_toInt_lt, i_to h, i_to g]
theorem i_le {a b : Int} (h : I32 a) (g : I32 b) : Int32.ofInt a ≤ Int32.ofInt b ↔ a ≤ b := by rw [Int32.le_iff_toInt_le, i_to h, i_to g]
theorem i_eq {a b : Int} (h : I32 a) (g : I32 b) : Int32.ofInt a = Int32.ofInt b ↔ a = b := by rw [← Int32.toInt_inj, i_to h, i_to g]
theorem l_lt {a b : Int} (h : I64 a) (g : I64 b) : Int64.ofInt a < Int64.ofInt b ↔ a < b := by rw [Int64.lt_iff_toInt_lt, l_to h, l_to g]
theorem l_le {a b : Int} (h : I64 a) (g : I64 b) : Int64.ofInt a ≤ Int64.ofInt b ↔ a ≤ b := by rw [Int64.le_iff_toInt_le, l_to h, l_to g]
theorem l_eq {a b : Int} (h : I64 a) (g : I64 b) : Int64.ofInt a = Int64.ofInt b ↔ a = b := by rw [← Int64.toInt_inj, l_to h, l_to g]
theorem il_to {a : Int} (h : I32 a) : (Int32.ofInt a).toInt64 = Int64.ofInt a := by
  rw [← Int64.toInt_inj, l_to (by constructor <;> omega), Int32.toInt_toInt64, i_to h]
theorem li_to (a : Int) : (Int64.ofInt a).toInt32 = Int32.ofInt a := Int64.toInt32_ofInt
theorem i_div {a b : Int} (h : I32 a) (g : I32 b) : Int32.ofInt a / Int32.ofInt b = Int32.ofInt (a.tdiv b) := by
  have e : Int32.maxValue.toInt = 2147483647 := by decide
  have e' : Int32.minValue.toInt = -2147483648 := by decide
  exact (Int32.ofInt_tdiv (by omega) (by omega) (by omega) (by omega)).symm
theorem l_div {a b : Int} (h : I64 a) (g : I64 b) : Int64.ofInt a / Int64.ofInt b = Int64.ofInt (a.tdiv b) := by
  have e : Int64.maxValue.toInt = 9223372036854775807 := by decide
  have e' : Int64.minValue.toInt = -9223372036854775808 := by decide
  exact (Int64.ofInt_tdiv (by omega) (by omega) (by omega) (by omega)).symm
theorem i_rem {a b : Int} (h : I32 a) (g : I32 b) : Int32.ofInt a - Int32.ofInt a / Int32.ofInt b * Int32.ofInt b = Int32.ofInt (a.tmod b) := by
  rw [i_div h g, ← i_mul, ← i_sub, Int.tmod_def, Int.mul_comm b]
theorem l_rem {a b : Int} (h : I64 a) (g : I64 b) : Int64.ofInt a - Int64.ofInt a / Int64.ofInt b * Int64.ofInt b = Int64.ofInt (a.tmod b) := by
  rw [l_div h g, ← l_mul, ← l_sub, Int.tmod_def, Int.mul_comm b]
theorem i_clamp {a : Int} (h : I32 a) (h0 : 0 ≤ a) : (Int32.ofInt a).toNatClampNeg = a.toNat := by
  show (Int32.ofInt a).toInt.toNat = a.toNat
  rw [i_to h]
theorem i_vp {a : Int} {n : Nat} (h : I32 a) (h0 : 0 ≤ a) (h1 : a < n) : vp_in (Int32.ofInt a) n := by
  rw [vp_in_iff, i_to h]
  exact ⟨h0, h1⟩
theorem i_b8 {a : Int} (h : -128 ≤ a) (g : a ≤ 127) : (Int8.ofInt a).toInt32 = Int32.ofInt a := by
  rw [← Int32.toInt_inj, i_to (by constructor <;> omega), Int8.toInt_toInt32, Int8.toInt_ofInt_of_le (by omega) (by omega)]
theorem i_b16 {a : Int} (h : -32768 ≤ a) (g : a ≤ 32767) : (Int16.ofInt a).toInt32 = Int32.ofInt a := by
  rw [← Int32.toInt_inj, i_to (by constructor <;> omega), Int16.toInt_toInt32, Int16.toInt_ofInt_of_le (by omega) (by omega)]
/-- what a byte keeps -/
def w8 (a : Int) : Int := Int.bmod a 256
theorem i_byte (a : Int) : (Int32.ofInt a).toInt8.toInt32 = Int32.ofInt (w8 a) := by
  rw [show (Int32.ofInt a).toInt8 = Int8.ofInt a from Int32.toInt8_ofInt]
  rw [← Int32.toInt_inj, Int8.toInt_toInt32, Int8.toInt_ofInt]
  have h1 := Int.bmod_lt (x := a) (m := 256) (by decide)
  have h2 := Int.le_bmod (x := a) (m := 256) (by decide)
  rw [i_to (by unfold w8; constructor <;> omega)]
  rfl
/-- the word that an int is, as its 32 bits -/
def w32 (a : Int) : Int := Int.bmod a 4294967296
theorem i_wrap (a : Int) : Int32.ofInt (w32 a) = Int32.ofInt a := by
  rw [← Int32.toInt_inj, Int32.toInt_ofInt, Int32.toInt_ofInt]
  simp [w32]
theorem w32_in (a : Int) : I32 (w32 a) := by
  have h1 := Int.bmod_lt (x := a) (m := 4294967296) (by decide)
  have h2 := Int.le_bmod (x := a) (m := 4294967296) (by decide)
  unfold w32
  constructor <;> omega
theorem l_nat (n : Nat) : Int64.ofNat n = Int64.ofInt (n : Int) := by
  rw [Int64.ofInt_eq_ofNat]
