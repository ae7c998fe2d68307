/-! ints and longs by their whole numbers -/
def jI (z : Int) : Int32 := Int32.ofInt z
def jL (z : Int) : Int64 := Int64.ofInt z
theorem jL_add (a b : Int) : jL a + jL b = jL (a + b) := (Int64.ofInt_add a b).symm
theorem jL_sub (a b : Int) : jL a - jL b = jL (a - b) := (Int64.ofInt_sub a b).symm
theorem jL_mul (a b : Int) : jL a * jL b = jL (a * b) := (Int64.ofInt_mul a b).symm
theorem jL_neg (a : Int) : - jL a = jL (- a) := (Int64.ofInt_neg a).symm
theorem jI_add (a b : Int) : jI a + jI b = jI (a + b) := (Int32.ofInt_add a b).symm
theorem jI_sub (a b : Int) : jI a - jI b = jI (a - b) := (Int32.ofInt_sub a b).symm
theorem jI_mul (a b : Int) : jI a * jI b = jI (a * b) := (Int32.ofInt_mul a b).symm
theorem jI_neg (a : Int) : - jI a = jI (- a) := (Int32.ofInt_neg a).symm
theorem jL_of (x : Int64) : x = jL x.toInt := (Int64.ofInt_toInt x).symm
theorem jI_of (x : Int32) : x = jI x.toInt := (Int32.ofInt_toInt x).symm
theorem jI_nI (n : Nat) : jI (n : Int) = nI n := Int32.ofInt_eq_ofNat
theorem jI_0 : (0 : Int32) = jI 0 := rfl
theorem jL_0 : (0 : Int64) = jL 0 := rfl
theorem jI_1 : (1 : Int32) = jI 1 := rfl
theorem jL_1 : (1 : Int64) = jL 1 := rfl
theorem jL_2 : (2 : Int64) = jL 2 := rfl
/-- a whole number that a long, an int holds -/
abbrev inL (z : Int) : Prop := -9223372036854775808 ≤ z ∧ z ≤ 9223372036854775807
abbrev inI (z : Int) : Prop := -2147483648 ≤ z ∧ z ≤ 2147483647
theorem jL_t {z : Int} (h : inL z) : (jL z).toInt = z := Int64.toInt_ofInt_of_le (by omega) (by omega)
theorem jI_t {z : Int} (h : inI z) : (jI z).toInt = z := Int32.toInt_ofInt_of_le (by omega) (by omega)
theorem jL_lt {a b : Int} (ha : inL a) (hb : inL b) : jL a < jL b ↔ a < b := by
  rw [Int64.lt_iff_toInt_lt, jL_t ha, jL_t hb]
theorem jL_le {a b : Int} (ha : inL a) (hb : inL b) : jL a ≤ jL b ↔ a ≤ b := by
  rw [Int64.le_iff_toInt_le, jL_t ha, jL_t hb]
theorem jL_eq {a b : Int} (ha : inL a) (hb : inL b) : jL a = jL b ↔ a = b := by
  rw [← Int64.toInt_inj, jL_t ha, jL_t hb]
theorem jI_lt {a b : Int} (ha : inI a) (hb : inI b) : jI a < jI b ↔ a < b := by
  rw [Int32.lt_iff_toInt_lt, jI_t ha, jI_t hb]
theorem jI_le {a b : Int} (ha : inI a) (hb : inI b) : jI a ≤ jI b ↔ a ≤ b := by
  rw [Int32.le_iff_toInt_le, jI_t ha, jI_t hb]
theorem jI_eq {a b : Int} (ha : inI a) (hb : inI b) : jI a = jI b ↔ a = b := by
  rw [← Int32.toInt_inj, jI_t ha, jI_t hb]
theorem jI_l {z : Int} (h : inI z) : (jI z).toInt64 = jL z := by
  rw [jL_of (jI z).toInt64, Int32.toInt_toInt64, jI_t h]
theorem jL_div {a b : Int} (ha : inL a) (hb : inL b) : jL a / jL b = jL (a.tdiv b) :=
  (Int64.ofInt_tdiv (show -9223372036854775808 ≤ a from ha.1) (show a ≤ 9223372036854775807 from ha.2) (show -9223372036854775808 ≤ b from hb.1) (show b ≤ 9223372036854775807 from hb.2)).symm
theorem jI_div {a b : Int} (ha : inI a) (hb : inI b) : jI a / jI b = jI (a.tdiv b) :=
  (Int32.ofInt_tdiv (show -2147483648 ≤ a from ha.1) (show a ≤ 2147483647 from ha.2) (show -2147483648 ≤ b from hb.1) (show b ≤ 2147483647 from hb.2)).symm
/-- the rows' word for the rest -/
theorem jL_rem {a b : Int} (ha : inL a) (hb : inL b) : jL a - jL a / jL b * jL b = jL (a.tmod b) := by
  rw [jL_div ha hb, jL_mul, jL_sub]
  congr 1
  have := Int.mul_tdiv_add_tmod a b
  rw [Int.mul_comm] at this
  omega
theorem jI_rem {a b : Int} (ha : inI a) (hb : inI b) : jI a - jI a / jI b * jI b = jI (a.tmod b) := by
  rw [jI_div ha hb, jI_mul, jI_sub]
  congr 1
  have := Int.mul_tdiv_add_tmod a b
  rw [Int.mul_comm] at this
  omega
theorem jL_divN {a b : Nat} (ha : a < 2 ^ 62) (hb : b < 2 ^ 62) : jL a / jL b = jL (a / b : Nat) := by
  rw [jL_div (by omega) (by omega)]; rfl
theorem jL_remN {a b : Nat} (ha : a < 2 ^ 62) (hb : b < 2 ^ 62) : jL a - jL a / jL b * jL b = jL (a % b : Nat) := by
  rw [jL_rem (by omega) (by omega)]; rfl
/-- an index: a whole number in range -/
theorem jI_in {z : Int} {n : Nat} (h0 : 0 ≤ z) (h1 : z < n) (hn : n < 2147483648) : vp_in (jI z) n := vp_in_iff.mpr (by rw [jI_t (by omega)]; exact ⟨h0, h1⟩)
theorem jI_cl {z : Int} (h0 : 0 ≤ z) (h1 : z < 2147483648) : (jI z).toNatClampNeg = z.toNat := by
  show (jI z).toInt.toNat = z.toNat
  rw [jI_t (by omega)]
/-- Euclid's way, with a bound on its steps -/
theorem gcd_half {a b : Nat} (hb : 0 < b) (hr : 0 < a % b) : 2 * (b % (a % b)) < b := by
  have h1 : a % b < b := Nat.mod_lt a hb
  have h2 : b % (a % b) < a % b := Nat.mod_lt b hr
  have h3 := Nat.div_add_mod b (a % b)
  have h4 : 1 ≤ b / (a % b) := Nat.div_pos (Nat.le_of_lt h1) hr
  have h5 : (a % b) * 1 ≤ (a % b) * (b / (a % b)) := Nat.mul_le_mul_left _ h4
  omega
