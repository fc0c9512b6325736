/-! bits of limbs -/
theorem land_low (x : Int) : land x 4294967295 = x % 4294967296 := land_mask x (k := 32) (by omega)
theorem p32 : (4294967296 : Int) = ((2 ^ 32 : Nat) : Int) := by decide
theorem i32_toNat (x : Int) : (Int32.ofInt x).toBitVec.toNat = (x % 4294967296).toNat := by
  show (BitVec.ofInt 32 x).toNat = _
  rw [BitVec.toNat_ofInt]
  rfl
theorem i64_toNat (x : Int) : (Int64.ofInt x).toBitVec.toNat = (x % 18446744073709551616).toNat := by
  show (BitVec.ofInt 64 x).toNat = _
  rw [BitVec.toNat_ofInt]
  rfl
theorem i32_back (b : Int32) : b.toInt = w32 (b.toBitVec.toNat : Int) := by
  have h : b.toInt = b.toBitVec.toInt := rfl
  rw [h, BitVec.toInt_eq_toNat_bmod, Int.bmod_eq_emod]
  have := b.toBitVec.isLt
  unfold w32
  split <;> omega
theorem i64_back (b : Int64) : b.toInt = w64 (b.toBitVec.toNat : Int) := by
  have h : b.toInt = b.toBitVec.toInt := rfl
  rw [h, BitVec.toInt_eq_toNat_bmod, Int.bmod_eq_emod]
  have := b.toBitVec.isLt
  unfold w64
  split <;> omega
theorem ior_nat (x y : Int) : ior x y = w32 (((x % 4294967296).toNat ||| (y % 4294967296).toNat : Nat) : Int) := by
  unfold ior
  rw [i32_back, Int32.toBitVec_or, BitVec.toNat_or, i32_toNat, i32_toNat]
theorem iand_nat (x y : Int) : iand x y = w32 (((x % 4294967296).toNat &&& (y % 4294967296).toNat : Nat) : Int) := by
  unfold iand
  rw [i32_back, Int32.toBitVec_and, BitVec.toNat_and, i32_toNat, i32_toNat]
theorem lor_nat2 (x y : Int) : lor x y = w64 (((x % 18446744073709551616).toNat ||| (y % 18446744073709551616).toNat : Nat) : Int) := by
  unfold lor
  rw [i64_back, Int64.toBitVec_or, BitVec.toNat_or, i64_toNat, i64_toNat]
theorem ior_add {x y : Int} {i a b : Nat} (hx : x % 4294967296 = ((2 ^ i * a : Nat) : Int)) (hy : y % 4294967296 = (b : Int)) (hb : b < 2 ^ i) : ior x y = w32 ((2 ^ i * a + b : Nat) : Int) := by
  rw [ior_nat, hx, hy, Int.toNat_natCast, Int.toNat_natCast, Nat.two_pow_add_eq_or_of_lt hb]
theorem lor_add {x y : Int} {i a b : Nat} (hx : x % 18446744073709551616 = ((2 ^ i * a : Nat) : Int)) (hy : y % 18446744073709551616 = (b : Int)) (hb : b < 2 ^ i) : lor x y = w64 ((2 ^ i * a + b : Nat) : Int) := by
  rw [lor_nat2, hx, hy, Int.toNat_natCast, Int.toNat_natCast, Nat.two_pow_add_eq_or_of_lt hb]
/-- a long of two halves -/
theorem long_of (x y : Int) : lor (lshl x 32) (land y 4294967295) = w64 (x * 4294967296 + y % 4294967296) := by
  have e : lshl x 32 = w64 (x * 4294967296) := rfl
  have h1 : w64 (x * 4294967296) % 18446744073709551616 = ((2 ^ 32 * (x % 4294967296).toNat : Nat) : Int) := by
    unfold w64
    rw [Int.natCast_mul, Int.toNat_of_nonneg (by omega)]
    show _ = 4294967296 * _
    omega
  rw [e, land_low, lor_add (b := (y % 4294967296).toNat) h1 (by omega) (by show _ < 4294967296; omega), Int.natCast_add, Int.natCast_mul, Int.toNat_of_nonneg (by omega), Int.toNat_of_nonneg (by omega)]
  show w64 (4294967296 * _ + _) = _
  unfold w64
  omega
/-- one limb of a halved number -/
theorem half_limb {x a : Int} (ha : a = 0 ∨ a = 1) : ior (iushr x 1) (ishl a 31) = w32 (a * 2147483648 + x % 4294967296 / 2) := by
  have e1 : iushr x 1 = w32 (x % 4294967296 / 2) := rfl
  have e2 : ishl a 31 = w32 (a * 2147483648) := rfl
  rw [ior_nat, Nat.or_comm, ← ior_nat, e1, e2, ior_add (i := 31) (a := a.toNat) (b := (x % 4294967296 / 2).toNat) (by rw [w32_mod]; show _ = ((2147483648 * _ : Nat) : Int); omega) (by rw [w32_mod]; omega) (by show _ < 2147483648; omega), show (2 : Nat) ^ 31 = 2147483648 by decide]
  congr 1
  omega
/-- one limb of a doubled number -/
theorem twice_limb {x a : Int} (ha : a = 0 ∨ a = 1) : ior (ishl x 1) a = w32 (x * 2 + a) := by
  have e1 : ishl x 1 = w32 (x * 2) := rfl
  rw [e1, ior_add (i := 1) (a := (x % 2147483648).toNat) (b := a.toNat) (by rw [w32_mod]; show _ = ((2 * _ : Nat) : Int); omega) (by omega) (by show _ < 2; omega), show (2 : Nat) ^ 1 = 2 by decide]
  unfold w32
  omega
theorem iushr_31 (x : Int) : iushr x 31 = x % 4294967296 / 2147483648 := by
  have e1 : iushr x 31 = w32 (x % 4294967296 / 2147483648) := rfl
  rw [e1]
  unfold w32
  omega
theorem iand_one (x : Int) : iand x 1 = x % 2 := by
  rw [iand_nat]
  have e : ((1 : Int) % 4294967296).toNat = 1 := rfl
  rw [e, Nat.and_one_is_mod]
  unfold w32
  omega
theorem iushr_bit (x : Int) {b : Nat} (hb : b < 32) : iand (iushr x (b : Int)) 1 = x % 4294967296 / 2 ^ b % 2 := by
  have e : ((b : Int) % 32).toNat = b := by omega
  rw [iand_one]
  unfold iushr
  rw [e]
  have := Nat.two_pow_pos b
  unfold w32
  omega
/-- a bit set that wasn't -/
theorem set_limb {x : Int} {r a : Nat} (hr : r < 32) (hx : x % 4294967296 = ((2 ^ (r + 1) * a : Nat) : Int)) : ior x (ishl 1 (r : Int)) = w32 ((2 ^ (r + 1) * a + 2 ^ r : Nat) : Int) := by
  have e : ((r : Int) % 32).toNat = r := by omega
  have e1 : ishl 1 (r : Int) = w32 (((2 ^ r : Nat) : Int)) := by
    unfold ishl
    rw [e, Int.one_mul, Int.natCast_pow]
    rfl
  have hlt : (2 : Nat) ^ r < 2 ^ 32 := Nat.pow_lt_pow_right (by decide) hr
  have hlt2 : (2 : Nat) ^ r < 2 ^ (r + 1) := Nat.pow_lt_pow_right (by decide) (by omega)
  rw [e1, ior_add hx (b := 2 ^ r) (by rw [w32_mod]; rw [show (2 : Nat) ^ 32 = 4294967296 by decide] at hlt; omega) hlt2]
/-- a bit cleared that was set -/
theorem clear_limb {x : Int} {r a : Nat} (hr : r < 32) (hx : x % 4294967296 = ((2 ^ (r + 1) * a + 2 ^ r : Nat) : Int)) : iand x (ixor (ishl 1 (r : Int)) (-1)) = w32 ((2 ^ (r + 1) * a : Nat) : Int) := by
  have e : ((r : Int) % 32).toNat = r := by omega
  have e1 : ishl 1 (r : Int) = w32 (((2 ^ r : Nat) : Int)) := by
    unfold ishl
    rw [e, Int.one_mul, Int.natCast_pow]
    rfl
  have hlt : (2 : Nat) ^ r < 2 ^ 32 := Nat.pow_lt_pow_right (by decide) hr
  have hn : (0 : Int) ≤ ((2 ^ r : Nat) : Int) := Int.natCast_nonneg _
  have e4 : (w32 ((2 ^ r : Nat) : Int) % 4294967296).toNat = 2 ^ r := by
    rw [show (2 : Nat) ^ 32 = 4294967296 by decide] at hlt
    rw [w32_mod]
    omega
  have e2 : (ixor (ishl 1 (r : Int)) (-1) % 4294967296).toNat = 2 ^ 32 - 1 - 2 ^ r := by
    unfold ixor
    have e3 : (Int32.ofInt (-1)).toBitVec = BitVec.allOnes 32 := by decide
    rw [i32_back, w32_mod, Int32.toBitVec_xor, e3, BitVec.xor_allOnes, BitVec.toNat_not, i32_toNat, e1, e4]
    rw [show (2 : Nat) ^ 32 = 4294967296 by decide] at *
    omega
  have hb : 2 ^ (r + 1) * a + 2 ^ r < 2 ^ 32 := by
    have : x % 4294967296 < 4294967296 := Int.emod_lt_of_pos _ (by decide)
    rw [show (2 : Nat) ^ 32 = 4294967296 by decide]
    omega
  have hlt2 : (2 : Nat) ^ r < 2 ^ (r + 1) := Nat.pow_lt_pow_right (by decide) (by omega)
  have key : (2 ^ (r + 1) * a + 2 ^ r) &&& (2 ^ 32 - 1 - 2 ^ r) = 2 ^ (r + 1) * a := by
    refine Nat.eq_of_testBit_eq fun j => ?_
    rw [Nat.testBit_and, show 2 ^ 32 - 1 - 2 ^ r = 2 ^ 32 - (2 ^ r + 1) from by rw [Nat.sub_sub, Nat.add_comm 1 (2 ^ r)], Nat.testBit_two_pow_sub_succ hlt, Nat.testBit_two_pow, Nat.testBit_two_pow_mul]
    by_cases q : j < r + 1
    · rw [show decide (j ≥ r + 1) = false by simp; omega, Bool.false_and]
      rw [Nat.testBit_two_pow_mul_add _ hlt2]
      rw [if_pos q, Nat.testBit_two_pow]
      by_cases q2 : r = j
      · simp [q2]
      · simp [q2]
    · rw [Nat.testBit_two_pow_mul_add _ hlt2, if_neg q]
      have q2 : ¬(r = j) := by omega
      by_cases q3 : j < 32
      · simp [q2, q3]
        omega
      · have h0 : a.testBit (j - (r + 1)) = false := by
          have h1 := Nat.testBit_lt_two_pow (x := 2 ^ (r + 1) * a + 2 ^ r) (i := j) (Nat.lt_of_lt_of_le hb (Nat.pow_le_pow_right (by decide) (by omega)))
          rw [Nat.testBit_two_pow_mul_add _ hlt2, if_neg q] at h1
          exact h1
        simp [q3, h0]
  rw [iand_nat, e2, hx, Int.toNat_natCast, key]
