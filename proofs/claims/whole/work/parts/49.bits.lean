/-! masks and shifts as remainders and quotients -/
theorem ipow_le {k m : Nat} (h : k ≤ m) : (2 : Int) ^ k ≤ 2 ^ m := by
  have h1 : ((2 ^ k : Nat) : Int) ≤ ((2 ^ m : Nat) : Int) := Int.ofNat_le.mpr (Nat.pow_le_pow_right (by omega) h)
  rw [Int.natCast_pow, Int.natCast_pow] at h1
  exact h1
theorem nat_land_mask (a k : Nat) : a &&& (2 ^ k - 1) = a % 2 ^ k := Nat.and_two_pow_sub_one_eq_mod a k
theorem land_mask (x : Int) {k : Nat} (hk : k ≤ 62) : land x (2 ^ k - 1) = x % 2 ^ k := by
  have hp : (0 : Int) < 2 ^ k := Int.pow_pos (by omega)
  have hp2 : (2 : Int) ^ k ≤ 2 ^ 62 := ipow_le hk
  have hm := Int.emod_nonneg x (show (2 : Int) ^ k ≠ 0 by omega)
  have hl := Int.emod_lt_of_pos x hp
  unfold land
  show (Int64.ofInt x &&& Int64.ofInt (2 ^ k - 1)).toBitVec.toInt = _
  have e1 : (Int64.ofInt x &&& Int64.ofInt (2 ^ k - 1)).toBitVec = BitVec.ofInt 64 x &&& BitVec.ofInt 64 (2 ^ k - 1) := rfl
  rw [e1]
  have e2 : (BitVec.ofInt 64 x &&& BitVec.ofInt 64 (2 ^ k - 1)).toNat = (x % 2 ^ k).toNat := by
    rw [BitVec.toNat_and, BitVec.toNat_ofInt, BitVec.toNat_ofInt]
    have e3 : ((2 ^ k - 1 : Int) % ((2 ^ 64 : Nat) : Int)).toNat = 2 ^ k - 1 := by
      rw [Int.emod_eq_of_lt (by omega) (by omega)]
      have : ((2 ^ k : Nat) : Int) = (2 : Int) ^ k := by simp
      omega
    rw [e3, nat_land_mask]
    have h0 := Int.emod_nonneg x (show ((2 ^ 64 : Nat) : Int) ≠ 0 by decide)
    have e4 : ((x % ((2 ^ 64 : Nat) : Int)).toNat % 2 ^ k : Nat) = ((x % ((2 ^ 64 : Nat) : Int)) % (2 : Int) ^ k).toNat := by
      have : ((x % ((2 ^ 64 : Nat) : Int)).toNat : Int) = x % ((2 ^ 64 : Nat) : Int) := Int.toNat_of_nonneg h0
      apply Int.ofNat.inj
      show (((x % ((2 ^ 64 : Nat) : Int)).toNat % 2 ^ k : Nat) : Int) = (((x % ((2 ^ 64 : Nat) : Int)) % (2 : Int) ^ k).toNat : Int)
      rw [Int.toNat_of_nonneg (Int.emod_nonneg _ (by omega)), Int.natCast_emod, this]
      simp
    rw [e4]
    congr 1
    refine Int.emod_emod_of_dvd x ?_
    refine ⟨2 ^ (64 - k), ?_⟩
    rw [← Int.pow_add, show k + (64 - k) = 64 by omega]
    rfl
  rw [BitVec.toInt_eq_toNat_of_lt (by rw [e2]; omega), e2, Int.toNat_of_nonneg hm]
theorem iand_mask (x : Int) {k : Nat} (hk : k ≤ 30) : iand x (2 ^ k - 1) = x % 2 ^ k := by
  have hp : (0 : Int) < 2 ^ k := Int.pow_pos (by omega)
  have hp2 : (2 : Int) ^ k ≤ 2 ^ 30 := ipow_le hk
  have hm := Int.emod_nonneg x (show (2 : Int) ^ k ≠ 0 by omega)
  have hl := Int.emod_lt_of_pos x hp
  unfold iand
  show (Int32.ofInt x &&& Int32.ofInt (2 ^ k - 1)).toBitVec.toInt = _
  have e1 : (Int32.ofInt x &&& Int32.ofInt (2 ^ k - 1)).toBitVec = BitVec.ofInt 32 x &&& BitVec.ofInt 32 (2 ^ k - 1) := rfl
  rw [e1]
  have e2 : (BitVec.ofInt 32 x &&& BitVec.ofInt 32 (2 ^ k - 1)).toNat = (x % 2 ^ k).toNat := by
    rw [BitVec.toNat_and, BitVec.toNat_ofInt, BitVec.toNat_ofInt]
    have e3 : ((2 ^ k - 1 : Int) % ((2 ^ 32 : Nat) : Int)).toNat = 2 ^ k - 1 := by
      rw [Int.emod_eq_of_lt (by omega) (by omega)]
      have : ((2 ^ k : Nat) : Int) = (2 : Int) ^ k := by simp
      omega
    rw [e3, nat_land_mask]
    have h0 := Int.emod_nonneg x (show ((2 ^ 32 : Nat) : Int) ≠ 0 by decide)
    have e4 : ((x % ((2 ^ 32 : Nat) : Int)).toNat % 2 ^ k : Nat) = ((x % ((2 ^ 32 : Nat) : Int)) % (2 : Int) ^ k).toNat := by
      have : ((x % ((2 ^ 32 : Nat) : Int)).toNat : Int) = x % ((2 ^ 32 : Nat) : Int) := Int.toNat_of_nonneg h0
      apply Int.ofNat.inj
      show (((x % ((2 ^ 32 : Nat) : Int)).toNat % 2 ^ k : Nat) : Int) = (((x % ((2 ^ 32 : Nat) : Int)) % (2 : Int) ^ k).toNat : Int)
      rw [Int.toNat_of_nonneg (Int.emod_nonneg _ (by omega)), Int.natCast_emod, this]
      simp
    rw [e4]
    congr 1
    refine Int.emod_emod_of_dvd x ?_
    refine ⟨2 ^ (32 - k), ?_⟩
    rw [← Int.pow_add, show k + (32 - k) = 32 by omega]
    rfl
  rw [BitVec.toInt_eq_toNat_of_lt (by rw [e2]; omega), e2, Int.toNat_of_nonneg hm]
theorem land_1 (x : Int) : land x 1 = x % 2 := by
  have := land_mask x (k := 1) (by omega)
  exact this
theorem iand_1 (x : Int) : iand x 1 = x % 2 := by
  have := iand_mask x (k := 1) (by omega)
  exact this
theorem lshr_nat (x : Int) {y : Nat} (hy : y < 64) : lshr x (y : Int) = x / 2 ^ y := by
  unfold lshr
  rw [Int.emod_eq_of_lt (by omega) (by omega)]
  rfl
theorem bit_of_mod (x : Int) {i : Nat} (hi : i < 64) : x % 18446744073709551616 / 2 ^ i % 2 = x / 2 ^ i % 2 := by
  have e : (18446744073709551616 : Int) = 2 ^ i * (2 * 2 ^ (63 - i)) := by
    have : (2 : Int) ^ i * (2 * 2 ^ (63 - i)) = 2 ^ (i + 1 + (63 - i)) := by rw [Int.pow_add, Int.pow_succ, Int.mul_assoc]
    rw [this, show i + 1 + (63 - i) = 64 by omega]
    rfl
  have h := Int.mul_ediv_add_emod x 18446744073709551616
  have hp0 : (0 : Int) < 2 ^ i := Int.pow_pos (by omega)
  have hp : (2 : Int) ^ i ≠ 0 := by omega
  have h2 : x / 2 ^ i = 2 * (2 ^ (63 - i) * (x / 18446744073709551616)) + x % 18446744073709551616 / 2 ^ i := by
    conv => lhs; rw [← h, e]
    rw [show (2 : Int) ^ i * (2 * 2 ^ (63 - i)) * (x / (2 ^ i * (2 * 2 ^ (63 - i)))) + x % (2 ^ i * (2 * 2 ^ (63 - i))) = x % (2 ^ i * (2 * 2 ^ (63 - i))) + 2 ^ i * (2 * (2 ^ (63 - i) * (x / (2 ^ i * (2 * 2 ^ (63 - i)))))) by rw [Int.add_comm]; congr 1; ac_rfl]
    rw [Int.add_mul_ediv_left _ _ hp, ← e]
    omega
  omega
theorem lushr_bit (x : Int) {y : Nat} (hy : y < 64) : land (lushr x (y : Int)) 1 = x / 2 ^ y % 2 := by
  rw [land_1]
  unfold lushr
  rw [Int.emod_eq_of_lt (show (0 : Int) ≤ y by omega) (by omega), Int.toNat_natCast, ← bit_of_mod x hy]
  unfold w64
  omega
theorem lshr_bit (x : Int) {y : Nat} (hy : y < 64) : land (lshr x (y : Int)) 1 = x / 2 ^ y % 2 := by rw [land_1, lshr_nat x hy]
