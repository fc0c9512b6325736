/-! whole numbers against the machine's 32 and 64 bits -/
theorem w32_bmod (z : Int) : w32 z = z.bmod 4294967296 := by
  unfold w32 Int.bmod; simp only [show ((4294967296 : Nat) : Int) = 4294967296 from rfl]; split <;> omega
theorem w64_bmod (z : Int) : w64 z = z.bmod 18446744073709551616 := by
  unfold w64 Int.bmod; simp only [show ((18446744073709551616 : Nat) : Int) = 18446744073709551616 from rfl]; split <;> omega
theorem r32_w (z : Int) : r32 (w32 z) := by unfold r32 w32; omega
theorem r64_w (z : Int) : r64 (w64 z) := by unfold r64 w64; omega
theorem w32_id {z : Int} (h : r32 z) : w32 z = z := by unfold r32 at h; unfold w32; omega
theorem w64_id {z : Int} (h : r64 z) : w64 z = z := by unfold r64 at h; unfold w64; omega
theorem i32_to {z : Int} (h : r32 z) : (Int32.ofInt z).toInt = z := Int32.toInt_ofInt_of_le (by have := h.1; omega) (by have := h.2; omega)
theorem i64_to {z : Int} (h : r64 z) : (Int64.ofInt z).toInt = z := Int64.toInt_ofInt_of_le (by have := h.1; omega) (by have := h.2; omega)
theorem r32_to (x : Int32) : r32 x.toInt := ⟨by have := x.le_toInt; omega, by have := x.toInt_lt; omega⟩
theorem r64_to (x : Int64) : r64 x.toInt := ⟨by have := x.le_toInt; omega, by have := x.toInt_lt; omega⟩
theorem i32_w (z : Int) : Int32.ofInt (w32 z) = Int32.ofInt z := by
  rw [Int32.ofInt_eq_iff_bmod_eq_toInt, Int32.toInt_ofInt, w32_bmod]
  exact Int.bmod_bmod
theorem i64_w (z : Int) : Int64.ofInt (w64 z) = Int64.ofInt z := by
  rw [Int64.ofInt_eq_iff_bmod_eq_toInt, Int64.toInt_ofInt, w64_bmod]
  exact Int.bmod_bmod
theorem i32_inj {x y : Int} (hx : r32 x) (hy : r32 y) : Int32.ofInt x = Int32.ofInt y ↔ x = y := by
  rw [← Int32.toInt_inj, i32_to hx, i32_to hy]
theorem i64_inj {x y : Int} (hx : r64 x) (hy : r64 y) : Int64.ofInt x = Int64.ofInt y ↔ x = y := by
  rw [← Int64.toInt_inj, i64_to hx, i64_to hy]
theorem i32_lt {x y : Int} (hx : r32 x) (hy : r32 y) : Int32.ofInt x < Int32.ofInt y ↔ x < y := by
  rw [Int32.lt_iff_toInt_lt, i32_to hx, i32_to hy]
theorem i64_lt {x y : Int} (hx : r64 x) (hy : r64 y) : Int64.ofInt x < Int64.ofInt y ↔ x < y := by
  rw [Int64.lt_iff_toInt_lt, i64_to hx, i64_to hy]
theorem r32_0 : r32 0 := ⟨by decide, by decide⟩
theorem r64_0 : r64 0 := ⟨by decide, by decide⟩
theorem i32_0 : Int32.ofInt 0 = 0 := by decide +kernel
theorem i64_0 : Int64.ofInt 0 = 0 := by decide +kernel
theorem i32_add (x y : Int) : Int32.ofInt x + Int32.ofInt y = Int32.ofInt (w32 (x + y)) := by rw [i32_w, Int32.ofInt_add]
theorem i32_sub (x y : Int) : Int32.ofInt x - Int32.ofInt y = Int32.ofInt (w32 (x - y)) := by rw [i32_w, Int32.ofInt_sub]
theorem i32_mul (x y : Int) : Int32.ofInt x * Int32.ofInt y = Int32.ofInt (w32 (x * y)) := by rw [i32_w, Int32.ofInt_mul]
theorem i32_neg (x : Int) : -Int32.ofInt x = Int32.ofInt (w32 (-x)) := by rw [i32_w, Int32.ofInt_neg]
theorem i64_add (x y : Int) : Int64.ofInt x + Int64.ofInt y = Int64.ofInt (w64 (x + y)) := by rw [i64_w, Int64.ofInt_add]
theorem i64_sub (x y : Int) : Int64.ofInt x - Int64.ofInt y = Int64.ofInt (w64 (x - y)) := by rw [i64_w, Int64.ofInt_sub]
theorem i64_mul (x y : Int) : Int64.ofInt x * Int64.ofInt y = Int64.ofInt (w64 (x * y)) := by rw [i64_w, Int64.ofInt_mul]
theorem i64_neg (x : Int) : -Int64.ofInt x = Int64.ofInt (w64 (-x)) := by rw [i64_w, Int64.ofInt_neg]
theorem i32_div {x y : Int} (hx : r32 x) (hy : r32 y) : Int32.ofInt x / Int32.ofInt y = Int32.ofInt (w32 (x.tdiv y)) := by
  rw [← Int32.toInt_inj, Int32.toInt_div, i32_to hx, i32_to hy, i32_to (r32_w _), w32_bmod]
theorem i64_div {x y : Int} (hx : r64 x) (hy : r64 y) : Int64.ofInt x / Int64.ofInt y = Int64.ofInt (w64 (x.tdiv y)) := by
  rw [← Int64.toInt_inj, Int64.toInt_div, i64_to hx, i64_to hy, i64_to (r64_w _), w64_bmod]
theorem i32_rem {x y : Int} (hx : r32 x) (hy : r32 y) : Int32.ofInt x - Int32.ofInt x / Int32.ofInt y * Int32.ofInt y = Int32.ofInt (x.tmod y) := by
  rw [i32_div hx hy, i32_w, ← Int32.ofInt_mul, ← Int32.ofInt_sub, Int.tmod_def, Int.mul_comm]
theorem i64_rem {x y : Int} (hx : r64 x) (hy : r64 y) : Int64.ofInt x - Int64.ofInt x / Int64.ofInt y * Int64.ofInt y = Int64.ofInt (x.tmod y) := by
  rw [i64_div hx hy, i64_w, ← Int64.ofInt_mul, ← Int64.ofInt_sub, Int.tmod_def, Int.mul_comm]
theorem r32_tmod {x y : Int} (hx : r32 x) (hy : y ≠ 0) : r32 (x.tmod y) := by
  unfold r32 at hx ⊢
  rcases Int.le_total 0 x with h | h
  · have h1 := Int.tmod_nonneg y h
    have h2 : x.tmod y ≤ x := by
      rw [Int.tmod_def]
      have := Int.tmod_nonneg y h
      rcases Int.lt_or_gt_of_ne hy with q | q
      · rw [← Int.neg_neg y, Int.tdiv_neg, Int.neg_mul_neg]
        have := Int.mul_nonneg (show (0 : Int) ≤ -y by omega) (Int.tdiv_nonneg h (show (0 : Int) ≤ -y by omega)); omega
      · have := Int.mul_nonneg (show (0 : Int) ≤ y by omega) (Int.tdiv_nonneg h (show (0 : Int) ≤ y by omega)); omega
    omega
  · have h3 : x.tmod y = -((-x).tmod y) := by rw [Int.neg_tmod, Int.neg_neg]
    have h4 : (0 : Int) ≤ -x := by omega
    have h1 := Int.tmod_nonneg y h4
    have h2 : (-x).tmod y ≤ -x := by
      rw [Int.tmod_def]
      rcases Int.lt_or_gt_of_ne hy with q | q
      · rw [← Int.neg_neg y, Int.tdiv_neg, Int.neg_mul_neg]
        have := Int.mul_nonneg (show (0 : Int) ≤ -y by omega) (Int.tdiv_nonneg h4 (show (0 : Int) ≤ -y by omega)); omega
      · have := Int.mul_nonneg (show (0 : Int) ≤ y by omega) (Int.tdiv_nonneg h4 (show (0 : Int) ≤ y by omega)); omega
    omega
theorem r64_tmod {x y : Int} (hx : r64 x) (hy : y ≠ 0) : r64 (x.tmod y) := by
  unfold r64 at hx ⊢
  rcases Int.le_total 0 x with h | h
  · have h1 := Int.tmod_nonneg y h
    have h2 : x.tmod y ≤ x := by
      rw [Int.tmod_def]
      rcases Int.lt_or_gt_of_ne hy with q | q
      · rw [← Int.neg_neg y, Int.tdiv_neg, Int.neg_mul_neg]
        have := Int.mul_nonneg (show (0 : Int) ≤ -y by omega) (Int.tdiv_nonneg h (show (0 : Int) ≤ -y by omega)); omega
      · have := Int.mul_nonneg (show (0 : Int) ≤ y by omega) (Int.tdiv_nonneg h (show (0 : Int) ≤ y by omega)); omega
    omega
  · have h3 : x.tmod y = -((-x).tmod y) := by rw [Int.neg_tmod, Int.neg_neg]
    have h4 : (0 : Int) ≤ -x := by omega
    have h1 := Int.tmod_nonneg y h4
    have h2 : (-x).tmod y ≤ -x := by
      rw [Int.tmod_def]
      rcases Int.lt_or_gt_of_ne hy with q | q
      · rw [← Int.neg_neg y, Int.tdiv_neg, Int.neg_mul_neg]
        have := Int.mul_nonneg (show (0 : Int) ≤ -y by omega) (Int.tdiv_nonneg h4 (show (0 : Int) ≤ -y by omega)); omega
      · have := Int.mul_nonneg (show (0 : Int) ≤ y by omega) (Int.tdiv_nonneg h4 (show (0 : Int) ≤ y by omega)); omega
    omega
theorem i32_and (x y : Int) : Int32.ofInt x &&& Int32.ofInt y = Int32.ofInt (iand x y) := by unfold iand; rw [Int32.ofInt_toInt]
theorem i32_or (x y : Int) : Int32.ofInt x ||| Int32.ofInt y = Int32.ofInt (ior x y) := by unfold ior; rw [Int32.ofInt_toInt]
theorem i32_xor (x y : Int) : Int32.ofInt x ^^^ Int32.ofInt y = Int32.ofInt (ixor x y) := by unfold ixor; rw [Int32.ofInt_toInt]
theorem i64_and (x y : Int) : Int64.ofInt x &&& Int64.ofInt y = Int64.ofInt (land x y) := by unfold land; rw [Int64.ofInt_toInt]
theorem i64_or (x y : Int) : Int64.ofInt x ||| Int64.ofInt y = Int64.ofInt (lor x y) := by unfold lor; rw [Int64.ofInt_toInt]
theorem i64_xor (x y : Int) : Int64.ofInt x ^^^ Int64.ofInt y = Int64.ofInt (lxor x y) := by unfold lxor; rw [Int64.ofInt_toInt]
/-- a shift's count -/
theorem sh_31 (y : Int) : ∃ k : Nat, k < 32 ∧ (y % 32).toNat = k ∧ (Int32.ofInt y &&& 31).toBitVec = BitVec.ofNat 32 k := by
  refine ⟨(y % 32).toNat, by omega, rfl, ?_⟩
  have h : (Int32.ofInt y &&& 31).toBitVec = BitVec.ofInt 32 y &&& 31#32 := rfl
  rw [h]
  apply BitVec.eq_of_toNat_eq
  rw [BitVec.toNat_and, BitVec.toNat_ofInt, BitVec.toNat_ofNat]
  have e : 31 % 2 ^ 32 = 2 ^ 5 - 1 := rfl
  rw [e, Nat.and_two_pow_sub_one_eq_mod]
  have h2 : ((2 ^ 32 : Nat) : Int) = 4294967296 := by decide
  rw [h2]
  have h3 : (y % 4294967296).toNat % 2 ^ 5 = (y % 32).toNat := by omega
  rw [h3]
  exact (Nat.mod_eq_of_lt (by omega)).symm
theorem sh_63 (y : Int) : ∃ k : Nat, k < 64 ∧ (y % 64).toNat = k ∧ ((Int32.ofInt y).toInt64 &&& 63).toBitVec = BitVec.ofNat 64 k := by
  refine ⟨(y % 64).toNat, by omega, rfl, ?_⟩
  have h : ((Int32.ofInt y).toInt64 &&& 63).toBitVec = (BitVec.ofInt 32 y).signExtend 64 &&& 63#64 := rfl
  rw [h]
  apply BitVec.eq_of_toNat_eq
  rw [BitVec.toNat_and, BitVec.toNat_ofNat]
  have e : 63 % 2 ^ 64 = 2 ^ 6 - 1 := rfl
  rw [e, Nat.and_two_pow_sub_one_eq_mod]
  have h4 : ((BitVec.ofInt 32 y).signExtend 64).toNat % 2 ^ 6 = (y % 64).toNat := by
    rw [BitVec.toNat_signExtend, BitVec.toNat_setWidth, BitVec.toNat_ofInt]
    have h2 : ((2 ^ 32 : Nat) : Int) = 4294967296 := by decide
    rw [h2]
    split <;> omega
  rw [h4]
  exact (Nat.mod_eq_of_lt (by omega)).symm
theorem sm_32 : ∀ k, k < 32 → ((BitVec.ofNat 32 k).smod 32).toNat = k := by decide +kernel
theorem sm_64 : ∀ k, k < 64 → ((BitVec.ofNat 64 k).smod 64).toNat = k := by decide +kernel
theorem um_32 : ∀ k, k < 32 → ((BitVec.ofNat 32 k) % 32).toNat = k := by decide +kernel
theorem um_64 : ∀ k, k < 64 → ((BitVec.ofNat 64 k) % 64).toNat = k := by decide +kernel
theorem i32_shl (x y : Int) : Int32.ofInt x <<< (Int32.ofInt y &&& 31) = Int32.ofInt (ishl x y) := by
  obtain ⟨k, hk, e1, e2⟩ := sh_31 y
  unfold ishl
  rw [i32_w, e1, ← Int32.toInt_inj, ← Int32.toInt_toBitVec, Int32.toBitVec_shiftLeft, e2, BitVec.shiftLeft_eq', sm_32 k hk, BitVec.toInt_shiftLeft, Int32.toBitVec_ofInt, BitVec.toNat_ofInt, Int32.toInt_ofInt, Nat.shiftLeft_eq]
  rw [Int.natCast_mul, Int.toNat_of_nonneg (by omega), Int.emod_mul_bmod]
  simp
theorem i64_shl (x y : Int) : Int64.ofInt x <<< ((Int32.ofInt y).toInt64 &&& 63) = Int64.ofInt (lshl x y) := by
  obtain ⟨k, hk, e1, e2⟩ := sh_63 y
  unfold lshl
  rw [i64_w, e1, ← Int64.toInt_inj, ← Int64.toInt_toBitVec, Int64.toBitVec_shiftLeft, e2, BitVec.shiftLeft_eq', sm_64 k hk, BitVec.toInt_shiftLeft, Int64.toBitVec_ofInt, BitVec.toNat_ofInt, Int64.toInt_ofInt, Nat.shiftLeft_eq]
  rw [Int.natCast_mul, Int.toNat_of_nonneg (by omega), Int.emod_mul_bmod]
  simp
theorem i32_shr {x : Int} (hx : r32 x) (y : Int) : Int32.ofInt x >>> (Int32.ofInt y &&& 31) = Int32.ofInt (ishr x y) := by
  obtain ⟨k, hk, e1, e2⟩ := sh_31 y
  have h : r32 (ishr x y) := by
    unfold ishr r32 at *
    rw [e1]
    have h1 : (0 : Int) < 2 ^ k := Int.pow_pos (by decide)
    constructor
    · exact (Int.le_ediv_iff_mul_le h1).mpr (by generalize (2 : Int) ^ k = P at h1 ⊢; omega)
    · exact (Int.ediv_lt_iff_lt_mul h1).mpr (by generalize (2 : Int) ^ k = P at h1 ⊢; omega)
  rw [← Int32.toInt_inj, i32_to h, ← Int32.toInt_toBitVec, Int32.toBitVec_shiftRight, e2, BitVec.sshiftRight_eq', sm_32 k hk, BitVec.toInt_sshiftRight, Int32.toInt_toBitVec, i32_to hx, Int.shiftRight_eq_div_pow]
  unfold ishr
  rw [e1]
  simp
theorem i64_shr {x : Int} (hx : r64 x) (y : Int) : Int64.ofInt x >>> ((Int32.ofInt y).toInt64 &&& 63) = Int64.ofInt (lshr x y) := by
  obtain ⟨k, hk, e1, e2⟩ := sh_63 y
  have h : r64 (lshr x y) := by
    unfold lshr r64 at *
    rw [e1]
    have h1 : (0 : Int) < 2 ^ k := Int.pow_pos (by decide)
    constructor
    · exact (Int.le_ediv_iff_mul_le h1).mpr (by generalize (2 : Int) ^ k = P at h1 ⊢; omega)
    · exact (Int.ediv_lt_iff_lt_mul h1).mpr (by generalize (2 : Int) ^ k = P at h1 ⊢; omega)
  rw [← Int64.toInt_inj, i64_to h, ← Int64.toInt_toBitVec, Int64.toBitVec_shiftRight, e2, BitVec.sshiftRight_eq', sm_64 k hk, BitVec.toInt_sshiftRight, Int64.toInt_toBitVec, i64_to hx, Int.shiftRight_eq_div_pow]
  unfold lshr
  rw [e1]
  simp
theorem r32_shr {x : Int} (hx : r32 x) (y : Int) : r32 (ishr x y) := by
  unfold ishr r32 at *
  have h1 : (0 : Int) < 2 ^ (y % 32).toNat := Int.pow_pos (by decide)
  constructor
  · exact (Int.le_ediv_iff_mul_le h1).mpr (by generalize (2 : Int) ^ (y % 32).toNat = P at h1 ⊢; omega)
  · exact (Int.ediv_lt_iff_lt_mul h1).mpr (by generalize (2 : Int) ^ (y % 32).toNat = P at h1 ⊢; omega)
theorem r64_shr {x : Int} (hx : r64 x) (y : Int) : r64 (lshr x y) := by
  unfold lshr r64 at *
  have h1 : (0 : Int) < 2 ^ (y % 64).toNat := Int.pow_pos (by decide)
  constructor
  · exact (Int.le_ediv_iff_mul_le h1).mpr (by generalize (2 : Int) ^ (y % 64).toNat = P at h1 ⊢; omega)
  · exact (Int.ediv_lt_iff_lt_mul h1).mpr (by generalize (2 : Int) ^ (y % 64).toNat = P at h1 ⊢; omega)
theorem i32_ushr (x y : Int) : ((Int32.ofInt x).toUInt32 >>> ((Int32.ofInt y).toUInt32 &&& Int32.toUInt32 31)).toInt32 = Int32.ofInt (iushr x y) := by
  obtain ⟨k, hk, e1, e2⟩ := sh_31 y
  unfold iushr
  rw [i32_w, e1, ← Int32.toBitVec_inj]
  have h1 : (((Int32.ofInt x).toUInt32 >>> ((Int32.ofInt y).toUInt32 &&& Int32.toUInt32 31)).toInt32).toBitVec = (BitVec.ofInt 32 x) >>> ((Int32.ofInt y &&& 31).toBitVec % 32) := rfl
  rw [h1, e2, BitVec.ushiftRight_eq', um_32 k hk, Int32.toBitVec_ofInt]
  apply BitVec.eq_of_toNat_eq
  rw [BitVec.toNat_ushiftRight, BitVec.toNat_ofInt, BitVec.toNat_ofInt, Nat.shiftRight_eq_div_pow]
  have h2 : ((2 ^ 32 : Nat) : Int) = 4294967296 := by decide
  rw [h2]
  have h3 : (0 : Int) ≤ x % 4294967296 := by omega
  have h4 : x % 4294967296 < 4294967296 := by omega
  obtain ⟨n, hn⟩ := Int.eq_ofNat_of_zero_le h3
  rw [hn, Int.toNat_natCast]
  have h5 : ((n : Int) / 2 ^ k) = ((n / 2 ^ k : Nat) : Int) := by simp
  rw [h5]
  have h6 : n / 2 ^ k ≤ n := Nat.div_le_self _ _
  generalize n / 2 ^ k = q at h6 ⊢
  omega
theorem i64_ushr (x y : Int) : ((Int64.ofInt x).toUInt64 >>> ((Int32.ofInt y).toInt64.toUInt64 &&& Int64.toUInt64 63)).toInt64 = Int64.ofInt (lushr x y) := by
  obtain ⟨k, hk, e1, e2⟩ := sh_63 y
  unfold lushr
  rw [i64_w, e1, ← Int64.toBitVec_inj]
  have h1 : (((Int64.ofInt x).toUInt64 >>> ((Int32.ofInt y).toInt64.toUInt64 &&& Int64.toUInt64 63)).toInt64).toBitVec = (BitVec.ofInt 64 x) >>> (((Int32.ofInt y).toInt64 &&& 63).toBitVec % 64) := rfl
  rw [h1, e2, BitVec.ushiftRight_eq', um_64 k hk, Int64.toBitVec_ofInt]
  apply BitVec.eq_of_toNat_eq
  rw [BitVec.toNat_ushiftRight, BitVec.toNat_ofInt, BitVec.toNat_ofInt, Nat.shiftRight_eq_div_pow]
  have h2 : ((2 ^ 64 : Nat) : Int) = 18446744073709551616 := by decide
  rw [h2]
  have h3 : (0 : Int) ≤ x % 18446744073709551616 := by omega
  have h4 : x % 18446744073709551616 < 18446744073709551616 := by omega
  obtain ⟨n, hn⟩ := Int.eq_ofNat_of_zero_le h3
  rw [hn, Int.toNat_natCast]
  have h5 : ((n : Int) / 2 ^ k) = ((n / 2 ^ k : Nat) : Int) := by simp
  rw [h5]
  have h6 : n / 2 ^ k ≤ n := Nat.div_le_self _ _
  generalize n / 2 ^ k = q at h6 ⊢
  omega
theorem i32_i2l {x : Int} (hx : r32 x) : (Int32.ofInt x).toInt64 = Int64.ofInt x := by
  have h : r64 x := by unfold r32 at hx; unfold r64; omega
  rw [← Int64.toInt_inj, Int32.toInt_toInt64, i32_to hx, i64_to h]
theorem i64_l2i {x : Int} (hx : r64 x) : (Int64.ofInt x).toInt32 = Int32.ofInt (w32 x) := by
  rw [i32_w, ← Int32.ofInt_int64ToInt, i64_to hx]
theorem i64_cmp {x y : Int} (hx : r64 x) (hy : r64 y) : lg_cmp (Int64.ofInt x) (Int64.ofInt y) = Int32.ofInt (lcmp x y) := by
  unfold lg_cmp lcmp
  by_cases h1 : x < y
  · rw [if_pos h1, if_neg (by rw [gt_iff_lt, i64_lt hy hx]; omega), if_neg (by rw [i64_inj hx hy]; omega)]; decide +kernel
  · rw [if_neg h1]
    by_cases h2 : x = y
    · rw [if_pos h2, if_neg (by rw [gt_iff_lt, i64_lt hy hx]; omega), if_pos (by rw [h2])]; decide +kernel
    · rw [if_neg h2, if_pos (by rw [gt_iff_lt, i64_lt hy hx]; omega)]; decide +kernel
theorem r32_lcmp (x y : Int) : r32 (lcmp x y) := by unfold lcmp r32; split <;> (try split) <;> decide
theorem i32_clamp {x : Int} (h0 : 0 ≤ x) (h : r32 x) : (Int32.ofInt x).toNatClampNeg = x.toNat := by
  show ((Int32.ofInt x).toInt).toNat = x.toNat
  rw [i32_to h]
theorem i32_nonneg {x : Int} (h0 : 0 ≤ x) (h : r32 x) : ¬ Int32.ofInt x < 0 := by
  rw [← i32_0, i32_lt h r32_0]; omega
