/-! whole numbers in limbs: 32 bits each, two's complement (the class); 24 bits each beside a sign (the reference) -/
def uv (f : Nat → Int) (n : Nat) : Int := match n with
  | 0 => 0
  | n + 1 => uv f n + f n % 4294967296 * 4294967296 ^ n
theorem uv_succ (f : Nat → Int) (n : Nat) : uv f (n + 1) = uv f n + f n % 4294967296 * 4294967296 ^ n := rfl
theorem bp_pos (n : Nat) : (0 : Int) < 4294967296 ^ n := Int.pow_pos (by decide)
theorem bp_succ (n : Nat) : (4294967296 : Int) ^ (n + 1) = 4294967296 ^ n * 4294967296 := Int.pow_succ _ _
theorem uv_b (f : Nat → Int) (n : Nat) : 0 ≤ uv f n ∧ uv f n < 4294967296 ^ n := by
  induction n with
  | zero => exact ⟨Int.le_refl 0, show (0 : Int) < 4294967296 ^ 0 by decide⟩
  | succ n ih =>
    rw [uv_succ, bp_succ]
    have h1 := Int.emod_nonneg (f n) (show (4294967296 : Int) ≠ 0 by decide)
    have h2 := Int.emod_lt_of_pos (f n) (show (0 : Int) < 4294967296 by decide)
    have hp := bp_pos n
    have h3 := Int.mul_nonneg h1 (Int.le_of_lt hp)
    have h4 := Int.mul_le_mul_of_nonneg_right (show f n % 4294967296 ≤ 4294967295 by omega) (Int.le_of_lt hp)
    omega
theorem uv_congr {f g : Nat → Int} {n : Nat} (h : ∀ j < n, f j = g j) : uv f n = uv g n := by
  induction n with
  | zero => rfl
  | succ n ih => rw [uv_succ, uv_succ, ih (fun j hj => h j (by omega)), h n (by omega)]
theorem uv_upd {f g : Nat → Int} {n k : Nat} (hk : k < n) (h : ∀ j, j ≠ k → g j = f j) : uv g n = uv f n + (g k % 4294967296 - f k % 4294967296) * 4294967296 ^ k := by
  induction n with
  | zero => omega
  | succ n ih =>
    rw [uv_succ, uv_succ]
    by_cases e : k = n
    · subst e
      rw [uv_congr (f := g) (g := f) (n := k) (fun j hj => h j (by omega)), Int.sub_mul]
      omega
    · rw [ih (by omega), h n (by omega)]
      omega
theorem uv_zero {f : Nat → Int} {n : Nat} (h : ∀ j < n, f j = 0) : uv f n = 0 := by
  induction n with
  | zero => rfl
  | succ n ih => rw [uv_succ, ih (fun j hj => h j (by omega)), h n (by omega)]; simp
theorem uv_nz {f : Nat → Int} {n k : Nat} (hk : k < n) (h : f k % 4294967296 ≠ 0) : 4294967296 ^ k ≤ uv f n := by
  induction n with
  | zero => omega
  | succ n ih =>
    rw [uv_succ]
    have h1 := Int.emod_nonneg (f n) (show (4294967296 : Int) ≠ 0 by decide)
    have hp := bp_pos n
    by_cases e : k = n
    · subst e
      have hb := (uv_b f k).1
      have h4 := Int.mul_le_mul_of_nonneg_right (show 1 ≤ f k % 4294967296 by omega) (Int.le_of_lt hp)
      omega
    · have h3 := Int.mul_nonneg h1 (Int.le_of_lt hp)
      have := ih (by omega)
      omega
/-- the numbers from limb m on -/
theorem uv_split (f : Nat → Int) (m n : Nat) : uv f (m + n) = uv f m + uv (fun j => f (m + j)) n * 4294967296 ^ m := by
  induction n with
  | zero => show uv f m = uv f m + 0 * _; omega
  | succ n ih =>
    rw [← Nat.add_assoc, uv_succ, ih, uv_succ, Int.pow_add, Int.add_mul, Int.mul_comm ((4294967296 : Int) ^ m) _, ← Int.mul_assoc]
    omega
/-- two's complement -/
def sv (f : Nat → Int) : Int := f 11 * 4294967296 ^ 11 + uv f 11
abbrev b12 : Int := 4294967296 ^ 12
theorem sv_mod (f : Nat → Int) : (sv f) % b12 = uv f 12 := by
  have hb := uv_b f 12
  have e : sv f = uv f 12 + f 11 / 4294967296 * b12 := by
    unfold sv b12
    rw [show uv f 12 = uv f 11 + f 11 % 4294967296 * 4294967296 ^ 11 from rfl, bp_succ 11]
    have := Int.mul_ediv_add_emod (f 11) 4294967296
    have h2 : f 11 * (4294967296 : Int) ^ 11 = (4294967296 * (f 11 / 4294967296) + f 11 % 4294967296) * 4294967296 ^ 11 := by rw [this]
    rw [h2, Int.add_mul]
    have h3 : 4294967296 * (f 11 / 4294967296) * (4294967296 : Int) ^ 11 = f 11 / 4294967296 * (4294967296 ^ 11 * 4294967296) := by
      rw [Int.mul_comm 4294967296 (f 11 / 4294967296), Int.mul_assoc, Int.mul_comm (4294967296 : Int) (4294967296 ^ 11)]
    rw [h3]
    omega
  rw [e, Int.add_mul_emod_self_right]
  exact Int.emod_eq_of_lt hb.1 hb.2
/-- what a limb row holds: small enough cells, this whole number -/
def LV (f : Nat → Int) (z : Int) : Prop := (∀ j < 12, r32 (f j)) ∧ sv f = z
theorem sv_b {f : Nat → Int} (h : r32 (f 11)) : -2147483648 * 4294967296 ^ 11 ≤ sv f ∧ sv f < 2147483648 * 4294967296 ^ 11 := by
  unfold sv
  have hb := uv_b f 11
  have hp := bp_pos 11
  have h1 := Int.mul_le_mul_of_nonneg_right h.1 (Int.le_of_lt hp)
  have h2 := Int.mul_le_mul_of_nonneg_right (show f 11 ≤ 2147483647 by have := h.2; omega) (Int.le_of_lt hp)
  omega
theorem LV_of {f : Nat → Int} {z : Int} (h : ∀ j < 12, r32 (f j)) (e : uv f 12 = z % b12) (h1 : -2147483648 * 4294967296 ^ 11 ≤ z) (h2 : z < 2147483648 * 4294967296 ^ 11) : LV f z := by
  refine ⟨h, ?_⟩
  have hb := sv_b (h 11 (by omega))
  have hm := sv_mod f
  rw [e] at hm
  have h3 := Int.emod_emod_of_dvd (sv f - z) (Int.dvd_refl b12)
  have h4 : (sv f - z) % b12 = 0 := Int.emod_eq_emod_iff_emod_sub_eq_zero.mp hm
  obtain ⟨k, hk⟩ := Int.dvd_of_emod_eq_zero h4
  have hB : b12 = 4294967296 * 4294967296 ^ 11 := by decide
  have hp := bp_pos 11
  rw [hB] at hk
  have hk1 : k = 0 := by
    rcases Int.lt_trichotomy k 0 with q | q | q
    · have := Int.mul_le_mul_of_nonneg_left (show k ≤ -1 by omega) (show (0 : Int) ≤ 4294967296 * 4294967296 ^ 11 by omega)
      omega
    · exact q
    · have := Int.mul_le_mul_of_nonneg_left (show 1 ≤ k by omega) (show (0 : Int) ≤ 4294967296 * 4294967296 ^ 11 by omega)
      omega
  rw [hk1] at hk
  omega
theorem LV.uvm {f : Nat → Int} {z : Int} (h : LV f z) : uv f 12 = z % b12 := by rw [← h.2, sv_mod]
theorem LV.neg {f : Nat → Int} {z : Int} (h : LV f z) : z < 0 ↔ f 11 < 0 := by
  have hb := uv_b f 11
  have hp := bp_pos 11
  have e := h.2
  unfold sv at e
  constructor
  · intro u
    refine Int.not_le.mp fun q => ?_
    have := Int.mul_nonneg q (Int.le_of_lt hp)
    omega
  · intro u
    have := Int.mul_le_mul_of_nonneg_right (show f 11 ≤ -1 by omega) (Int.le_of_lt hp)
    omega
theorem LV.pos {f : Nat → Int} {z : Int} (h : LV f z) (hz : 0 ≤ z) : uv f 12 = z := by
  have h1 := h.uvm
  have hb := sv_b (h.1 11 (by omega))
  have e := h.2
  rw [h1]
  refine Int.emod_eq_of_lt hz ?_
  have hB : b12 = 4294967296 * 4294967296 ^ 11 := by decide
  have hp := bp_pos 11
  omega
theorem LV.zero {f : Nat → Int} {z : Int} (h : LV f z) : z = 0 ↔ ∀ j < 12, f j = 0 := by
  constructor
  · intro u j hj
    have h1 := h.pos (by omega)
    rw [u] at h1
    have hr := h.1 j hj
    unfold r32 at hr
    by_cases q : f j % 4294967296 = 0
    · omega
    · have := uv_nz (f := f) hj q
      have := bp_pos j
      omega
  · intro u
    rw [← h.2]
    unfold sv
    rw [uv_zero (fun j hj => u j (by omega)), u 11 (by omega)]
    omega
theorem LV.of12 {f : Nat → Int} {z : Int} (h : ∀ j < 12, r32 (f j)) (e : uv f 12 = z) (h2 : z < 2147483648 * 4294967296 ^ 11) : LV f z := by
  have hb := uv_b f 12
  refine LV_of h ?_ (by omega) h2
  rw [e, Int.emod_eq_of_lt (by omega) (by show z < 4294967296 ^ 12; omega)]
theorem dig_step (s P : Int) : s % 4294967296 * P + s / 4294967296 * (P * 4294967296) = s * P := by
  have h := Int.mul_ediv_add_emod s 4294967296
  have h2 : s * P = (4294967296 * (s / 4294967296) + s % 4294967296) * P := by rw [h]
  rw [h2, Int.add_mul, Int.mul_comm P 4294967296, ← Int.mul_assoc, Int.mul_comm 4294967296 (s / 4294967296)]
  omega
theorem mod_b12 {f : Nat → Int} {k y : Int} (h : uv f 12 + k * b12 = y) : uv f 12 = y % b12 := by
  have hb := uv_b f 12
  rw [← h, Int.add_mul_emod_self_right]
  exact (Int.emod_eq_of_lt hb.1 hb.2).symm
theorem w32_mod (z : Int) : w32 z % 4294967296 = z % 4294967296 := by unfold w32; omega
theorem w32_r (z : Int) : r32 (w32 z) := by unfold r32 w32; omega
theorem w64_mod (z : Int) : w64 z % 4294967296 = z % 4294967296 := by unfold w64; omega
