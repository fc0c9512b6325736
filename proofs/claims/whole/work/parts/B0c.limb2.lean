/-! limbs, on: products, comparing, halves, doubles, bits set and cleared -/
theorem mulW {x y : Int} (hx : 0 ≤ x) (hx2 : x < 4294967296) (hy : 0 ≤ y) (hy2 : y < 4294967296) : 0 ≤ x * y ∧ x * y ≤ 18446744065119617025 := by
  refine ⟨Int.mul_nonneg hx hy, ?_⟩
  have h1 := Int.mul_le_mul_of_nonneg_right (show x ≤ 4294967295 by omega) hy
  omega
theorem addp_step {f g : Nat → Int} {i j : Nat} {k F b w u : Int} (hij : i + j < 12) (hg : ∀ m, m ≠ i + j → g m = f m) (hgk : g (i + j) % 4294967296 = (k + (f (i + j) % 4294967296 + F * b)) % 4294967296)
    (hu : uv f 12 + k * 4294967296 ^ (i + j) = u + F * w * 4294967296 ^ i) : uv g 12 + (k + (f (i + j) % 4294967296 + F * b)) / 4294967296 * 4294967296 ^ (i + (j + 1)) = u + F * (w + b * 4294967296 ^ j) * 4294967296 ^ i := by
  rw [uv_upd hij hg, hgk, ← Nat.add_assoc, bp_succ]
  have hd := dig_step (k + (f (i + j) % 4294967296 + F * b)) (4294967296 ^ (i + j))
  rw [Int.pow_add] at *
  generalize (4294967296 : Int) ^ i = P at *
  generalize (4294967296 : Int) ^ j = Q at *
  generalize (k + (f (i + j) % 4294967296 + F * b)) / 4294967296 = D at *
  generalize hS : (k + (f (i + j) % 4294967296 + F * b)) % 4294967296 = R at *
  generalize f (i + j) % 4294967296 = O at *
  grind
theorem addp_end {U0 U1 U2 A W k F X wj : Int} {i j : Nat} (hij : i + j = 12) (h1 : U1 = (U0 + A * W) % b12) (hu : U2 + k * 4294967296 ^ (i + j) = U1 + F * wj * 4294967296 ^ i) (hb : 0 ≤ U2 ∧ U2 < b12) (hW : W = wj + X * 4294967296 ^ j) : U2 = (U0 + (A + F * 4294967296 ^ i) * W) % b12 := by
  have h := Int.mul_ediv_add_emod (U0 + A * W) b12
  rw [← h1] at h
  have e : U0 + (A + F * 4294967296 ^ i) * W = U2 + (k + F * X + (U0 + A * W) / b12) * b12 := by
    have hP : (4294967296 : Int) ^ i * 4294967296 ^ j = b12 := by rw [← Int.pow_add, hij]
    rw [Int.pow_add, hP] at hu
    generalize (U0 + A * W) / b12 = q at *
    generalize b12 = M at *
    generalize (4294967296 : Int) ^ i = P at *
    generalize (4294967296 : Int) ^ j = Q at *
    grind
  rw [e, Int.add_mul_emod_self_right]
  exact (Int.emod_eq_of_lt hb.1 hb.2).symm
theorem uv_lt {f g : Nat → Int} {i n : Nat} (hi : i < n) (h : ∀ j, i < j → j < n → f j % 4294967296 = g j % 4294967296) (h2 : f i % 4294967296 < g i % 4294967296) : uv f n < uv g n := by
  induction n with
  | zero => omega
  | succ n ih =>
    rw [uv_succ, uv_succ]
    by_cases e : i = n
    · subst e
      have hf := uv_b f i
      have hg := uv_b g i
      have hp := bp_pos i
      have := Int.mul_le_mul_of_nonneg_right (show f i % 4294967296 + 1 ≤ g i % 4294967296 by omega) (Int.le_of_lt hp)
      rw [Int.add_mul] at this
      omega
    · have := ih (by omega) (fun j h1 h3 => h j h1 (by omega))
      rw [h n (by omega) (by omega)]
      omega
theorem sv_lt_low {f g : Nat → Int} {i : Nat} (hi : i < 11) (h : ∀ j, i < j → j < 11 → f j % 4294967296 = g j % 4294967296) (h2 : f i % 4294967296 < g i % 4294967296) (h3 : f 11 = g 11) : sv f < sv g := by
  unfold sv
  have := uv_lt hi h h2
  rw [h3]
  omega
theorem sv_lt_top {f g : Nat → Int} (h : f 11 < g 11) : sv f < sv g := by
  unfold sv
  have hf := uv_b f 11
  have hg := uv_b g 11
  have hp := bp_pos 11
  have := Int.mul_le_mul_of_nonneg_right (show f 11 + 1 ≤ g 11 by omega) (Int.le_of_lt hp)
  rw [Int.add_mul] at this
  omega
theorem uv_eq {f g : Nat → Int} {n : Nat} (h : ∀ j < n, f j % 4294967296 = g j % 4294967296) : uv f n = uv g n := by
  induction n with
  | zero => rfl
  | succ n ih => rw [uv_succ, uv_succ, ih (fun j hj => h j (by omega)), h n (by omega)]
theorem sv_eq {f g : Nat → Int} (h : ∀ j < 11, f j % 4294967296 = g j % 4294967296) (h3 : f 11 = g 11) : sv f = sv g := by
  unfold sv
  rw [uv_eq h, h3]
/-- the limbs from m on -/
def hv (f : Nat → Int) (m : Nat) : Int := uv (fun j => f (m + j)) (12 - m)
theorem uv_cons (f : Nat → Int) (n : Nat) : uv f (n + 1) = f 0 % 4294967296 + 4294967296 * uv (fun j => f (j + 1)) n := by
  induction n with
  | zero => rw [uv_succ]; show 0 + _ * 1 = _ + _ * 0; omega
  | succ n ih =>
    rw [uv_succ, ih, uv_succ, bp_succ]
    have : f (n + 1) % 4294967296 * (4294967296 ^ n * 4294967296) = 4294967296 * (f (n + 1) % 4294967296 * 4294967296 ^ n) := by rw [← Int.mul_assoc, Int.mul_comm]
    omega
theorem hv_step (f : Nat → Int) {m : Nat} (hm : m < 12) : hv f m = f m % 4294967296 + 4294967296 * hv f (m + 1) := by
  unfold hv
  rw [show 12 - m = (12 - (m + 1)) + 1 by omega, uv_cons]
  show f m % _ + _ * _ = _
  congr 2
  refine uv_congr fun j _ => ?_
  show f (m + (j + 1)) = f (m + 1 + j)
  congr 1
  omega
theorem hv_12 (f : Nat → Int) : hv f 12 = 0 := rfl
theorem hv_0 (f : Nat → Int) : hv f 0 = uv f 12 := by
  unfold hv
  exact uv_congr fun j _ => by show f (0 + j) = f j; rw [Nat.zero_add]
theorem hv_congr {f g : Nat → Int} {m : Nat} (h : ∀ j, m ≤ j → f j = g j) : hv f m = hv g m := uv_congr fun j _ => h _ (by omega)
theorem uv_even (f : Nat → Int) : uv f 12 % 2 = f 0 % 2 := by
  rw [uv_cons]
  omega
theorem nat_pow_split {n : Nat} {k : Nat} (hk : n / 32 = k) : (2 : Int) ^ n = 2 ^ (n % 32) * 4294967296 ^ k := by
  have h := Nat.div_add_mod n 32
  have e : (4294967296 : Int) = 2 ^ 32 := by decide
  rw [e, ← Int.pow_mul, ← Int.pow_add, ← hk]
  congr 1
  omega
/-- below a multiple's bits there is nothing -/
theorem uv_mult {f : Nat → Int} {k r : Nat} (hk : k < 12) (hr : r ≤ 32) (h : (2 ^ r * 4294967296 ^ k : Int) ∣ uv f 12) : uv f k = 0 ∧ ∃ a : Nat, f k % 4294967296 = ((2 ^ r * a : Nat) : Int) := by
  obtain ⟨q, hq⟩ := h
  have e : (12 : Nat) = k + ((11 - k) + 1) := by omega
  have h1 := uv_split f k ((11 - k) + 1)
  rw [← e, uv_cons (fun j => f (k + j)) (11 - k)] at h1
  have hb := uv_b f k
  have hp := bp_pos k
  have hB : (4294967296 : Int) = 2 ^ r * 2 ^ (32 - r) := by
    rw [← Int.pow_add, show r + (32 - r) = 32 by omega]
    decide
  have h2 : uv f k = 4294967296 ^ k * (2 ^ r * q - (f (k + 0) % 4294967296 + 4294967296 * uv (fun j => f (k + (j + 1))) (11 - k))) := by
    rw [h1] at hq
    have e2 : (fun j => (fun j => f (k + j)) (j + 1)) = fun j => f (k + (j + 1)) := rfl
    rw [e2] at hq
    generalize uv (fun j => f (k + (j + 1))) (11 - k) = Y at *
    show uv f k = _ * (_ - ((f (k + 0)) % 4294967296 + _))
    have hq : uv f k + (f (k + 0) % 4294967296 + 4294967296 * Y) * 4294967296 ^ k = 2 ^ r * 4294967296 ^ k * q := hq
    generalize f (k + 0) % 4294967296 = Z at *
    generalize (4294967296 : Int) ^ k = P at *
    generalize (2 : Int) ^ r = R at *
    grind
  have h3 : (2 ^ r * q - (f (k + 0) % 4294967296 + 4294967296 * uv (fun j => f (k + (j + 1))) (11 - k))) = 0 := by
    generalize (2 ^ r * q - (f (k + 0) % 4294967296 + 4294967296 * uv (fun j => f (k + (j + 1))) (11 - k))) = y at h2
    rcases Int.lt_trichotomy y 0 with u | u | u
    · have := Int.mul_le_mul_of_nonneg_left (show y ≤ -1 by omega) (Int.le_of_lt hp)
      omega
    · exact u
    · have := Int.mul_le_mul_of_nonneg_left (show 1 ≤ y by omega) (Int.le_of_lt hp)
      omega
  refine ⟨by rw [h2, h3, Int.mul_zero], ?_⟩
  have hd : ((2 ^ r : Nat) : Int) ∣ f k % 4294967296 := by
    refine ⟨q - 2 ^ (32 - r) * uv (fun j => f (k + (j + 1))) (11 - k), ?_⟩
    rw [Int.natCast_pow]
    show _ = ((2 : Int)) ^ r * _
    have e3 : f (k + 0) = f k := rfl
    rw [e3] at h3
    generalize uv (fun j => f (k + (j + 1))) (11 - k) = Y at *
    have h4 : (4294967296 : Int) * Y = 2 ^ r * 2 ^ (32 - r) * Y := by rw [← hB]
    rw [h4] at h3
    generalize f k % 4294967296 = Z at *
    generalize (2 : Int) ^ r = R at *
    generalize (2 : Int) ^ (32 - r) = T at *
    grind
  obtain ⟨a, ha⟩ := hd
  have h5 := Int.emod_nonneg (f k) (show (4294967296 : Int) ≠ 0 by decide)
  have h6 : (0 : Int) < ((2 ^ r : Nat) : Int) := by have := Nat.two_pow_pos r; omega
  have h7 : 0 ≤ a := by
    refine Int.not_lt.mp fun u => ?_
    have := Int.mul_le_mul_of_nonneg_left (show a ≤ -1 by omega) (Int.le_of_lt h6)
    omega
  refine ⟨a.toNat, ?_⟩
  rw [ha, Int.natCast_mul, Int.toNat_of_nonneg h7]
