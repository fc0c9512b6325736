/-! limbs of 24 bits beside a sign and a count (the reference) -/
def mv (f : Nat → Int) (n : Nat) : Int := match n with
  | 0 => 0
  | n + 1 => mv f n + f n * 16777216 ^ n
theorem mv_succ (f : Nat → Int) (n : Nat) : mv f (n + 1) = mv f n + f n * 16777216 ^ n := rfl
theorem mp_pos (n : Nat) : (0 : Int) < 16777216 ^ n := Int.pow_pos (by decide)
theorem mp_succ (n : Nat) : (16777216 : Int) ^ (n + 1) = 16777216 ^ n * 16777216 := Int.pow_succ _ _
/-- limbs in their range -/
def ML (f : Nat → Int) : Prop := ∀ k < 16, 0 ≤ f k ∧ f k < 16777216
theorem mv_b {f : Nat → Int} {n : Nat} (h : ∀ k < n, 0 ≤ f k ∧ f k < 16777216) : 0 ≤ mv f n ∧ mv f n < 16777216 ^ n := by
  induction n with
  | zero => exact ⟨Int.le_refl 0, show (0 : Int) < 16777216 ^ 0 by decide⟩
  | succ n ih =>
    rw [mv_succ, mp_succ]
    have h0 := h n (by omega)
    have hi := ih (fun k hk => h k (by omega))
    have hp := mp_pos n
    have h3 := Int.mul_nonneg h0.1 (Int.le_of_lt hp)
    have h4 := Int.mul_le_mul_of_nonneg_right (show f n ≤ 16777215 by omega) (Int.le_of_lt hp)
    omega
theorem ML.b {f : Nat → Int} (h : ML f) : 0 ≤ mv f 16 ∧ mv f 16 < 16777216 ^ 16 := mv_b h
theorem mv_congr {f g : Nat → Int} {n : Nat} (h : ∀ j < n, f j = g j) : mv f n = mv g n := by
  induction n with
  | zero => rfl
  | succ n ih => rw [mv_succ, mv_succ, ih (fun j hj => h j (by omega)), h n (by omega)]
theorem mv_upd {f g : Nat → Int} {n k : Nat} (hk : k < n) (h : ∀ j, j ≠ k → g j = f j) : mv g n = mv f n + (g k - f k) * 16777216 ^ k := by
  induction n with
  | zero => omega
  | succ n ih =>
    rw [mv_succ, mv_succ]
    by_cases e : k = n
    · subst e
      rw [mv_congr (f := g) (g := f) (n := k) (fun j hj => h j (by omega)), Int.sub_mul]
      omega
    · rw [ih (by omega), h n (by omega)]
      omega
theorem mv_zero {f : Nat → Int} {n : Nat} (h : ∀ j < n, f j = 0) : mv f n = 0 := by
  induction n with
  | zero => rfl
  | succ n ih => rw [mv_succ, ih (fun j hj => h j (by omega)), h n (by omega)]; simp
theorem mv_split (f : Nat → Int) (m n : Nat) : mv f (m + n) = mv f m + mv (fun j => f (m + j)) n * 16777216 ^ m := by
  induction n with
  | zero => show mv f m = mv f m + 0 * _; omega
  | succ n ih =>
    rw [← Nat.add_assoc, mv_succ, ih, mv_succ, Int.pow_add, Int.add_mul, Int.mul_comm ((16777216 : Int) ^ m) _, ← Int.mul_assoc]
    omega
theorem mv_cut {f : Nat → Int} {n : Nat} (hn : n ≤ 16) (h : ∀ k, n ≤ k → k < 16 → f k = 0) : mv f 16 = mv f n := by
  have e := mv_split f n (16 - n)
  rw [show n + (16 - n) = 16 by omega, mv_zero (f := fun j => f (n + j)) (fun j hj => h _ (by omega) (by omega))] at e
  omega
theorem mv_cons (f : Nat → Int) (n : Nat) : mv f (n + 1) = f 0 + 16777216 * mv (fun j => f (j + 1)) n := by
  induction n with
  | zero => rw [mv_succ]; show 0 + _ * 1 = _ + _ * 0; omega
  | succ n ih =>
    rw [mv_succ, ih, mv_succ, mp_succ]
    have : f (n + 1) * (16777216 ^ n * 16777216) = 16777216 * (f (n + 1) * 16777216 ^ n) := by rw [← Int.mul_assoc, Int.mul_comm]
    omega
theorem mv_nz {f : Nat → Int} {n k : Nat} (h : ∀ k < n, 0 ≤ f k ∧ f k < 16777216) (hk : k < n) (h0 : f k ≠ 0) : 16777216 ^ k ≤ mv f n := by
  induction n with
  | zero => omega
  | succ n ih =>
    rw [mv_succ]
    have h1 := h n (by omega)
    have hp := mp_pos n
    by_cases e : k = n
    · subst e
      have hb := (mv_b (fun j hj => h j (by omega) : ∀ j < k, 0 ≤ f j ∧ f j < 16777216)).1
      have h4 := Int.mul_le_mul_of_nonneg_right (show 1 ≤ f k by omega) (Int.le_of_lt hp)
      omega
    · have h3 := Int.mul_nonneg h1.1 (Int.le_of_lt hp)
      have := ih (fun j hj => h j (by omega)) (by omega)
      omega
theorem mv_lt {f g : Nat → Int} {i n : Nat} (hf : ∀ k < n, 0 ≤ f k ∧ f k < 16777216) (hg : ∀ k < n, 0 ≤ g k ∧ g k < 16777216) (hi : i < n) (h : ∀ j, i < j → j < n → f j = g j) (h2 : f i < g i) : mv f n < mv g n := by
  induction n with
  | zero => omega
  | succ n ih =>
    rw [mv_succ, mv_succ]
    by_cases e : i = n
    · subst e
      have h3 := mv_b (fun j hj => hf j (by omega) : ∀ j < i, 0 ≤ f j ∧ f j < 16777216)
      have h4 := mv_b (fun j hj => hg j (by omega) : ∀ j < i, 0 ≤ g j ∧ g j < 16777216)
      have hp := mp_pos i
      have := Int.mul_le_mul_of_nonneg_right (show f i + 1 ≤ g i by omega) (Int.le_of_lt hp)
      rw [Int.add_mul] at this
      omega
    · have := ih (fun j hj => hf j (by omega)) (fun j hj => hg j (by omega)) (by omega) (fun j h1 h3 => h j h1 (by omega))
      rw [h n (by omega) (by omega)]
      omega
/-- a size: limbs, and how many -/
def CN (f : Nat → Int) (u : Int) : Prop := ML f ∧ mv f 16 = u ∧ ∃ n : Nat, n ≤ 16 ∧ f 17 = n ∧ (∀ k, n ≤ k → k < 16 → f k = 0) ∧ (n = 0 ∨ f (n - 1) ≠ 0)
/-- a whole number in a register -/
def RW (f : Nat → Int) (z : Int) : Prop := CN f (z.natAbs : Int) ∧ f 16 = lcmp z 0
theorem CN.nn {f : Nat → Int} {u : Int} (h : CN f u) : 0 ≤ u ∧ u < 16777216 ^ 16 := by
  have := h.1.b
  rw [h.2.1] at this
  exact this
theorem CN.zero {f : Nat → Int} {u : Int} (h : CN f u) : u = 0 ↔ f 17 = 0 := by
  obtain ⟨h1, h2, n, h3, h4, h5, h6⟩ := h
  constructor
  · intro e
    rcases h6 with h6 | h6
    · omega
    · refine Classical.byContradiction fun q => ?_
      have := mv_nz h1 (show n - 1 < 16 by omega) h6
      have := mp_pos (n - 1)
      omega
  · intro e
    rw [← h2]
    exact mv_zero fun j hj => h5 j (by omega) hj
theorem CN.lt {f : Nat → Int} {u : Int} (h : CN f u) {n : Nat} (hn : f 17 = n) : u < 16777216 ^ n ∧ (n = 0 ∨ 16777216 ^ (n - 1) ≤ u) ∧ n ≤ 16 := by
  obtain ⟨h1, h2, m, h3, h4, h5, h6⟩ := h
  have e : m = n := by omega
  subst e
  have h7 := mv_cut h3 h5
  have h8 := mv_b (fun k hk => h1 k (by omega) : ∀ k < m, 0 ≤ f k ∧ f k < 16777216)
  refine ⟨by omega, ?_, h3⟩
  rcases h6 with h6 | h6
  · exact Or.inl h6
  · by_cases q : m = 0
    · exact Or.inl q
    · have := mv_nz h1 (show m - 1 < 16 by omega) h6
      exact Or.inr (by omega)
theorem CN.lt_of {f g : Nat → Int} {u v : Int} (h : CN f u) (h2 : CN g v) (hn : f 17 < g 17) : u < v := by
  obtain ⟨n, hn1⟩ : ∃ n : Nat, f 17 = n := ⟨_, h.2.2.choose_spec.2.1⟩
  obtain ⟨m, hm1⟩ : ∃ n : Nat, g 17 = n := ⟨_, h2.2.2.choose_spec.2.1⟩
  obtain ⟨a1, a2, a3⟩ := h.lt hn1
  obtain ⟨b1, b2, b3⟩ := h2.lt hm1
  have h3 : (16777216 : Int) ^ n ≤ 16777216 ^ (m - 1) := by
    have := Nat.pow_le_pow_right (show 16777216 > 0 by decide) (show n ≤ m - 1 by omega)
    have h4 : ((16777216 ^ n : Nat) : Int) ≤ ((16777216 ^ (m - 1) : Nat) : Int) := by omega
    rw [Int.natCast_pow, Int.natCast_pow] at h4
    exact h4
  omega
theorem mdig (s P : Int) : s % 16777216 * P + s / 16777216 * (P * 16777216) = s * P := by
  have h := Int.mul_ediv_add_emod s 16777216
  have h2 : s * P = (16777216 * (s / 16777216) + s % 16777216) * P := by rw [h]
  rw [h2, Int.add_mul, Int.mul_comm P 16777216, ← Int.mul_assoc, Int.mul_comm 16777216 (s / 16777216)]
  omega
