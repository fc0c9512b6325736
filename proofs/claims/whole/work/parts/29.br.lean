/-! branches on answers that are told as a question's; small rows more -/
section BR
variable {w : aW} {d : Nat} {cd : List aE} {pc nx a k q : Nat} {z : Int} {ls : aLs} {s : List aV} {h : aH} {Q : Option aV → aH → Prop} {x y : Int}
theorem g_b_eq {P : Prop} [Decidable P] {f : Int} (hc : clook cd pc = some (.ifCond .eq f, nx, a, k, q, z)) (gt : ¬P → Wk w d cd a ls s h Q) (gf : P → Wk w d cd nx ls s h Q) : Wk w d cd pc ls (aI (if P then 1 else 0) :: s) h Q := by
  by_cases hp : P
  · rw [if_pos hp]; exact g_if_eq_f hc (by omega) (gf hp)
  · rw [if_neg hp]; exact g_if_eq_t hc rfl (gt hp)
theorem g_b_ne {P : Prop} [Decidable P] {f : Int} (hc : clook cd pc = some (.ifCond .ne f, nx, a, k, q, z)) (gt : P → Wk w d cd a ls s h Q) (gf : ¬P → Wk w d cd nx ls s h Q) : Wk w d cd pc ls (aI (if P then 1 else 0) :: s) h Q := by
  by_cases hp : P
  · rw [if_pos hp]; exact g_if_ne_t hc (by omega) (gt hp)
  · rw [if_neg hp]; exact g_if_ne_f hc rfl (gf hp)
theorem bi_t {P : Prop} [Decidable P] (h : P) : (1 : Int) = if P then 1 else 0 := (if_pos h).symm
theorem bi_f {P : Prop} [Decidable P] (h : ¬P) : (0 : Int) = if P then 1 else 0 := (if_neg h).symm
theorem bi_01 (P : Prop) [Decidable P] : (if P then (1 : Int) else 0) = 0 ∨ (if P then (1 : Int) else 0) = 1 := by by_cases h : P <;> simp [h]
theorem g_l2i2 (hc : clook cd pc = some (.l2i, nx, a, k, q, z)) (h1 : -2147483648 ≤ x) (h2 : x < 2147483648) (g : Wk w d cd nx ls (aI x :: s) h Q) : Wk w d cd pc ls (aJ x :: s) h Q := by
  refine g_l2i hc ?_
  rw [w32_id ⟨h1, h2⟩]
  exact g
theorem g_ineg2 (hc : clook cd pc = some (.ineg, nx, a, k, q, z)) (h1 : -2147483648 ≤ -x) (h2 : -x < 2147483648) (g : Wk w d cd nx ls (aI (-x) :: s) h Q) : Wk w d cd pc ls (aI x :: s) h Q := by
  refine g_ineg hc ?_
  rw [w32_id ⟨h1, h2⟩]
  exact g
theorem g_lneg2 (hc : clook cd pc = some (.lneg, nx, a, k, q, z)) (h1 : -9223372036854775808 ≤ -x) (h2 : -x < 9223372036854775808) (g : Wk w d cd nx ls (aJ (-x) :: s) h Q) : Wk w d cd pc ls (aJ x :: s) h Q := by
  refine g_lneg hc ?_
  rw [w64_id ⟨h1, h2⟩]
  exact g
theorem g_idivN {m n : Nat} (hc : clook cd pc = some (.idiv, nx, a, k, q, z)) (h0 : m ≠ 0) (h2 : n < 2147483648) (g : Wk w d cd nx ls (aI ((n / m : Nat) : Int) :: s) h Q) : Wk w d cd pc ls (aI (m : Int) :: aI (n : Int) :: s) h Q := by
  refine g_idiv hc (by omega) ?_
  have e : (n : Int).tdiv (m : Int) = ((n / m : Nat) : Int) := by rw [Int.ofNat_tdiv]
  have h3 : n / m ≤ n := Nat.div_le_self n m
  rw [e]
  generalize n / m = t at h3 g ⊢
  rw [w32_id ⟨by omega, by omega⟩]
  exact g
theorem g_iremN {m n : Nat} (hc : clook cd pc = some (.irem, nx, a, k, q, z)) (h0 : m ≠ 0) (g : Wk w d cd nx ls (aI ((n % m : Nat) : Int) :: s) h Q) : Wk w d cd pc ls (aI (m : Int) :: aI (n : Int) :: s) h Q := by
  refine g_irem hc (by omega) ?_
  have e : (n : Int).tmod (m : Int) = ((n % m : Nat) : Int) := by rw [Int.ofNat_tmod]
  rw [e]
  exact g
end BR
