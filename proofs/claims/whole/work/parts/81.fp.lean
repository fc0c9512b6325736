/-! a quotient of whole numbers is a number -/
theorem b64_tails : FP.Core.b64.tails = 4503599627370496 := by decide +kernel
theorem b64_exps : FP.Core.b64.exps = 2048 := by decide +kernel
theorem b64_qmin : FP.Core.b64.qmin = -1074 := by decide +kernel
theorem b64_qmax : FP.Core.b64.qmax = 971 := by decide +kernel
theorem b64_p : 2 ^ FP.Core.b64.p = 9007199254740992 := by decide +kernel
theorem fp_enc (s : Bool) {c : Nat} {q : Int} (hc : c < 9007199254740992) (hq : q ≤ 971) : ∃ b e t : Nat, FP.Core.encode FP.Core.b64 (.fin s c q) = (b * 2048 + e) * 4503599627370496 + t ∧ b ≤ 1 ∧ e ≤ 2046 ∧ t < 4503599627370496 ∧ (c ≠ 0 → e ≠ 0 ∨ t ≠ 0) := by
  have hb : s.toNat ≤ 1 := by cases s <;> decide
  unfold FP.Core.encode FP.Core.assemble
  simp only [b64_tails, b64_exps, b64_qmin]
  by_cases h : c < 4503599627370496
  · rw [if_pos h]
    exact ⟨s.toNat, 0, c, rfl, hb, by omega, h, fun u => Or.inr u⟩
  · rw [if_neg h]
    exact ⟨s.toNat, (q - (-1074)).toNat + 1, c - 4503599627370496, rfl, hb, by omega, by omega, fun u => Or.inl (by omega)⟩
theorem fp_inf (s : Bool) : FP.Core.encode FP.Core.b64 (.inf s) = (s.toNat * 2048 + 2047) * 4503599627370496 + 0 := by
  unfold FP.Core.encode FP.Core.assemble
  simp only [b64_tails, b64_exps]
theorem fp_n64 {b e t n : Nat} (hn : n = (b * 2048 + e) * 4503599627370496 + t) (h : e * 4503599627370496 + t ≤ 2047 * 4503599627370496) : vf_n64 (UInt64.ofNat n) := by
  unfold vf_n64
  rw [UInt64.le_iff_toNat_le, UInt64.toNat_and, UInt64.toNat_ofNat']
  have e1 : (0x7fffffffffffffff : UInt64).toNat = 2 ^ 63 - 1 := by decide +kernel
  have e2 : (0x7ff0000000000000 : UInt64).toNat = 2047 * 4503599627370496 := by decide +kernel
  rw [e1, e2, Nat.and_two_pow_sub_one_eq_mod, hn]
  omega
theorem fp_settle (s : Bool) (c : Nat) (q : Int) : (∃ c1 q1, FP.Core.settle FP.Core.b64 s c q = .fin s c1 q1 ∧ c1 < 9007199254740992 ∧ q1 ≤ 971 ∧ (c ≠ 0 → c1 ≠ 0)) ∨ FP.Core.settle FP.Core.b64 s c q = .inf s := by
  unfold FP.Core.settle FP.Core.bound
  rw [b64_p, b64_qmax, b64_tails]
  by_cases h : c < 9007199254740992
  · rw [if_pos h]
    by_cases h2 : q ≤ 971
    · rw [if_pos h2]; exact Or.inl ⟨c, q, rfl, h, h2, id⟩
    · rw [if_neg h2]; exact Or.inr rfl
  · rw [if_neg h]
    by_cases h2 : q + 1 ≤ 971
    · rw [if_pos h2]; exact Or.inl ⟨_, q + 1, rfl, by omega, h2, fun _ => by omega⟩
    · rw [if_neg h2]; exact Or.inr rfl
theorem fp_dec (s : Bool) {c : Nat} {q : Int} (hc : c < 9007199254740992) (hq : q ≤ 971) : ∃ s1 c1 q1, FP.Core.decode FP.Core.b64 (UInt64.ofNat (FP.Core.encode FP.Core.b64 (.fin s c q))).toNat = .fin s1 c1 q1 ∧ (c ≠ 0 → c1 ≠ 0) := by
  obtain ⟨b, e, t, h1, h2, h3, h4, h5⟩ := fp_enc s hc hq
  rw [UInt64.toNat_ofNat', h1]
  have e0 : ((b * 2048 + e) * 4503599627370496 + t) % 2 ^ 64 = (b * 2048 + e) * 4503599627370496 + t := by omega
  rw [e0]
  have f1 : FP.Core.fieldE FP.Core.b64 ((b * 2048 + e) * 4503599627370496 + t) = e := by
    unfold FP.Core.fieldE
    rw [b64_tails, b64_exps]
    omega
  have f2 : FP.Core.fieldT FP.Core.b64 ((b * 2048 + e) * 4503599627370496 + t) = t := by
    unfold FP.Core.fieldT
    rw [b64_tails]
    omega
  unfold FP.Core.decode
  rw [f1, f2]
  rw [b64_exps, b64_tails, if_neg (by omega)]
  by_cases h : e = 0
  · rw [if_pos h]
    exact ⟨_, _, _, rfl, fun u => by have := h5 u; omega⟩
  · rw [if_neg h]
    exact ⟨_, _, _, rfl, fun _ => by omega⟩
theorem fp_l2d {i : Int} (hi : i.natAbs ≤ 1073741824) (hr : r64 i) : ∃ s c q, FP.Core.decode FP.Core.b64 (FP.l2d (Int64.ofInt i)).toNat = .fin s c q ∧ (i ≠ 0 → c ≠ 0) := by
  unfold FP.l2d FP.Core.l2d FP.Core.fromInt FP.Core.ofInt
  rw [i64_to hr]
  show ∃ s c q, FP.Core.decode FP.Core.b64 (UInt64.ofNat (FP.Core.encode FP.Core.b64 (FP.Core.roundRatio FP.Core.b64 (decide (i < 0)) i.natAbs 1 0))).toNat = .fin s c q ∧ (i ≠ 0 → c ≠ 0)
  unfold FP.Core.roundRatio
  by_cases h0 : i.natAbs = 0
  · rw [if_pos h0]
    obtain ⟨s1, c1, q1, e, -⟩ := fp_dec (decide (i < 0)) (c := 0) (q := FP.Core.b64.qmin) (by decide) (by rw [b64_qmin]; decide)
    exact ⟨s1, c1, q1, e, fun u => absurd h0 (by omega)⟩
  · rw [if_neg h0]
    have hl := Nat.log2_self_le h0
    have hk : i.natAbs.log2 < 31 := (Nat.log2_lt h0).mpr (by omega)
    have l1 : FP.Core.leading i.natAbs 1 = i.natAbs.log2 := by
      unfold FP.Core.leading
      have e : ((i.natAbs.log2 : Int) - ((1 : Nat).log2 : Int)) = i.natAbs.log2 := by
        have : (1 : Nat).log2 = 0 := by decide
        rw [this]
        omega
      simp only [e]
      rw [if_pos]
      rw [Int.toNat_natCast, Nat.one_mul]
      have : (-(i.natAbs.log2 : Int)).toNat = 0 := by omega
      rw [this]
      omega
    have l2 : FP.Core.quantum FP.Core.b64 i.natAbs 1 0 = (i.natAbs.log2 : Int) - 52 := by
      unfold FP.Core.quantum
      rw [l1]
      have e53 : (FP.Core.b64.p : Int) = 53 := by decide +kernel
      rw [b64_qmin, e53]
      omega
    rw [l2]
    unfold FP.Core.roundAt
    have l3 : FP.Core.unitsDen 1 0 ((i.natAbs.log2 : Int) - 52) = 1 := by
      unfold FP.Core.unitsDen
      have : ((i.natAbs.log2 : Int) - 52 - 0).toNat = 0 := by omega
      rw [this]
    rw [l3]
    have l4 : FP.Core.nearest (FP.Core.unitsNum i.natAbs 0 ((i.natAbs.log2 : Int) - 52)) 1 = FP.Core.unitsNum i.natAbs 0 ((i.natAbs.log2 : Int) - 52) := by
      unfold FP.Core.nearest
      rw [Nat.mod_one, if_pos (by omega), Nat.div_one]
    rw [l4]
    have l5 : FP.Core.unitsNum i.natAbs 0 ((i.natAbs.log2 : Int) - 52) ≠ 0 := by
      unfold FP.Core.unitsNum
      have := Nat.mul_pos (show 0 < i.natAbs by omega) (Nat.two_pow_pos (0 - ((i.natAbs.log2 : Int) - 52)).toNat)
      omega
    have l6 : FP.Core.settle FP.Core.b64 (decide (i < 0)) (FP.Core.unitsNum i.natAbs 0 ((i.natAbs.log2 : Int) - 52)) ((i.natAbs.log2 : Int) - 52) ≠ .inf (decide (i < 0)) := by
      unfold FP.Core.settle FP.Core.bound
      rw [b64_qmax]
      split
      · rw [if_pos (by omega)]
        exact fun u => by cases u
      · rw [if_pos (by omega)]
        exact fun u => by cases u
    rcases fp_settle (decide (i < 0)) (FP.Core.unitsNum i.natAbs 0 ((i.natAbs.log2 : Int) - 52)) ((i.natAbs.log2 : Int) - 52) with ⟨c1, q1, e, h1, h2, h3⟩ | e
    · rw [e]
      obtain ⟨s2, c2, q2, e9, h9⟩ := fp_dec (decide (i < 0)) h1 h2
      exact ⟨s2, c2, q2, e9, fun _ => h9 (h3 l5)⟩
    · exact absurd e l6
theorem fp_rr (s : Bool) (n d : Nat) (e : Int) : vf_n64 (UInt64.ofNat (FP.Core.encode FP.Core.b64 (FP.Core.roundRatio FP.Core.b64 s n d e))) := by
  unfold FP.Core.roundRatio
  by_cases h0 : n = 0
  · rw [if_pos h0]
    obtain ⟨b, e1, t, h1, h2, h3, h4, -⟩ := fp_enc s (c := 0) (q := FP.Core.b64.qmin) (by decide) (by rw [b64_qmin]; decide)
    exact fp_n64 h1 (by omega)
  · rw [if_neg h0]
    unfold FP.Core.roundAt
    rcases fp_settle s (FP.Core.nearest (FP.Core.unitsNum n e (FP.Core.quantum FP.Core.b64 n d e)) (FP.Core.unitsDen d e (FP.Core.quantum FP.Core.b64 n d e))) (FP.Core.quantum FP.Core.b64 n d e) with ⟨c1, q1, e9, h1, h2, -⟩ | e9
    · rw [e9]
      obtain ⟨b, e1, t, g1, g2, g3, g4, -⟩ := fp_enc s h1 h2
      exact fp_n64 g1 (by omega)
    · rw [e9]
      exact fp_n64 (fp_inf s) (by omega)
theorem near_n64 {p : Int × Int} (h : NuOk p) : vf_n64 (FP.ddiv (FP.l2d (Int64.ofInt p.1)) (FP.l2d (Int64.ofInt p.2))) := by
  obtain ⟨h1, h2, h3, h4, -⟩ := h
  obtain ⟨s, c, q, e, -⟩ := fp_l2d (i := p.1) (by omega) (by unfold r64; omega)
  obtain ⟨t, d, r, e2, hd⟩ := fp_l2d (i := p.2) (by omega) (by unfold r64; omega)
  unfold FP.ddiv FP.Core.ddiv FP.Core.div
  rw [e, e2]
  show vf_n64 (UInt64.ofNat (FP.Core.encode FP.Core.b64 (if d = 0 then _ else _)))
  rw [if_neg (hd (by omega))]
  exact fp_rr _ _ _ _
