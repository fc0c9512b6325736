/-! lowest terms on both sides: proportional rows go down to the same -/
def sc4 (s : Int) (R : T4) : T4 := (s * R.1, s * R.2.1, s * R.2.2.1, s * R.2.2.2)
def t4 (P : T3) : T4 := (P.1, P.2.1, P.2.2, 0)
theorem sg_pos {s : Int} (hs : 0 < s) (x : Int) : (s * x < 0 ↔ x < 0) ∧ (s * x = 0 ↔ x = 0) := by
  rcases Int.lt_trichotomy x 0 with q | q | q
  · have := Int.mul_neg_of_pos_of_neg hs q
    omega
  · subst q
    rw [Int.mul_zero]
    omega
  · have := Int.mul_pos hs q
    omega
theorem g4_sc (s : Int) (R : T4) : g4 (sc4 s R) = (s.natAbs : Int) * g4 R := by
  unfold g4 sc4
  show ((Int.gcd ((Int.gcd (s * R.1) (s * R.2.1) : Nat) : Int) ((Int.gcd (s * R.2.2.1) (s * R.2.2.2) : Nat) : Int) : Nat) : Int) = _
  rw [Int.gcd_mul_left, Int.gcd_mul_left, Int.gcd_natCast_natCast, Nat.gcd_mul_left, Int.gcd_natCast_natCast, Int.natCast_mul]
theorem set_dn_pos {s : Int} (hs : 0 < s) (R : T4) : set_dn (sc4 s R) = set_dn R := by
  have e : g4 (sc4 s R) = s * g4 R := by
    rw [g4_sc]
    have : (s.natAbs : Int) = s := by omega
    rw [this]
  unfold set_dn
  rw [e]
  show ((s * R.1).tdiv (s * g4 R), (s * R.2.1).tdiv (s * g4 R), (s * R.2.2.1).tdiv (s * g4 R), (s * R.2.2.2).tdiv (s * g4 R)) = _
  simp only [Int.mul_tdiv_mul_of_pos _ _ hs]
theorem set_up_dn (R : T4) : set_up R = (-(set_dn R).1, -(set_dn R).2.1, -(set_dn R).2.2.1, -(set_dn R).2.2.2) := rfl
theorem set_up_pos {s : Int} (hs : 0 < s) (R : T4) : set_up (sc4 s R) = set_up R := by rw [set_up_dn, set_dn_pos hs, ← set_up_dn]
theorem set_dn_neg (R : T4) : set_dn (sc4 (-1) R) = set_up R := by
  have e : g4 (sc4 (-1) R) = g4 R := by
    rw [g4_sc]
    show (1 : Int) * _ = _
    omega
  unfold set_dn set_up
  rw [e]
  show ((-1 * R.1).tdiv (g4 R), (-1 * R.2.1).tdiv (g4 R), (-1 * R.2.2.1).tdiv (g4 R), (-1 * R.2.2.2).tdiv (g4 R)) = _
  simp only [Int.neg_mul, Int.one_mul, Int.neg_tdiv]
theorem set_up_neg (R : T4) : set_up (sc4 (-1) R) = set_dn R := by
  rw [set_up_dn, set_dn_neg]
  unfold set_up
  simp only [Int.neg_neg]
  rfl
theorem m_low_pos {s : Int} (hs : 0 < s) (R : T4) : m_low (sc4 s R) = m_low R := by
  have f := sg_pos hs
  have c : (s * R.2.2.1 < 0 ∨ s * R.2.2.1 = 0 ∧ (s * R.2.1 < 0 ∨ s * R.2.1 = 0 ∧ s * R.1 < 0)) ↔ (R.2.2.1 < 0 ∨ R.2.2.1 = 0 ∧ (R.2.1 < 0 ∨ R.2.1 = 0 ∧ R.1 < 0)) := by
    rw [(f _).1, (f _).2, (f _).1, (f _).2, (f _).1]
  unfold m_low
  show (if (s * R.2.2.1 < 0 ∨ s * R.2.2.1 = 0 ∧ (s * R.2.1 < 0 ∨ s * R.2.1 = 0 ∧ s * R.1 < 0)) then set_up (sc4 s R) else set_dn (sc4 s R)) = _
  rw [set_dn_pos hs, set_up_pos hs]
  by_cases q : (R.2.2.1 < 0 ∨ R.2.2.1 = 0 ∧ (R.2.1 < 0 ∨ R.2.1 = 0 ∧ R.1 < 0))
  · rw [if_pos q, if_pos (c.mpr q)]
  · rw [if_neg q, if_neg (fun x => q (c.mp x))]
theorem m_low_neg {R : T4} (h4 : R.2.2.2 = 0) : m_low (sc4 (-1) R) = m_low R := by
  unfold m_low
  rw [set_dn_neg, set_up_neg]
  show (if (-1 * R.2.2.1 < 0 ∨ -1 * R.2.2.1 = 0 ∧ (-1 * R.2.1 < 0 ∨ -1 * R.2.1 = 0 ∧ -1 * R.1 < 0)) then set_dn R else set_up R) = _
  by_cases z : R.1 = 0 ∧ R.2.1 = 0 ∧ R.2.2.1 = 0
  · have e : set_dn R = set_up R := by
      unfold set_dn set_up
      rw [z.1, z.2.1, z.2.2, h4, Int.zero_tdiv]
      rfl
    rw [e]
    split <;> split <;> rfl
  · by_cases q : (R.2.2.1 < 0 ∨ R.2.2.1 = 0 ∧ (R.2.1 < 0 ∨ R.2.1 = 0 ∧ R.1 < 0))
    · rw [if_pos q, if_neg (by omega)]
    · rw [if_neg q, if_pos (by omega)]
theorem sc4_neg {s : Int} (R : T4) : sc4 s R = sc4 (-1) (sc4 (-s) R) := by
  unfold sc4
  simp only [Int.neg_mul, Int.one_mul, Int.neg_neg]
theorem m_low_sc {s : Int} (hs : s ≠ 0) {R : T4} (h4 : R.2.2.2 = 0) : m_low (sc4 s R) = m_low R := by
  rcases Int.lt_or_gt_of_ne hs with q | q
  · rw [sc4_neg, m_low_neg, m_low_pos (by omega)]
    show -s * R.2.2.2 = 0
    rw [h4, Int.mul_zero]
  · exact m_low_pos q R
theorem m_low_prop {P R : T4} {u v : Int} (hu : u ≠ 0) (hv : v ≠ 0) (hP : P.2.2.2 = 0) (hR : R.2.2.2 = 0) (e1 : u * P.1 = v * R.1) (e2 : u * P.2.1 = v * R.2.1) (e3 : u * P.2.2.1 = v * R.2.2.1) : m_low P = m_low R := by
  rw [← m_low_sc hu hP, ← m_low_sc hv hR]
  unfold sc4
  rw [e1, e2, e3, hP, hR, Int.mul_zero, Int.mul_zero]
theorem m_lowR_pos {s : Int} (hs : 0 < s) (R : T4) : m_lowR (sc4 s R) = m_lowR R := by
  have f := (sg_pos hs R.1).1
  unfold m_lowR
  show (if s * R.1 < 0 then set_up (sc4 s R) else set_dn (sc4 s R)) = _
  rw [set_dn_pos hs, set_up_pos hs]
  by_cases q : R.1 < 0
  · rw [if_pos q, if_pos (f.mpr q)]
  · rw [if_neg q, if_neg (fun x => q (f.mp x))]
theorem m_lowR_neg {R : T4} (h1 : R.1 ≠ 0) : m_lowR (sc4 (-1) R) = m_lowR R := by
  unfold m_lowR
  rw [set_dn_neg, set_up_neg]
  show (if -1 * R.1 < 0 then set_dn R else set_up R) = _
  by_cases q : R.1 < 0
  · rw [if_pos q, if_neg (by omega)]
  · rw [if_neg q, if_pos (by omega)]
theorem m_lowR_sc {s : Int} (hs : s ≠ 0) {R : T4} (h1 : R.1 ≠ 0) : m_lowR (sc4 s R) = m_lowR R := by
  rcases Int.lt_or_gt_of_ne hs with q | q
  · rw [sc4_neg, m_lowR_neg, m_lowR_pos (by omega)]
    show -s * R.1 ≠ 0
    exact fun h => (Int.mul_eq_zero.mp h).elim (by omega) h1
  · exact m_lowR_pos q R
theorem m_lowR_prop {P R : T4} {u v : Int} (hu : u ≠ 0) (hv : v ≠ 0) (hR : R.1 ≠ 0) (e1 : u * P.1 = v * R.1) (e2 : u * P.2.1 = v * R.2.1) (e3 : u * P.2.2.1 = v * R.2.2.1) (e4 : u * P.2.2.2 = v * R.2.2.2) : m_lowR P = m_lowR R := by
  have hP : P.1 ≠ 0 := fun h => by
    rw [h, Int.mul_zero] at e1
    exact (Int.mul_eq_zero.mp e1.symm).elim hv hR
  rw [← m_lowR_sc hu hP, ← m_lowR_sc hv hR]
  unfold sc4
  rw [e1, e2, e3, e4]
theorem lowD_g4 (P : T3) : g4 (t4 P) = lowD P := by
  unfold g4 t4 lowD
  simp [Int.gcd_eq_natAbs_gcd_natAbs]
theorem lowT_low (P : T3) : ((lowT P).1, (lowT P).2.1, (lowT P).2.2, (0 : Int)) = m_low (t4 P) := by
  have eg := lowD_g4 P
  have hz : lowD P = 0 → P.1 = 0 ∧ P.2.1 = 0 ∧ P.2.2 = 0 := fun h => by
    have q := g4_0 (R := t4 P) (eg.trans h)
    exact ⟨q.1, q.2.1, q.2.2.1⟩
  have key : ∀ x, (lowD P = 0 → x = 0) → quo x (lowD P) = x.tdiv (lowD P) := fun x hx => by
    unfold quo
    split
    · next h => rw [hx h, Int.zero_tdiv]
    · rfl
  have keyn : ∀ x, (lowD P = 0 → x = 0) → quo x (-lowD P) = -(x.tdiv (lowD P)) := fun x hx => by
    unfold quo
    split
    · next h =>
      rw [hx (by omega), Int.zero_tdiv]
      rfl
    · rw [Int.tdiv_neg]
  have ec : (lowS P < 0) ↔ (P.2.2 < 0 ∨ P.2.2 = 0 ∧ (P.2.1 < 0 ∨ P.2.1 = 0 ∧ P.1 < 0)) := by
    unfold lowS
    split <;> (try split) <;> omega
  have ed : set_dn (t4 P) = (P.1.tdiv (lowD P), P.2.1.tdiv (lowD P), P.2.2.tdiv (lowD P), 0) := by
    unfold set_dn
    rw [eg]
    show (_, _, _, (0 : Int).tdiv (lowD P)) = _
    rw [Int.zero_tdiv]
    rfl
  unfold m_low
  rw [set_up_dn, ed]
  show (quo P.1 (if lowS P < 0 then -lowD P else lowD P), quo P.2.1 (if lowS P < 0 then -lowD P else lowD P), quo P.2.2 (if lowS P < 0 then -lowD P else lowD P), (0 : Int)) = if (P.2.2 < 0 ∨ P.2.2 = 0 ∧ (P.2.1 < 0 ∨ P.2.1 = 0 ∧ P.1 < 0)) then _ else _
  by_cases q : lowS P < 0
  · rw [if_pos q, if_pos (ec.mp q), keyn P.1 (fun h => (hz h).1), keyn P.2.1 (fun h => (hz h).2.1), keyn P.2.2 (fun h => (hz h).2.2)]
    rfl
  · rw [if_neg q, if_neg (fun x => q (ec.mpr x)), key P.1 (fun h => (hz h).1), key P.2.1 (fun h => (hz h).2.1), key P.2.2 (fun h => (hz h).2.2)]
theorem lowR_low (R : T4) : ((lowR R).1, (lowR R).2.1, (lowR R).2.2.1, (lowR R).2.2.2) = m_lowR R := by
  have eg : lowE R = g4 R := rfl
  have hz : g4 R = 0 → R.1 = 0 ∧ R.2.1 = 0 ∧ R.2.2.1 = 0 ∧ R.2.2.2 = 0 := g4_0
  have key : ∀ x, (g4 R = 0 → x = 0) → quo x (g4 R) = x.tdiv (g4 R) := fun x hx => by
    unfold quo
    split
    · next h => rw [hx h, Int.zero_tdiv]
    · rfl
  have keyn : ∀ x, (g4 R = 0 → x = 0) → quo x (-g4 R) = -(x.tdiv (g4 R)) := fun x hx => by
    unfold quo
    split
    · next h =>
      rw [hx (by omega), Int.zero_tdiv]
      rfl
    · rw [Int.tdiv_neg]
  show (quo R.1 (if R.1 < 0 then -lowE R else lowE R), quo R.2.1 (if R.1 < 0 then -lowE R else lowE R), quo R.2.2.1 (if R.1 < 0 then -lowE R else lowE R), quo R.2.2.2 (if R.1 < 0 then -lowE R else lowE R)) = if R.1 < 0 then set_up R else set_dn R
  rw [eg]
  by_cases q : R.1 < 0
  · rw [if_pos q, if_pos q, keyn R.1 (fun h => (hz h).1), keyn R.2.1 (fun h => (hz h).2.1), keyn R.2.2.1 (fun h => (hz h).2.2.1), keyn R.2.2.2 (fun h => (hz h).2.2.2)]
    rfl
  · rw [if_neg q, if_neg q, key R.1 (fun h => (hz h).1), key R.2.1 (fun h => (hz h).2.1), key R.2.2.1 (fun h => (hz h).2.2.1), key R.2.2.2 (fun h => (hz h).2.2.2)]
    rfl
/-- kept the same on both sides -/
theorem keepPM {S : aS} {s : Int} (hs : s ≠ 2) {P : T3} {R : T4} {u v : Int} (hu : u ≠ 0) (hv : v ≠ 0) (hR : R.2.2.2 = 0) (e1 : u * P.1 = v * R.1) (e2 : u * P.2.1 = v * R.2.1) (e3 : u * P.2.2 = v * R.2.2.1) : keepP S s (some P) = keepM S s (some R) := by
  show keepT S s ((lowT P).1, (lowT P).2.1, (lowT P).2.2, 0) = keepT S s (lowK s R)
  have e : lowK s R = m_low R := by unfold lowK; rw [if_neg hs]
  rw [lowT_low, e, m_low_prop (P := t4 P) (R := R) hu hv rfl hR e1 e2 e3]
theorem keepPM1 {S : aS} {s : Int} (hs : s ≠ 2) {P : T3} {R : T4} (hR : R.2.2.2 = 0) (e1 : P.1 = R.1) (e2 : P.2.1 = R.2.1) (e3 : P.2.2 = R.2.2.1) : keepP S s (some P) = keepM S s (some R) := keepPM hs (u := 1) (v := 1) (by decide) (by decide) hR (by rw [e1]) (by rw [e2]) (by rw [e3])
theorem keepCM {S : aS} {P R : T4} {u v : Int} (hu : u ≠ 0) (hv : v ≠ 0) (hR : R.1 ≠ 0) (e1 : u * P.1 = v * R.1) (e2 : u * P.2.1 = v * R.2.1) (e3 : u * P.2.2.1 = v * R.2.2.1) (e4 : u * P.2.2.2 = v * R.2.2.2) : keepC S (some P) = keepM S 2 (some R) := by
  show keepT S 2 ((lowR P).1, (lowR P).2.1, (lowR P).2.2.1, (lowR P).2.2.2) = keepT S 2 (lowK 2 R)
  have e : lowK 2 R = m_lowR R := by unfold lowK; rw [if_pos rfl]
  rw [lowR_low, e, m_lowR_prop hu hv hR e1 e2 e3 e4]
