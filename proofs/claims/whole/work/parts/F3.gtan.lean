/-! meetings and tangents: the same on both sides -/
def t3f (M : T4) : T3 := (M.1, M.2.1, M.2.2.1)
theorem rootO_nn {x s : Int} (h : rootO x = some s) : 0 ≤ s ∧ x = s * s := by
  by_cases q : ∃ n : Nat, x = ((n * n : Nat) : Int)
  · obtain ⟨n, e⟩ := q
    rw [rootO_yes e] at h
    have h : ((n : Nat) : Int) = s := Option.some.inj h
    subst h
    exact ⟨by omega, by rw [e, Int.natCast_mul]⟩
  · rw [rootO_no q] at h
    cases h
theorem rootO_0 : rootO 0 = some 0 := rootO_yes (s := 0) rfl
theorem hit_ahead (x y w z s : Int) (R : T4) : p_ahead (x, y, w) R s = t3f (m_hit_S (x, y, w, z) R s) := by
  obtain ⟨k, a, b, c⟩ := R
  unfold p_ahead t3f m_hit_S p_fx p_fy p_fw m_norm_S
  rw [ri_tam x y w z]
  dsimp only
  refine Prod.ext ?_ (Prod.ext ?_ ?_) <;> dsimp only <;> grind
theorem hit_back (x y w z s : Int) (R : T4) : p_back (x, y, w) R s = t3f (m_hit_S (x, y, w, z) R (-s)) := by
  obtain ⟨k, a, b, c⟩ := R
  unfold p_back t3f m_hit_S p_fx p_fy p_fw m_norm_S
  rw [ri_tam x y w z]
  dsimp only
  refine Prod.ext ?_ (Prod.ext ?_ ?_) <;> dsimp only <;> grind
theorem fwd_pos {x y w s : Int} (hs : 0 < s) : p_fwd (x, y, w) s ↔ (0 < y ∨ y = 0 ∧ x < 0) := by
  unfold p_fwd
  rw [lcmp_gt, lcmp_0, lcmp_gt]
  show 0 < s * y ∨ s * y = 0 ∧ 0 < -(s * x) ↔ _
  have f1 := sg_pos hs y
  have f2 := (sg_pos hs x).1
  omega
theorem cro_meet (b : Bool) (x y w z : Int) (R : T4) : p_cro_O b (x, y, w) R = (m_meet_O b (x, y, w, z) R).map t3f := by
  by_cases h : x = 0 ∧ y = 0
  · rw [p_cro_no (L := (x, y, w)) h, m_meet_no (L := (x, y, w, z)) h]
    rfl
  · have ed : p_depth_S (x, y, w) R = m_depth_S (x, y, w, z) R := by
      obtain ⟨k, a, b, c⟩ := R
      exact ri_depth x y w z k a b c
    cases e : rootO (m_depth_S (x, y, w, z) R) with
    | none =>
      rw [p_cro_no2 (L := (x, y, w)) h (by rw [ed]; exact e), m_meet_no2 (L := (x, y, w, z)) h e]
      rfl
    | some s =>
      have hs := (rootO_nn e).1
      have hp : rootO (p_depth_S (x, y, w) R) = some s := by rw [ed]; exact e
      have hA := hit_ahead x y w z s R
      have hB := hit_back x y w z s R
      by_cases s0 : s = 0
      · subst s0
        rw [Int.neg_zero] at hB
        have hm : m_meet_O b (x, y, w, z) R = some (m_hit_S (x, y, w, z) R 0) := by
          by_cases f : m_fwd b (x, y, w, z)
          · exact m_meet_t (L := (x, y, w, z)) h e f
          · exact m_meet_f (L := (x, y, w, z)) h e f
        rw [hm]
        by_cases q : p_fwd (x, y, w) 0
        · rw [p_cro_t (L := (x, y, w)) h hp q]
          cases b
          · exact congrArg some hB
          · exact congrArg some hA
        · rw [p_cro_f (L := (x, y, w)) h hp q]
          cases b
          · exact congrArg some hA
          · exact congrArg some hB
      · have fp := fwd_pos (x := x) (y := y) (w := w) (s := s) (by omega)
        cases b
        · have f0 := @m_fwd0 (x, y, w, z)
          have f0 : m_fwd false (x, y, w, z) ↔ (y < 0 ∨ y = 0 ∧ 0 < x) := f0
          by_cases q : p_fwd (x, y, w) s
          · have q2 := fp.mp q
            rw [p_cro_t (L := (x, y, w)) h hp q, m_meet_f (L := (x, y, w, z)) h e (fun v => by have := f0.mp v; omega)]
            exact congrArg some hB
          · have q2 : ¬ (0 < y ∨ y = 0 ∧ x < 0) := fun v => q (fp.mpr v)
            rw [p_cro_f (L := (x, y, w)) h hp q, m_meet_t (L := (x, y, w, z)) h e (f0.mpr (by omega))]
            exact congrArg some hA
        · have f0 := @m_fwd1 (x, y, w, z)
          have f0 : m_fwd true (x, y, w, z) ↔ (0 < y ∨ y = 0 ∧ ¬ 0 < x) := f0
          by_cases q : p_fwd (x, y, w) s
          · have q2 := fp.mp q
            rw [p_cro_t (L := (x, y, w)) h hp q, m_meet_t (L := (x, y, w, z)) h e (f0.mpr (by omega))]
            exact congrArg some hA
          · have q2 : ¬ (0 < y ∨ y = 0 ∧ x < 0) := fun v => q (fp.mpr v)
            rw [p_cro_f (L := (x, y, w)) h hp q, m_meet_f (L := (x, y, w, z)) h e (fun v => by have := f0.mp v; omega)]
            exact congrArg some hB
theorem meet_some {b : Bool} {L R M : T4} (h : m_meet_O b L R = some M) : ¬(L.1 = 0 ∧ L.2.1 = 0) ∧ ∃ s, s * s = m_depth_S L R ∧ M = m_hit_S L R s := by
  by_cases q : L.1 = 0 ∧ L.2.1 = 0
  · rw [m_meet_no q] at h
    cases h
  · refine ⟨q, ?_⟩
    cases e : rootO (m_depth_S L R) with
    | none => rw [m_meet_no2 q e] at h; cases h
    | some s =>
      have hs := (rootO_nn e).2
      by_cases f : m_fwd b L
      · rw [m_meet_t q e f] at h
        exact ⟨s, hs.symm, (Option.some.inj h).symm⟩
      · rw [m_meet_f q e f] at h
        exact ⟨-s, by rw [Int.neg_mul_neg]; exact hs.symm, (Option.some.inj h).symm⟩
theorem meet_0 {b : Bool} {L R M : T4} (h : m_meet_O b L R = some M) : M.2.2.2 = 0 := by
  obtain ⟨-, s, -, rfl⟩ := meet_some h
  rfl
theorem keep_map {S : aS} {s : Int} (hs : s ≠ 2) {O : Option T4} (h : ∀ M, O = some M → M.2.2.2 = 0) : keepP S s (O.map t3f) = keepM S s O := by
  cases O with
  | none => rfl
  | some M => exact keepPM1 hs (h M rfl) rfl rfl rfl
theorem g_step14 {S : aS} (a b : Int) : (if isAS S 108 a ∧ isAS S 99 b then keepP S 0 (p_cro_O false (tpT S a) (tpR S b)) else (-1, S)) = stepM S 1 2 0 a b (m_s14_O S a b) := by
  refine step_if as_l as_c fun ha hb => ?_
  have e := cro_meet false (sTp S a.toNat 0) (sTp S a.toNat 1) (sTp S a.toNat 2) (sTp S a.toNat 3) (tpR S b)
  have e : p_cro_O false (tpT S a) (tpR S b) = (m_s14_O S a b).map t3f := e
  rw [e]
  exact keep_map (by decide) fun M hM => meet_0 hM
theorem g_step15 {S : aS} (a b : Int) : (if isAS S 108 a ∧ isAS S 99 b then keepP S 0 (p_cro_O true (tpT S a) (tpR S b)) else (-1, S)) = stepM S 1 2 0 a b (m_s15_O S a b) := by
  refine step_if as_l as_c fun ha hb => ?_
  have e := cro_meet true (sTp S a.toNat 0) (sTp S a.toNat 1) (sTp S a.toNat 2) (sTp S a.toNat 3) (tpR S b)
  have e : p_cro_O true (tpT S a) (tpR S b) = (m_s15_O S a b).map t3f := e
  rw [e]
  exact keep_map (by decide) fun M hM => meet_0 hM
theorem rc_meet {S : aS} (v : Bool) (a b : Int) : p_rc_O v (tpR S a) (tpR S b) = (m_meet_O v (m_powers_S (tpR S a) (tpR S b)) (tpR S a)).map t3f := by
  by_cases q : (m_powers_S (tpR S a) (tpR S b)).1 = 0 ∧ (m_powers_S (tpR S a) (tpR S b)).2.1 = 0
  · have e1 : p_power_O (tpR S a) (tpR S b) = none := if_pos ((pow_c S a b).mp q)
    rw [m_meet_no q]
    unfold p_rc_O
    rw [e1]
    rfl
  · have e1 : p_power_O (tpR S a) (tpR S b) = some (p_power_S (tpR S a) (tpR S b)) := if_neg (fun z => q ((pow_c S a b).mpr z))
    have e2 : p_power_S (tpR S a) (tpR S b) = ((m_powers_S (tpR S a) (tpR S b)).1, (m_powers_S (tpR S a) (tpR S b)).2.1, (m_powers_S (tpR S a) (tpR S b)).2.2.1) := Prod.ext (ri_pow_1 _ _ _ _ _ _ _ _) (Prod.ext (ri_pow_2 _ _ _ _ _ _ _ _) (ri_pow_3 _ _ _ _ _ _ _ _))
    unfold p_rc_O
    rw [e1]
    show p_cro_O v (p_power_S (tpR S a) (tpR S b)) (tpR S a) = _
    rw [e2]
    exact cro_meet v _ _ _ (m_powers_S (tpR S a) (tpR S b)).2.2.2 (tpR S a)
theorem g_step16 {S : aS} (a b : Int) : (if isAS S 99 a ∧ isAS S 99 b then keepP S 0 (p_rc_O false (tpR S a) (tpR S b)) else (-1, S)) = stepM S 2 2 0 a b (m_s16_O S a b) := by
  refine step_if as_c as_c fun ha hb => ?_
  rw [rc_meet]
  exact keep_map (by decide) fun M hM => meet_0 hM
theorem g_step17 {S : aS} (a b : Int) : (if isAS S 99 a ∧ isAS S 99 b then keepP S 0 (p_rc_O true (tpR S a) (tpR S b)) else (-1, S)) = stepM S 2 2 0 a b (m_s17_O S a b) := by
  refine step_if as_c as_c fun ha hb => ?_
  rw [rc_meet]
  exact keep_map (by decide) fun M hM => meet_0 hM
/-- a row is its lowest form, taken so often -/
theorem low_ex {R : T4} (h4 : R.2.2.2 = 0) : ∃ g : Int, g ≠ 0 ∧ R = sc4 g (m_low R) := by
  have hz := @g4_0 R
  by_cases g0 : g4 R = 0
  · obtain ⟨z1, z2, z3, z4⟩ := hz g0
    refine ⟨1, by decide, ?_⟩
    have e : m_low R = (0, 0, 0, 0) := by
      unfold m_low
      rw [if_neg (by omega)]
      unfold set_dn
      rw [z1, z2, z3, z4, Int.zero_tdiv]
    rw [e]
    exact Prod.ext z1 (Prod.ext z2 (Prod.ext z3 z4))
  · have d1 : g4 R ∣ R.1 := Int.dvd_trans (Int.gcd_dvd_left _ _) (Int.gcd_dvd_left _ _)
    have d2 : g4 R ∣ R.2.1 := Int.dvd_trans (Int.gcd_dvd_left _ _) (Int.gcd_dvd_right _ _)
    have d3 : g4 R ∣ R.2.2.1 := Int.dvd_trans (Int.gcd_dvd_right _ _) (Int.gcd_dvd_left _ _)
    have d4 : g4 R ∣ R.2.2.2 := Int.dvd_trans (Int.gcd_dvd_right _ _) (Int.gcd_dvd_right _ _)
    have e1 := Int.mul_tdiv_cancel' d1
    have e2 := Int.mul_tdiv_cancel' d2
    have e3 := Int.mul_tdiv_cancel' d3
    have e4 := Int.mul_tdiv_cancel' d4
    unfold m_low
    by_cases q : R.2.2.1 < 0 ∨ R.2.2.1 = 0 ∧ (R.2.1 < 0 ∨ R.2.1 = 0 ∧ R.1 < 0)
    · rw [if_pos q]
      refine ⟨-g4 R, by omega, ?_⟩
      unfold sc4 set_up
      dsimp only
      rw [Int.neg_mul_neg, Int.neg_mul_neg, Int.neg_mul_neg, Int.neg_mul_neg, e1, e2, e3, e4]
    · rw [if_neg q]
      refine ⟨g4 R, g0, ?_⟩
      unfold sc4 set_dn
      dsimp only
      rw [e1, e2, e3, e4]
theorem m_low_4 {R : T4} (h4 : R.2.2.2 = 0) : (m_low R).2.2.2 = 0 := by
  unfold m_low set_up set_dn
  rw [h4, Int.zero_tdiv]
  split <;> rfl
theorem m_low_idem {R : T4} (h4 : R.2.2.2 = 0) : m_low (m_low R) = m_low R := by
  obtain ⟨g, hg, e⟩ := low_ex h4
  have e2 := m_low_sc hg (R := m_low R) (m_low_4 h4)
  rw [← e] at e2
  exact e2.symm
theorem polar_sc (g x y w z : Int) (R : T4) : m_polar_S (sc4 g (x, y, w, z)) R = sc4 g (m_polar_S (x, y, w, z) R) := by
  obtain ⟨k, a, b, c⟩ := R
  unfold m_polar_S sc4
  dsimp only
  refine Prod.ext ?_ (Prod.ext ?_ (Prod.ext ?_ ?_)) <;> dsimp only <;> grind
theorem side_eq {M R : T4} (h4 : M.2.2.2 = 0) : m_side M R = m_low (m_polar_S M R) := by
  unfold m_side
  obtain ⟨g, hg, e⟩ := low_ex h4
  have e2 : m_polar_S M R = sc4 g (m_polar_S (m_low M) R) := by
    rw [← polar_sc g (m_low M).1 (m_low M).2.1 (m_low M).2.2.1 (m_low M).2.2.2 R]
    exact congrArg (fun q => m_polar_S q R) e
  rw [e2, m_low_sc hg rfl]
theorem lowT_t3 (P : T3) : lowT P = t3f (m_low (t4 P)) := by
  have e := lowT_low P
  rw [← e]
  rfl
theorem ord_le (U W : T3) : ordT U W ≤ 0 ↔ (U.1 < W.1 ∨ U.1 = W.1 ∧ (U.2.1 < W.2.1 ∨ U.2.1 = W.2.1 ∧ U.2.2 ≤ W.2.2)) := by
  unfold ordT
  have a1 := @lcmp_0 U.1 W.1
  have a2 := @lcmp_lt U.1 W.1
  have b1 := @lcmp_0 U.2.1 W.2.1
  have b2 := @lcmp_lt U.2.1 W.2.1
  have c1 := @lcmp_0 U.2.2 W.2.2
  have c2 := @lcmp_lt U.2.2 W.2.2
  split
  · omega
  · split <;> omega
theorem low_4 (P : T3) : (m_low (t4 P)).2.2.2 = 0 := m_low_4 rfl
theorem tan_pick {S : aS} {v : Bool} {M0 M1 R : T4} (h0 : M0.2.2.2 = 0) (h1 : M1.2.2.2 = 0) : keepP S 1 (some (p_tan_S v (t3f M0) (t3f M1) R)) = keepM S 1 (some (if (m_bef (m_side M0 R) (m_side M1 R) ↔ (!v) = true) then m_side M0 R else m_side M1 R)) := by
  rw [side_eq h0, side_eq h1]
  have q0 : lowT (p_polar_S (t3f M0) R) = t3f (m_low (m_polar_S M0 R)) := lowT_t3 _
  have q1 : lowT (p_polar_S (t3f M1) R) = t3f (m_low (m_polar_S M1 R)) := lowT_t3 _
  have z0 : (m_low (m_polar_S M0 R)).2.2.2 = 0 := m_low_4 rfl
  have z1 : (m_low (m_polar_S M1 R)).2.2.2 = 0 := m_low_4 rfl
  unfold p_tan_S
  rw [q0, q1]
  generalize m_low (m_polar_S M0 R) = U at z0 ⊢
  generalize m_low (m_polar_S M1 R) = W at z1 ⊢
  have hU : keepP S 1 (some (t3f U)) = keepM S 1 (some U) := keepPM1 (by decide) z0 rfl rfl rfl
  have hW : keepP S 1 (some (t3f W)) = keepM S 1 (some W) := keepPM1 (by decide) z1 rfl rfl rfl
  have ho := ord_le (t3f U) (t3f W)
  have ho : ordT (t3f U) (t3f W) ≤ 0 ↔ (U.1 < W.1 ∨ U.1 = W.1 ∧ (U.2.1 < W.2.1 ∨ U.2.1 = W.2.1 ∧ U.2.2.1 ≤ W.2.2.1)) := ho
  by_cases hb : m_bef U W
  · have hb2 := hb
    unfold m_bef at hb2
    rw [if_pos (ho.mpr (by omega))]
    cases v
    · rw [if_pos (⟨fun _ => rfl, fun _ => hb⟩ : m_bef U W ↔ (!false) = true)]
      exact hU
    · rw [if_neg (fun z : (m_bef U W ↔ (!true) = true) => absurd (z.mp hb) (by decide))]
      exact hW
  · have hb2 := hb
    unfold m_bef at hb2
    by_cases le : ordT (t3f U) (t3f W) ≤ 0
    · have le2 := ho.mp le
      have e : U = W := Prod.ext (by omega) (Prod.ext (by omega) (Prod.ext (by omega) (by omega)))
      subst e
      rw [if_pos le]
      cases v <;> ((repeat' split) <;> exact hU)
    · rw [if_neg le]
      cases v
      · rw [if_neg (fun z : (m_bef U W ↔ (!false) = true) => hb (z.mpr rfl))]
        exact hW
      · rw [if_pos (⟨fun z => absurd z hb, fun z => absurd z (by decide)⟩ : m_bef U W ↔ (!true) = true)]
        exact hU
theorem keepP_low {S : aS} {s : Int} (hs : s ≠ 2) (P : T3) : keepP S s (some (lowT P)) = keepP S s (some P) := by
  have e1 : keepP S s (some P) = keepM S s (some (t4 P)) := keepPM1 hs rfl rfl rfl rfl
  have e2 : keepP S s (some (lowT P)) = keepM S s (some (m_low (t4 P))) := by
    rw [lowT_t3]
    exact keepPM1 hs (low_4 P) rfl rfl rfl
  rw [e1, e2]
  show keepT S s (lowK s (m_low (t4 P))) = keepT S s (lowK s (t4 P))
  unfold lowK
  rw [if_neg hs, if_neg hs, m_low_idem rfl]
theorem hit0 (x y w z k a b c : Int) (h : m_within_S (x, y, w, z) (k, a, b, c) = 0) : m_hit_S (m_polar_S (x, y, w, z) (k, a, b, c)) (k, a, b, c) 0 = sc4 (2 * k * m_bulge_S (k, a, b, c) * w) (x, y, w, 0) := by
  have en := ri_pn x y w z k a b c
  have er := ri_pr x y w z k a b c
  rw [h, Int.mul_zero, Int.zero_add] at en
  unfold m_hit_S
  rw [en, er]
  generalize m_bulge_S (k, a, b, c) = be
  unfold m_polar_S sc4
  dsimp only
  refine Prod.ext ?_ (Prod.ext ?_ (Prod.ext ?_ ?_)) <;> dsimp only <;> grind
theorem tan_eq {S : aS} (ok : OkL S) {v : Bool} {a b : Int} (hb : isS S b 2) : keepP S 1 (p_tan_O v (tpT S a) (tpR S b)) = keepM S 1 (m_tan_O S (!v) a (tpR S a) (tpR S b)) := by
  obtain ⟨-, hk, hbu⟩ := ok.c hb
  have hk : 0 < sTp S b.toNat 0 := hk
  by_cases hw : sTp S a.toNat 2 = 0
  · have e1 : p_tan_O v (tpT S a) (tpR S b) = none := p_tan_n0 hw
    rw [e1, m_tan_no (Or.inl hw)]
    rfl
  · have en := ri_pn (sTp S a.toNat 0) (sTp S a.toNat 1) (sTp S a.toNat 2) (sTp S a.toNat 3) (sTp S b.toNat 0) (sTp S b.toNat 1) (sTp S b.toNat 2) (sTp S b.toNat 3)
    have er := ri_pr (sTp S a.toNat 0) (sTp S a.toNat 1) (sTp S a.toNat 2) (sTp S a.toNat 3) (sTp S b.toNat 0) (sTp S b.toNat 1) (sTp S b.toNat 2) (sTp S b.toNat 3)
    have en : m_norm_S (m_polar_S (tpR S a) (tpR S b)) = 4 * sTp S b.toNat 0 * m_within_S (tpR S a) (tpR S b) + m_bulge_S (tpR S b) * (sTp S a.toNat 2 * sTp S a.toNat 2) := en
    have er : m_reach_S (m_polar_S (tpR S a) (tpR S b)) (tpR S b) = -(m_bulge_S (tpR S b) * sTp S a.toNat 2) := er
    have ed : m_depth_S (m_polar_S (tpR S a) (tpR S b)) (tpR S b) = m_bulge_S (tpR S b) * (4 * sTp S b.toNat 0 * m_within_S (tpR S a) (tpR S b)) := by
      unfold m_depth_S
      rw [en, er]
      generalize m_bulge_S (tpR S b) = be
      generalize m_within_S (tpR S a) (tpR S b) = wi
      grind
    have hww : 0 < sTp S a.toNat 2 * sTp S a.toNat 2 := by
      rcases Int.lt_or_gt_of_ne hw with q | q
      · exact Int.mul_pos_of_neg_of_neg q q
      · exact Int.mul_pos q q
    have hbw := Int.mul_pos hbu hww
    have cm : ∀ u : Bool, p_cro_O u (p_polar_S (tpT S a) (tpR S b)) (tpR S b) = (m_meet_O u (m_polar_S (tpR S a) (tpR S b)) (tpR S b)).map t3f := fun u => cro_meet u _ _ _ 0 (tpR S b)
    have hw' : ¬ (tpT S a).2.2 = 0 := hw
    rcases Int.lt_trichotomy (m_within_S (tpR S a) (tpR S b)) 0 with q | q | q
    · have hd : m_depth_S (m_polar_S (tpR S a) (tpR S b)) (tpR S b) < 0 := by
        rw [ed]
        refine Int.mul_neg_of_pos_of_neg hbu ?_
        exact Int.mul_neg_of_pos_of_neg (by omega) q
      have em : m_meet_O false (m_polar_S (tpR S a) (tpR S b)) (tpR S b) = none := by
        by_cases l : (m_polar_S (tpR S a) (tpR S b)).1 = 0 ∧ (m_polar_S (tpR S a) (tpR S b)).2.1 = 0
        · exact m_meet_no l
        · exact m_meet_no2 l (rootO_neg hd)
      have e1 : p_cro_O false (p_polar_S (tpT S a) (tpR S b)) (tpR S b) = none := by rw [cm, em]; rfl
      rw [p_tan_n1 hw' e1, m_tan_no (Or.inr q)]
      rfl
    · have hnl : ¬((m_polar_S (tpR S a) (tpR S b)).1 = 0 ∧ (m_polar_S (tpR S a) (tpR S b)).2.1 = 0) := fun l => by
        have : m_norm_S (m_polar_S (tpR S a) (tpR S b)) = 0 := by
          unfold m_norm_S
          rw [l.1, l.2]
          rfl
        rw [this, q, Int.mul_zero] at en
        omega
      have e0 : rootO (m_depth_S (m_polar_S (tpR S a) (tpR S b)) (tpR S b)) = some 0 := by
        rw [ed, q, Int.mul_zero, Int.mul_zero]
        exact rootO_0
      have hm : ∀ u : Bool, m_meet_O u (m_polar_S (tpR S a) (tpR S b)) (tpR S b) = some (m_hit_S (m_polar_S (tpR S a) (tpR S b)) (tpR S b) 0) := fun u => by
        by_cases f : m_fwd u (m_polar_S (tpR S a) (tpR S b))
        · exact m_meet_t hnl e0 f
        · exact m_meet_f hnl e0 f
      have hh : m_hit_S (m_polar_S (tpR S a) (tpR S b)) (tpR S b) 0 = sc4 (2 * sTp S b.toNat 0 * m_bulge_S (tpR S b) * sTp S a.toNat 2) (sTp S a.toNat 0, sTp S a.toNat 1, sTp S a.toNat 2, 0) := hit0 _ _ _ _ _ _ _ _ q
      have e1 : ∀ u : Bool, p_cro_O u (p_polar_S (tpT S a) (tpR S b)) (tpR S b) = some (t3f (sc4 (2 * sTp S b.toNat 0 * m_bulge_S (tpR S b) * sTp S a.toNat 2) (sTp S a.toNat 0, sTp S a.toNat 1, sTp S a.toNat 2, 0))) := fun u => by
        rw [cm, hm, hh]
        rfl
      rw [p_tan_s hw' (e1 false) (e1 true), m_tan_on (fun x => x.elim hw (fun y => by omega)) q]
      have hg : 2 * sTp S b.toNat 0 * m_bulge_S (tpR S b) * sTp S a.toNat 2 ≠ 0 := Int.mul_ne_zero (Int.mul_ne_zero (by omega) (by omega)) hw
      generalize 2 * sTp S b.toNat 0 * m_bulge_S (tpR S b) * sTp S a.toNat 2 = g at hg
      have ep : ∀ A : T3, p_tan_S v A A (tpR S b) = lowT (p_polar_S A (tpR S b)) := fun A => by
        unfold p_tan_S
        cases v <;> (split <;> rfl)
      rw [ep, keepP_low (by decide)]
      have es := polar_sc g (sTp S a.toNat 0) (sTp S a.toNat 1) (sTp S a.toNat 2) 0 (tpR S b)
      have e2 : p_polar_S (t3f (sc4 g (sTp S a.toNat 0, sTp S a.toNat 1, sTp S a.toNat 2, 0))) (tpR S b) = t3f (m_polar_S (sc4 g (sTp S a.toNat 0, sTp S a.toNat 1, sTp S a.toNat 2, 0)) (tpR S b)) := rfl
      rw [e2, es]
      exact keepPM (u := 1) (v := g) (by decide) (by decide) hg rfl (Int.one_mul _) (Int.one_mul _) (Int.one_mul _)
    · cases em : m_meet_O false (m_polar_S (tpR S a) (tpR S b)) (tpR S b) with
      | none =>
        have e1 : p_cro_O false (p_polar_S (tpT S a) (tpR S b)) (tpR S b) = none := by rw [cm, em]; rfl
        rw [p_tan_n1 hw' e1, m_tan_no2 (fun x => x.elim hw (fun y => by omega)) (by omega) em]
        rfl
      | some M0 =>
        obtain ⟨M1, em1⟩ := m_meet_both (b2 := true) em
        have e1 : p_cro_O false (p_polar_S (tpT S a) (tpR S b)) (tpR S b) = some (t3f M0) := by rw [cm, em]; rfl
        have e2 : p_cro_O true (p_polar_S (tpT S a) (tpR S b)) (tpR S b) = some (t3f M1) := by rw [cm, em1]; rfl
        rw [p_tan_s hw' e1 e2, tan_pick (meet_0 em) (meet_0 em1)]
        have hA : ¬(sTp S a.toNat 2 = 0 ∨ m_within_S (tpR S a) (tpR S b) < 0) := fun x => x.elim hw (fun y => by omega)
        by_cases f : m_bef (m_side M0 (tpR S b)) (m_side M1 (tpR S b)) ↔ (!v) = true
        · rw [if_pos f, m_tan_u hA (by omega) em em1 f]
        · rw [if_neg f, m_tan_w hA (by omega) em em1 f]
theorem g_step18 {S : aS} (ok : OkL S) (a b : Int) : (if isAS S 112 a ∧ isAS S 99 b then keepP S 1 (p_tan_O false (tpT S a) (tpR S b)) else (-1, S)) = stepM S 0 2 1 a b (m_s18_O S a b) := step_if as_p as_c fun ha hb => tan_eq ok hb
theorem g_step19 {S : aS} (ok : OkL S) (a b : Int) : (if isAS S 112 a ∧ isAS S 99 b then keepP S 1 (p_tan_O true (tpT S a) (tpR S b)) else (-1, S)) = stepM S 0 2 1 a b (m_s19_O S a b) := step_if as_p as_c fun ha hb => tan_eq ok hb
