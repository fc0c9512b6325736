/-! the things stay in lowest form -/
def gdO (s : Int) (O : Option T4) : Prop := ∀ R, O = some R → (s = 2 → R.1 ≠ 0 ∧ 0 < m_bulge_S R) ∧ (s ≠ 2 → R.2.2.2 = 0 ∧ ¬(R.1 = 0 ∧ R.2.1 = 0 ∧ R.2.2.1 = 0))
theorem gd_none (s : Int) : gdO s none := fun R h => by cases h
theorem gd_p {s : Int} (hs : s ≠ 2) {R : T4} (h4 : R.2.2.2 = 0) (h : ¬(R.1 = 0 ∧ R.2.1 = 0 ∧ R.2.2.1 = 0)) : gdO s (some R) := fun R2 e => by
  cases e
  exact ⟨fun z => absurd z hs, fun _ => ⟨h4, h⟩⟩
theorem gd_w {s : Int} (hs : s ≠ 2) {R : T4} (h4 : R.2.2.2 = 0) (h : R.2.2.1 ≠ 0) : gdO s (some R) := gd_p hs h4 fun z => h z.2.2
theorem gd_c {R : T4} (h1 : R.1 ≠ 0) (h : 0 < m_bulge_S R) : gdO 2 (some R) := fun R2 e => by
  cases e
  exact ⟨fun _ => ⟨h1, h⟩, fun z => absurd rfl z⟩
theorem gd_if {s : Int} {p : Prop} [Decidable p] {O : Option T4} (h : ¬ p → gdO s O) : gdO s (if p then none else O) := by
  by_cases q : p
  · rw [if_pos q]
    exact gd_none s
  · rw [if_neg q]
    exact h q
theorem low_is {R : T4} (h4 : R.2.2.2 = 0) (h : ¬(R.1 = 0 ∧ R.2.1 = 0 ∧ R.2.2.1 = 0)) : lowP (m_low R) := by
  refine ⟨m_low_4 h4, m_low_idem h4, fun z => h ?_⟩
  obtain ⟨g, hg, e⟩ := low_ex h4
  rw [e]
  show g * (m_low R).1 = 0 ∧ g * (m_low R).2.1 = 0 ∧ g * (m_low R).2.2.1 = 0
  rw [z.1, z.2.1, z.2.2, Int.mul_zero]
  exact ⟨rfl, rfl, rfl⟩
theorem lowR_ex {R : T4} (h1 : R.1 ≠ 0) : ∃ g : Int, g ≠ 0 ∧ R = sc4 g (m_lowR R) ∧ 0 < (m_lowR R).1 := by
  have hz := @g4_0 R
  have g0 : g4 R ≠ 0 := fun h => h1 (hz h).1
  have gp : 0 < g4 R := by
    have : 0 ≤ g4 R := by unfold g4; omega
    omega
  have d1 : g4 R ∣ R.1 := Int.dvd_trans (Int.gcd_dvd_left _ _) (Int.gcd_dvd_left _ _)
  have d2 : g4 R ∣ R.2.1 := Int.dvd_trans (Int.gcd_dvd_left _ _) (Int.gcd_dvd_right _ _)
  have d3 : g4 R ∣ R.2.2.1 := Int.dvd_trans (Int.gcd_dvd_right _ _) (Int.gcd_dvd_left _ _)
  have d4 : g4 R ∣ R.2.2.2 := Int.dvd_trans (Int.gcd_dvd_right _ _) (Int.gcd_dvd_right _ _)
  have e1 := Int.mul_tdiv_cancel' d1
  have e2 := Int.mul_tdiv_cancel' d2
  have e3 := Int.mul_tdiv_cancel' d3
  have e4 := Int.mul_tdiv_cancel' d4
  have f1 := (sg_pos gp (R.1.tdiv (g4 R)))
  unfold m_lowR
  by_cases q : R.1 < 0
  · rw [if_pos q]
    refine ⟨-g4 R, by omega, ?_, ?_⟩
    · unfold sc4 set_up
      dsimp only
      rw [Int.neg_mul_neg, Int.neg_mul_neg, Int.neg_mul_neg, Int.neg_mul_neg, e1, e2, e3, e4]
    · show 0 < -(R.1.tdiv (g4 R))
      rw [e1] at f1
      omega
  · rw [if_neg q]
    refine ⟨g4 R, g0, ?_, ?_⟩
    · unfold sc4 set_dn
      dsimp only
      rw [e1, e2, e3, e4]
    · show 0 < R.1.tdiv (g4 R)
      rw [e1] at f1
      omega
theorem bulge_sc (g : Int) (R : T4) : m_bulge_S (sc4 g R) = g * g * m_bulge_S R := by
  unfold m_bulge_S sc4
  dsimp only
  grind
theorem sq_pos {g : Int} (hg : g ≠ 0) : 0 < g * g := by
  rcases Int.lt_or_gt_of_ne hg with q | q
  · exact Int.mul_pos_of_neg_of_neg q q
  · exact Int.mul_pos q q
theorem pos_of {G x : Int} (hG : 0 < G) (h : 0 < G * x) : 0 < x := by
  rcases Int.lt_trichotomy x 0 with q | q | q
  · have := Int.mul_neg_of_pos_of_neg hG q
    omega
  · rw [q, Int.mul_zero] at h
    omega
  · exact q
theorem lowR_is {R : T4} (h1 : R.1 ≠ 0) (h : 0 < m_bulge_S R) : lowC (m_lowR R) := by
  obtain ⟨g, hg, e, hp⟩ := lowR_ex h1
  refine ⟨?_, hp, ?_⟩
  · have e2 := m_lowR_sc hg (R := m_lowR R) (by omega)
    rw [← e] at e2
    exact e2.symm
  · rw [e, bulge_sc] at h
    exact pos_of (sq_pos hg) h
theorem keepM_ok {S : aS} (okT : OkT S) (okL : OkL S) {s : Int} (hs : s = 0 ∨ s = 1 ∨ s = 2) {O : Option T4} (h : gdO s O) : OkT (keepM S s O).2 ∧ OkL (keepM S s O).2 := by
  cases O with
  | none => exact ⟨okT, okL⟩
  | some R =>
    obtain ⟨hc, hp⟩ := h R rfl
    have hl : (s = 2 → lowC (lowK s R)) ∧ (s ≠ 2 → lowP (lowK s R)) := by
      unfold lowK
      refine ⟨fun q => ?_, fun q => ?_⟩
      · rw [if_pos q]
        exact lowR_is (hc q).1 (hc q).2
      · rw [if_neg q]
        exact low_is (hp q).1 (hp q).2
    show OkT (keepT S s (lowK s R)).2 ∧ OkL (keepT S s (lowK s R)).2
    generalize lowK s R = W at hl
    unfold keepT
    by_cases q : (sml W.1 ∧ sml W.2.1 ∧ sml W.2.2.1 ∧ sml W.2.2.2) ∧ sT S < 100
    · rw [if_pos q]
      refine ⟨addT_ok okT hs q.1 q.2, fun t ht => ?_⟩
      have ht : 0 ≤ t ∧ t < ((sT S + 1 : Nat) : Int) := ht
      by_cases e : t.toNat = sT S
      · have es : sTs (addT S s (fun k => if k = 0 then W.1 else if k = 1 then W.2.1 else if k = 2 then W.2.2.1 else W.2.2.2)) t.toNat = s := if_pos e
        have er : tpR (addT S s (fun k => if k = 0 then W.1 else if k = 1 then W.2.1 else if k = 2 then W.2.2.1 else W.2.2.2)) t = W := by
          have ep : sTp (addT S s (fun k => if k = 0 then W.1 else if k = 1 then W.2.1 else if k = 2 then W.2.2.1 else W.2.2.2)) t.toNat = (fun k => if k = 0 then W.1 else if k = 1 then W.2.1 else if k = 2 then W.2.2.1 else W.2.2.2) := if_pos e
          unfold tpR
          rw [ep]
          rfl
        show (sTs (addT S s _) t.toNat = 2 → lowC (tpR (addT S s _) t)) ∧ (sTs (addT S s _) t.toNat ≠ 2 → lowP (tpR (addT S s _) t))
        rw [es, er]
        exact hl
      · have es : sTs (addT S s (fun k => if k = 0 then W.1 else if k = 1 then W.2.1 else if k = 2 then W.2.2.1 else W.2.2.2)) t.toNat = sTs S t.toNat := if_neg e
        have er : tpR (addT S s (fun k => if k = 0 then W.1 else if k = 1 then W.2.1 else if k = 2 then W.2.2.1 else W.2.2.2)) t = tpR S t := by
          have ep : sTp (addT S s (fun k => if k = 0 then W.1 else if k = 1 then W.2.1 else if k = 2 then W.2.2.1 else W.2.2.2)) t.toNat = sTp S t.toNat := if_neg e
          unfold tpR
          rw [ep]
        show (sTs (addT S s _) t.toNat = 2 → lowC (tpR (addT S s _) t)) ∧ (sTs (addT S s _) t.toNat ≠ 2 → lowP (tpR (addT S s _) t))
        rw [es, er]
        exact okL t (by omega)
    · rw [if_neg q]
      exact ⟨okT, okL⟩
theorem stepM_ok {S : aS} (okT : OkT S) (okL : OkL S) {sa sb s a b : Int} (hs : s = 0 ∨ s = 1 ∨ s = 2) {O : Option T4} (h : isS S a sa → isS S b sb → gdO s O) : OkT (stepM S sa sb s a b O).2 ∧ OkL (stepM S sa sb s a b O).2 := by
  unfold stepM
  by_cases q : isS S a sa ∧ isS S b sb
  · rw [if_pos q]
    exact keepM_ok okT okL hs (h q.1 q.2)
  · rw [if_neg q]
    exact ⟨okT, okL⟩
theorem threeM_ok {S : aS} (okT : OkT S) (okL : OkL S) {s a b c : Int} (hs : s = 0 ∨ s = 1 ∨ s = 2) {O : Option T4} (h : isS S a 0 → isS S b 0 → isS S c 0 → sTp S a.toNat 2 ≠ 0 → sTp S b.toNat 2 ≠ 0 → sTp S c.toNat 2 ≠ 0 → gdO s O) : OkT (threeM S s a b c O).2 ∧ OkL (threeM S s a b c O).2 := by
  unfold threeM
  by_cases q : isS S a 0 ∧ isS S b 0 ∧ isS S c 0
  · rw [if_pos q]
    refine keepM_ok okT okL hs (gd_if fun z => ?_)
    exact h q.1 q.2.1 q.2.2 (fun y => z (Or.inl y)) (fun y => z (Or.inr (Or.inl y))) (fun y => z (Or.inr (Or.inr y)))
  · rw [if_neg q]
    exact ⟨okT, okL⟩
/-! each kind's row is something -/
theorem gi_1 {S : aS} {s a b : Int} (hs : s ≠ 2) (pa : lowP (tpR S a)) (pb : lowP (tpR S b)) : gdO s (m_s1_O S a b) := gd_if fun q => gd_p hs rfl fun z => q ((crT_iff pa pb).mp z)
theorem gi_3 {S : aS} {a b : Int} : gdO 0 (m_s3_O S a b) := gd_if fun q => gd_w (by decide) rfl (Int.mul_ne_zero (Int.mul_ne_zero (by decide) (fun h => q (Or.inl h))) (fun h => q (Or.inr h)))
theorem gi_4 {S : aS} {a b : Int} : gdO 0 (m_s4_O S a b) := gd_if fun q => gd_w (by decide) rfl (Int.mul_ne_zero (fun h => q (Or.inl h)) (fun h => q (Or.inr (sq0 h))))
theorem gi_7 {S : aS} {a b : Int} : gdO 0 (m_s7_O S a b) := gd_if fun q => gd_w (by decide) rfl (Int.mul_ne_zero (fun h => q (Or.inl h)) (fun h => q (Or.inr (sq0 h))))
theorem gi_5 {S : aS} {a b : Int} : gdO 1 (m_s5_O S a b) := gd_if fun q => gd_p (by decide) rfl fun z => q (Or.inr z)
theorem gi_6 {S : aS} {a b : Int} : gdO 1 (m_s6_O S a b) := gd_if fun q => gd_p (by decide) rfl fun z => q (Or.inr z)
theorem gi_8 {S : aS} {a b : Int} (cb : lowC (tpR S b)) : gdO 0 (m_s8_O S a b) := gd_if fun q => gd_w (by decide) rfl (Int.mul_ne_zero (Int.mul_ne_zero (by decide) (by have := cb.2.1; omega)) (fun h => q (Or.inr h)))
theorem polar_nz {P R : T4} (cb : lowC R) (h : ¬(P.1 = 0 ∧ P.2.1 = 0 ∧ P.2.2.1 = 0)) : ¬((m_polar_S P R).1 = 0 ∧ (m_polar_S P R).2.1 = 0 ∧ (m_polar_S P R).2.2.1 = 0) := by
  rintro ⟨z1, z2, z3⟩
  have er := ri_pr P.1 P.2.1 P.2.2.1 P.2.2.2 R.1 R.2.1 R.2.2.1 R.2.2.2
  have er : m_reach_S (m_polar_S P R) R = -(m_bulge_S R * P.2.2.1) := er
  unfold m_reach_S at er
  rw [z1, z2, z3, Int.mul_zero, Int.zero_mul, Int.zero_mul] at er
  have hb := cb.2.2
  have hw : P.2.2.1 = 0 := (Int.mul_eq_zero.mp (show m_bulge_S R * P.2.2.1 = 0 by omega)).resolve_left (by omega)
  have hk := cb.2.1
  have z1 : (2 * R.1) * P.1 + R.2.1 * P.2.2.1 = 0 := z1
  have z2 : (2 * R.1) * P.2.1 + R.2.2.1 * P.2.2.1 = 0 := z2
  rw [hw, Int.mul_zero, Int.add_zero] at z1 z2
  exact h ⟨(Int.mul_eq_zero.mp z1).resolve_left (by omega), (Int.mul_eq_zero.mp z2).resolve_left (by omega), hw⟩
theorem gi_9 {S : aS} {a b : Int} (pa : lowP (tpR S a)) (cb : lowC (tpR S b)) : gdO 1 (m_s9_O S a b) := gd_p (by decide) rfl (polar_nz cb pa.2.2)
theorem pole_nz {L R : T4} (cb : lowC R) (h : ¬(L.1 = 0 ∧ L.2.1 = 0 ∧ L.2.2.1 = 0)) : ¬((m_pole_S L R).1 = 0 ∧ (m_pole_S L R).2.1 = 0 ∧ (m_pole_S L R).2.2.1 = 0) := by
  rintro ⟨z1, z2, z3⟩
  have e := po_eq L R
  have e1 : -(R.2.1 * (p_tam_S (t3f L) R) + (p_spread_S R) * L.1) = (m_pole_S L R).1 := congrArg (fun q : T3 => q.1) e
  have e2 : -(R.2.2.1 * (p_tam_S (t3f L) R) + (p_spread_S R) * L.2.1) = (m_pole_S L R).2.1 := congrArg (fun q : T3 => q.2.1) e
  have e3 : 2 * (R.1 * (p_tam_S (t3f L) R)) = (m_pole_S L R).2.2.1 := congrArg (fun q : T3 => q.2.2) e
  have hk := cb.2.1
  have hb := cb.2.2
  have es : p_spread_S R = m_bulge_S R := ri_spread R.1 R.2.1 R.2.2.1 R.2.2.2
  rw [z3] at e3
  have ht : p_tam_S (t3f L) R = 0 := (Int.mul_eq_zero.mp (show R.1 * p_tam_S (t3f L) R = 0 by omega)).resolve_left (by omega)
  rw [ht, z1, es, Int.mul_zero] at e1
  rw [ht, z2, es, Int.mul_zero] at e2
  have l1 : L.1 = 0 := (Int.mul_eq_zero.mp (show m_bulge_S R * L.1 = 0 by omega)).resolve_left (by omega)
  have l2 : L.2.1 = 0 := (Int.mul_eq_zero.mp (show m_bulge_S R * L.2.1 = 0 by omega)).resolve_left (by omega)
  have ht : (2 * (R.1 * L.2.2.1)) - (R.2.1 * L.1 + R.2.2.1 * L.2.1) = 0 := ht
  rw [l1, l2, Int.mul_zero, Int.mul_zero] at ht
  exact h ⟨l1, l2, (Int.mul_eq_zero.mp (show R.1 * L.2.2.1 = 0 by omega)).resolve_left (by omega)⟩
theorem gi_10 {S : aS} {a b : Int} (pa : lowP (tpR S a)) (cb : lowC (tpR S b)) : gdO 0 (m_s10_O S a b) := gd_p (by decide) rfl (pole_nz cb pa.2.2)
theorem gi_11 {S : aS} {a b : Int} : gdO 1 (m_s11_O S a b) := gd_if fun q => gd_p (by decide) rfl fun z => q ⟨z.1, z.2.1⟩
def awayS (P Q : T4) : Int := (Q.1 * P.2.2.1 - P.1 * Q.2.2.1) * (Q.1 * P.2.2.1 - P.1 * Q.2.2.1) + (Q.2.1 * P.2.2.1 - P.2.1 * Q.2.2.1) * (Q.2.1 * P.2.2.1 - P.2.1 * Q.2.2.1)
theorem away_cr {x y w x2 y2 w2 : Int} (hw : w ≠ 0) (e1 : x2 * w - x * w2 = 0) (e2 : y2 * w - y * w2 = 0) : y * w2 - w * y2 = 0 ∧ w * x2 - x * w2 = 0 ∧ x * y2 - y * x2 = 0 := by
  refine ⟨by grind, by grind, ?_⟩
  have e : w * (x * y2 - y * x2) = x * (y2 * w - y * w2) - y * (x2 * w - x * w2) := by grind
  rw [e1, e2, Int.mul_zero, Int.mul_zero] at e
  exact (Int.mul_eq_zero.mp e).resolve_left hw
theorem away_pos {S : aS} {a b : Int} (pa : lowP (tpR S a)) (pb : lowP (tpR S b)) (hw : sTp S a.toNat 2 ≠ 0) (h : ¬ eqT S a b) : 0 < awayS (tpR S a) (tpR S b) := by
  have h1 : ∀ u : Int, 0 ≤ u * u := fun u => by
    rcases Int.le_total 0 u with q | q
    · exact Int.mul_nonneg q q
    · exact Int.mul_nonneg_of_nonpos_of_nonpos q q
  have h2 := h1 ((tpR S b).1 * (tpR S a).2.2.1 - (tpR S a).1 * (tpR S b).2.2.1)
  have h3 := h1 ((tpR S b).2.1 * (tpR S a).2.2.1 - (tpR S a).2.1 * (tpR S b).2.2.1)
  have hn : awayS (tpR S a) (tpR S b) ≠ 0 := fun z => by
    obtain ⟨z1, z2⟩ := sq0 z
    exact h ((crT_iff pa pb).mp (away_cr hw z1 z2))
  unfold awayS at hn ⊢
  omega
theorem bu_around (x y w z x2 y2 w2 z2 : Int) : m_bulge_S (m_around_S (x, y, w, z) (x2, y2, w2, z2)) = 4 * ((w * w) * (w2 * w2)) * awayS (x, y, w, z) (x2, y2, w2, z2) := by
  unfold m_bulge_S m_around_S awayS
  dsimp only
  grind
theorem bu_over (x y w z x2 y2 w2 z2 : Int) : m_bulge_S (w * w2, -((x * w2) + (x2 * w)), -((y * w2) + (y2 * w)), (x * x2) + (y * y2)) = awayS (x, y, w, z) (x2, y2, w2, z2) := by
  unfold m_bulge_S awayS
  dsimp only
  grind
theorem gi_12 {S : aS} {a b : Int} (pa : lowP (tpR S a)) (pb : lowP (tpR S b)) : gdO 2 (m_s12_O S a b) := gd_if fun q => by
  have h1 : sTp S a.toNat 2 ≠ 0 := fun h => q (Or.inl h)
  have h2 : sTp S b.toNat 2 ≠ 0 := fun h => q (Or.inr (Or.inl h))
  have h3 := away_pos pa pb h1 fun h => q (Or.inr (Or.inr h))
  refine gd_c (Int.mul_ne_zero (Int.mul_ne_zero h1 h1) (Int.mul_ne_zero h2 h2)) ?_
  have e : m_bulge_S (m_around_S (tpR S a) (tpR S b)) = 4 * ((sTp S a.toNat 2 * sTp S a.toNat 2) * (sTp S b.toNat 2 * sTp S b.toNat 2)) * awayS (tpR S a) (tpR S b) := bu_around _ _ _ _ _ _ _ _
  rw [e]
  exact Int.mul_pos (Int.mul_pos (by decide) (Int.mul_pos (sq_pos h1) (sq_pos h2))) h3
theorem gi_13 {S : aS} {a b : Int} (pa : lowP (tpR S a)) (pb : lowP (tpR S b)) : gdO 2 (m_s13_O S a b) := gd_if fun q => by
  have h1 : sTp S a.toNat 2 ≠ 0 := fun h => q (Or.inl h)
  have h2 : sTp S b.toNat 2 ≠ 0 := fun h => q (Or.inr (Or.inl h))
  have h3 := away_pos pa pb h1 fun h => q (Or.inr (Or.inr h))
  refine gd_c (Int.mul_ne_zero h1 h2) ?_
  have e := bu_over (sTp S a.toNat 0) (sTp S a.toNat 1) (sTp S a.toNat 2) (sTp S a.toNat 3) (sTp S b.toNat 0) (sTp S b.toNat 1) (sTp S b.toNat 2) (sTp S b.toNat 3)
  exact Int.lt_of_lt_of_le h3 (Int.le_of_eq e.symm)
theorem meet_nz {v : Bool} {L R M : T4} (hk : 0 < R.1) (h : m_meet_O v L R = some M) : M.2.2.1 ≠ 0 := by
  obtain ⟨hn, s, -, rfl⟩ := meet_some h
  exact Int.mul_ne_zero (Int.mul_ne_zero (by decide) (by omega)) (fun z => hn (sq0 z))
theorem gi_meet {s : Int} (hs : s ≠ 2) {v : Bool} {L R : T4} (hk : 0 < R.1) : gdO s (m_meet_O v L R) := fun M h => ⟨fun z => absurd z hs, fun _ => ⟨meet_0 h, fun z => meet_nz hk h z.2.2⟩⟩
theorem side_nz {M R : T4} (cb : lowC R) (h4 : M.2.2.2 = 0) (h : M.2.2.1 ≠ 0) : (m_side M R).2.2.2 = 0 ∧ ¬((m_side M R).1 = 0 ∧ (m_side M R).2.1 = 0 ∧ (m_side M R).2.2.1 = 0) := by
  rw [side_eq h4]
  have q := low_is (R := m_polar_S M R) rfl (polar_nz cb (fun z => h z.2.2))
  exact ⟨q.1, q.2.2⟩
theorem gi_tan {S : aS} {v : Bool} {a b : Int} (pa : lowP (tpR S a)) (cb : lowC (tpR S b)) : gdO 1 (m_tan_O S v a (tpR S a) (tpR S b)) := by
  by_cases h : sTp S a.toNat 2 = 0 ∨ m_within_S (tpR S a) (tpR S b) < 0
  · rw [m_tan_no h]
    exact gd_none 1
  · by_cases h2 : m_within_S (tpR S a) (tpR S b) = 0
    · rw [m_tan_on h h2]
      exact gd_p (by decide) rfl (polar_nz cb pa.2.2)
    · cases em : m_meet_O false (m_polar_S (tpR S a) (tpR S b)) (tpR S b) with
      | none =>
        rw [m_tan_no2 h h2 em]
        exact gd_none 1
      | some M0 =>
        obtain ⟨M1, em1⟩ := m_meet_both (b2 := true) em
        have s0 := side_nz cb (meet_0 em) (meet_nz cb.2.1 em)
        have s1 := side_nz cb (meet_0 em1) (meet_nz cb.2.1 em1)
        by_cases f : m_bef (m_side M0 (tpR S b)) (m_side M1 (tpR S b)) ↔ v = true
        · rw [m_tan_u h h2 em em1 f]
          exact gd_p (by decide) s0.1 s0.2
        · rw [m_tan_w h h2 em em1 f]
          exact gd_p (by decide) s1.1 s1.2
/-- a circle through three has each of them on it -/
theorem on_rows (s1 x1 y1 w1 s2 x2 y2 w2 s3 x3 y3 w3 : Int) : m_rows_S x1 y1 w1 x2 y2 w2 x3 y3 w3 * s1 + -(m_rows_S s1 y1 w1 s2 y2 w2 s3 y3 w3) * x1 + m_rows_S s1 x1 w1 s2 x2 w2 s3 x3 w3 * y1 + -(m_rows_S s1 x1 y1 s2 x2 y2 s3 x3 y3) * w1 = 0 ∧ m_rows_S x1 y1 w1 x2 y2 w2 x3 y3 w3 * s2 + -(m_rows_S s1 y1 w1 s2 y2 w2 s3 y3 w3) * x2 + m_rows_S s1 x1 w1 s2 x2 w2 s3 x3 w3 * y2 + -(m_rows_S s1 x1 y1 s2 x2 y2 s3 x3 y3) * w2 = 0 := by
  unfold m_rows_S
  constructor <;> grind
theorem within_x (x y w z : Int) (R : T4) : m_within_S (x, y, w, z) R = R.1 * ((x * x) + (y * y)) + R.2.1 * (x * w) + R.2.2.1 * (y * w) + R.2.2.2 * (w * w) := by
  unfold m_within_S
  dsimp only
  grind
theorem on_thru (P Q R : T4) : m_within_S P (m_thru_S P Q R) = 0 ∧ m_within_S Q (m_thru_S P Q R) = 0 := by
  have h := on_rows ((P.1 * P.1) + (P.2.1 * P.2.1)) (P.1 * P.2.2.1) (P.2.1 * P.2.2.1) (P.2.2.1 * P.2.2.1) ((Q.1 * Q.1) + (Q.2.1 * Q.2.1)) (Q.1 * Q.2.2.1) (Q.2.1 * Q.2.2.1) (Q.2.2.1 * Q.2.2.1) ((R.1 * R.1) + (R.2.1 * R.2.1)) (R.1 * R.2.2.1) (R.2.1 * R.2.2.1) (R.2.2.1 * R.2.2.1)
  have e1 := within_x P.1 P.2.1 P.2.2.1 P.2.2.2 (m_thru_S P Q R)
  have e2 := within_x Q.1 Q.2.1 Q.2.2.1 Q.2.2.2 (m_thru_S P Q R)
  exact ⟨e1.trans h.1, e2.trans h.2⟩
theorem gi_thru {P Q R : T4} (h1 : P.2.2.1 ≠ 0) (h2 : Q.2.2.1 ≠ 0) : gdO 2 (m_thru_O P Q R) := gd_if fun q => by
  have q : rowK P Q R ≠ 0 := q
  obtain ⟨o1, o2⟩ := on_thru P Q R
  have hK : (m_thru_S P Q R).1 = rowK P Q R := rfl
  have key : ∀ A : T4, A.2.2.1 ≠ 0 → m_within_S A (m_thru_S P Q R) = 0 → m_norm_S (m_polar_S A (m_thru_S P Q R)) = m_bulge_S (m_thru_S P Q R) * (A.2.2.1 * A.2.2.1) := fun A hA ho => by
    have e := ri_pn A.1 A.2.1 A.2.2.1 A.2.2.2 (m_thru_S P Q R).1 (m_thru_S P Q R).2.1 (m_thru_S P Q R).2.2.1 (m_thru_S P Q R).2.2.2
    have e : m_norm_S (m_polar_S A (m_thru_S P Q R)) = 4 * (m_thru_S P Q R).1 * m_within_S A (m_thru_S P Q R) + m_bulge_S (m_thru_S P Q R) * (A.2.2.1 * A.2.2.1) := e
    rw [ho, Int.mul_zero, Int.zero_add] at e
    exact e
  have k1 := key P h1 o1
  have k2 := key Q h2 o2
  have hn : 0 ≤ m_norm_S (m_polar_S P (m_thru_S P Q R)) := by
    have h1 : ∀ u : Int, 0 ≤ u * u := fun u => by
      rcases Int.le_total 0 u with q | q
      · exact Int.mul_nonneg q q
      · exact Int.mul_nonneg_of_nonpos_of_nonpos q q
    have a1 := h1 (m_polar_S P (m_thru_S P Q R)).1
    have a2 := h1 (m_polar_S P (m_thru_S P Q R)).2.1
    unfold m_norm_S
    omega
  refine gd_c q ?_
  rcases Int.lt_trichotomy (m_bulge_S (m_thru_S P Q R)) 0 with b | b | b
  · have := Int.mul_neg_of_neg_of_pos b (sq_pos h1)
    omega
  · exfalso
    rw [b, Int.zero_mul] at k1 k2
    obtain ⟨u1, v1⟩ := sq0 k1
    obtain ⟨u2, v2⟩ := sq0 k2
    have u1 : (2 * (m_thru_S P Q R).1) * P.1 + (m_thru_S P Q R).2.1 * P.2.2.1 = 0 := u1
    have v1 : (2 * (m_thru_S P Q R).1) * P.2.1 + (m_thru_S P Q R).2.2.1 * P.2.2.1 = 0 := v1
    have u2 : (2 * (m_thru_S P Q R).1) * Q.1 + (m_thru_S P Q R).2.1 * Q.2.2.1 = 0 := u2
    have v2 : (2 * (m_thru_S P Q R).1) * Q.2.1 + (m_thru_S P Q R).2.2.1 * Q.2.2.1 = 0 := v2
    have hd : m_det_S P Q R = 0 := by
      have hk : (m_thru_S P Q R).1 ≠ 0 := q
      generalize (m_thru_S P Q R).1 = k at u1 v1 u2 v2 hk
      generalize (m_thru_S P Q R).2.1 = a at u1 v1 u2 v2
      generalize (m_thru_S P Q R).2.2.1 = c at u1 v1 u2 v2
      have f1 : Q.1 * P.2.2.1 - P.1 * Q.2.2.1 = 0 := by
        have e : (2 * k) * (Q.1 * P.2.2.1 - P.1 * Q.2.2.1) = P.2.2.1 * ((2 * k) * Q.1 + a * Q.2.2.1) - Q.2.2.1 * ((2 * k) * P.1 + a * P.2.2.1) := by grind
        rw [u1, u2, Int.mul_zero, Int.mul_zero] at e
        exact (Int.mul_eq_zero.mp e).resolve_left (by omega)
      have f2 : Q.2.1 * P.2.2.1 - P.2.1 * Q.2.2.1 = 0 := by
        have e : (2 * k) * (Q.2.1 * P.2.2.1 - P.2.1 * Q.2.2.1) = P.2.2.1 * ((2 * k) * Q.2.1 + c * Q.2.2.1) - Q.2.2.1 * ((2 * k) * P.2.1 + c * P.2.2.1) := by grind
        rw [v1, v2, Int.mul_zero, Int.mul_zero] at e
        exact (Int.mul_eq_zero.mp e).resolve_left (by omega)
      obtain ⟨c1, c2, c3⟩ := away_cr h1 f1 f2
      have e : m_det_S P Q R = (P.2.1 * Q.2.2.1 - P.2.2.1 * Q.2.1) * R.1 + (P.2.2.1 * Q.1 - P.1 * Q.2.2.1) * R.2.1 + (P.1 * Q.2.1 - P.2.1 * Q.1) * R.2.2.1 := by
        unfold m_det_S
        grind
      rw [e, c1, c2, c3, Int.zero_mul, Int.zero_mul, Int.zero_mul]
      rfl
    rw [rows_det, hd, Int.mul_zero] at q
    exact q rfl
  · exact b
theorem hei_w (x y w z x2 y2 w2 z2 x3 y3 w3 z3 : Int) : (m_cross_S (m_upright_S (x, y, w, z) (m_cross_S (x2, y2, w2, z2) (x3, y3, w3, z3))) (m_upright_S (x2, y2, w2, z2) (m_cross_S (x, y, w, z) (x3, y3, w3, z3)))).2.2.1 = -(w * w2 * w3 * m_det_S (x, y, w, z) (x2, y2, w2, z2) (x3, y3, w3, z3)) := by
  unfold m_upright_S m_cross_S m_det_S
  dsimp only
  grind
theorem gi_hei {S : aS} {a b c : Int} (h1 : sTp S a.toNat 2 ≠ 0) (h2 : sTp S b.toNat 2 ≠ 0) (h3 : sTp S c.toNat 2 ≠ 0) : gdO 0 (m_t_heights_O S a b c) := gd_if fun q => by
  refine gd_w (by decide) rfl ?_
  have e := hei_w (sTp S a.toNat 0) (sTp S a.toNat 1) (sTp S a.toNat 2) (sTp S a.toNat 3) (sTp S b.toNat 0) (sTp S b.toNat 1) (sTp S b.toNat 2) (sTp S b.toNat 3) (sTp S c.toNat 0) (sTp S c.toNat 1) (sTp S c.toNat 2) (sTp S c.toNat 3)
  intro z
  have z2 := e.symm.trans z
  have q : m_det_S (tpR S a) (tpR S b) (tpR S c) ≠ 0 := q
  exact Int.mul_ne_zero (Int.mul_ne_zero (Int.mul_ne_zero h1 h2) h3) q (Int.neg_eq_zero.mp z2)
theorem gi_mid3 {S : aS} {a b c : Int} (h1 : sTp S a.toNat 2 ≠ 0) (h2 : sTp S b.toNat 2 ≠ 0) (h3 : sTp S c.toNat 2 ≠ 0) : gdO 0 (m_t1_O S a b c) := gd_w (by decide) rfl (Int.mul_ne_zero (Int.mul_ne_zero (by decide) h1) (Int.mul_ne_zero h2 h3))
theorem gi_moved {S : aS} {a b c : Int} (h1 : sTp S a.toNat 2 ≠ 0) (h2 : sTp S b.toNat 2 ≠ 0) (h3 : sTp S c.toNat 2 ≠ 0) : gdO 0 (m_t_moved_O S a b c) := gd_w (by decide) rfl (Int.mul_ne_zero h3 (Int.mul_ne_zero h1 h2))
theorem gi_turned {S : aS} {a c : Int} (h1 : sTp S a.toNat 2 ≠ 0) (h3 : sTp S c.toNat 2 ≠ 0) : gdO 0 (m_t_turned_O S a c) := gd_w (by decide) rfl (Int.mul_ne_zero h1 h3)
theorem gi_str {S : aS} {a b c : Int} (h1 : sTp S a.toNat 2 ≠ 0) (h3 : sTp S c.toNat 2 ≠ 0) (hd : (sNu S b.toNat).2 ≠ 0) : gdO 0 (m_t_str_O S a b c) := gd_w (by decide) rfl (Int.mul_ne_zero (Int.mul_ne_zero h1 h3) hd)
theorem gi_cen {S : aS} {a b c : Int} : gdO 0 (m_t3_O S a b c) := by
  by_cases q : rowK (tpR S a) (tpR S b) (tpR S c) = 0
  · have e : m_thru_O (tpR S a) (tpR S b) (tpR S c) = none := if_pos q
    rw [m_t3_no e]
    exact gd_none 0
  · have e : m_thru_O (tpR S a) (tpR S b) (tpR S c) = some (m_thru_S (tpR S a) (tpR S b) (tpR S c)) := if_neg q
    rw [m_t3_yes e]
    exact gd_w (by decide) rfl (Int.mul_ne_zero (by decide) q)
theorem gi_harm {S : aS} {a b c : Int} : gdO 0 (m_t5_O S a b c) := by
  have hC := harm_C (tpT S a) (tpT S b) (tpT S c)
  by_cases z : m_harm_C (t4 (tpT S a)) (t4 (tpT S b)) (t4 (tpT S c))
  · have e2 : m_t5_O S a b c = none := if_pos z
    rw [e2]
    exact gd_none 0
  · have e2 : m_t5_O S a b c = some (m_harm_S (t4 (tpT S a)) (t4 (tpT S b)) (t4 (tpT S c))) := if_neg z
    rw [e2]
    have z2 := fun y => z (hC.mpr y)
    have hpq : ¬((p_cross_S (tpT S a) (tpT S b)).1 = 0 ∧ (p_cross_S (tpT S a) (tpT S b)).2.1 = 0 ∧ (p_cross_S (tpT S a) (tpT S b)).2.2 = 0) := fun y => z2 (Or.inl y)
    have hd : p_dot_S (p_cross_S (tpT S a) (tpT S b)) (tpT S c) = 0 := Classical.byContradiction fun y => z2 (Or.inr (Or.inl y))
    have hqr : ¬((p_cross_S (tpT S b) (tpT S c)).1 = 0 ∧ (p_cross_S (tpT S b) (tpT S c)).2.1 = 0 ∧ (p_cross_S (tpT S b) (tpT S c)).2.2 = 0) := fun y => z2 (Or.inr (Or.inr (Or.inr y)))
    have e4 : (m_harm_S (t4 (tpT S a)) (t4 (tpT S b)) (t4 (tpT S c))).2.2.2 = 0 := by
      unfold m_harm_S
      split
      · rfl
      · split <;> rfl
    refine gd_p (by decide) e4 fun y => ?_
    have hx := harm_S (tpT S a) (tpT S b) (tpT S c)
    have hdd := dot_cr (tpT S a) (tpT S b)
    have y1 : (p_harm_S (tpT S a) (tpT S b) (tpT S c)).1 = 0 := by rw [hx]; exact y.1
    have y2 : (p_harm_S (tpT S a) (tpT S b) (tpT S c)).2.1 = 0 := by rw [hx]; exact y.2.1
    have y3 : (p_harm_S (tpT S a) (tpT S b) (tpT S c)).2.2 = 0 := by rw [hx]; exact y.2.2
    have eb := bra_lin (p_bra_S (tpT S c) (tpT S b) (p_cross_S (tpT S a) (tpT S b))) (p_bra_S (tpT S a) (tpT S c) (p_cross_S (tpT S a) (tpT S b))) (tpT S a) (tpT S b) (tpT S b) (p_cross_S (tpT S a) (tpT S b))
    rw [← harm_w] at eb
    have ez : p_bra_S (p_harm_S (tpT S a) (tpT S b) (tpT S c)) (tpT S b) (p_cross_S (tpT S a) (tpT S b)) = 0 := by
      unfold p_bra_S p_cross_S
      dsimp only
      rw [y1, y2, y3]
      split
      · split <;> grind
      · grind
    have e0 : p_bra_S (tpT S b) (tpT S b) (p_cross_S (tpT S a) (tpT S b)) = 0 := by
      have := bra_turn (tpT S b) (tpT S b) (p_cross_S (tpT S a) (tpT S b))
      omega
    rw [ez, e0, Int.mul_zero, Int.sub_zero] at eb
    have n1 : p_bra_S (tpT S a) (tpT S b) (p_cross_S (tpT S a) (tpT S b)) ≠ 0 := fun h => hpq ((bra_0 _ _ _ hdd.1 hdd.2 hpq).mp h)
    have n2 : p_bra_S (tpT S c) (tpT S b) (p_cross_S (tpT S a) (tpT S b)) ≠ 0 := fun h => hqr ((cr_turn _ _).mp ((bra_0 _ _ _ hd hdd.2 hpq).mp h))
    exact Int.mul_ne_zero n2 n1 eb.symm
