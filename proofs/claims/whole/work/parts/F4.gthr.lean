/-! three, measures, statements: the same on both sides -/
theorem thr_eq (P Q R : T4) : p_thr_S (t3f P) (t3f Q) (t3f R) = m_thru_S P Q R := Prod.ext (ri_thr_1 _ _ _ _ _ _ _ _ _ _ _ _) (Prod.ext (ri_thr_2 _ _ _ _ _ _ _ _ _ _ _ _) (Prod.ext (ri_thr_3 _ _ _ _ _ _ _ _ _ _ _ _) (ri_thr_4 _ _ _ _ _ _ _ _ _ _ _ _)))
theorem det_eq (P Q R : T4) : p_det_S (t3f P) (t3f Q) (t3f R) = m_det_S P Q R := ri_det _ _ _ _ _ _ _ _ _ _ _ _
abbrev rowK (P Q R : T4) : Int := m_rows_S (P.1 * P.2.2.1) (P.2.1 * P.2.2.1) (P.2.2.1 * P.2.2.1) (Q.1 * Q.2.2.1) (Q.2.1 * Q.2.2.1) (Q.2.2.1 * Q.2.2.1) (R.1 * R.2.2.1) (R.2.1 * R.2.2.1) (R.2.2.1 * R.2.2.1)
theorem rows_det (P Q R : T4) : rowK P Q R = P.2.2.1 * Q.2.2.1 * R.2.2.1 * m_det_S P Q R := ri_rows _ _ _ _ _ _ _ _ _ _ _ _
theorem rows_0 {P Q R : T4} (h1 : P.2.2.1 ≠ 0) (h2 : Q.2.2.1 ≠ 0) (h3 : R.2.2.1 ≠ 0) : rowK P Q R = 0 ↔ m_det_S P Q R = 0 := by
  rw [rows_det]
  constructor
  · intro h
    exact (Int.mul_eq_zero.mp h).resolve_left (Int.mul_ne_zero (Int.mul_ne_zero h1 h2) h3)
  · intro h
    rw [h, Int.mul_zero]
theorem thr_O {P Q R : T4} (h1 : P.2.2.1 ≠ 0) (h2 : Q.2.2.1 ≠ 0) (h3 : R.2.2.1 ≠ 0) : p_thr_O (t3f P) (t3f Q) (t3f R) = m_thru_O P Q R := by
  by_cases q : m_det_S P Q R = 0
  · have e1 : p_thr_O (t3f P) (t3f Q) (t3f R) = none := if_pos (Or.inr (Or.inr (Or.inr ((det_eq P Q R).trans q))))
    have e2 : m_thru_O P Q R = none := if_pos ((rows_0 h1 h2 h3).mpr q)
    rw [e1, e2]
  · have e1 : p_thr_O (t3f P) (t3f Q) (t3f R) = some (p_thr_S (t3f P) (t3f Q) (t3f R)) := if_neg (fun z => z.elim h1 (fun z => z.elim h2 (fun z => z.elim h3 (fun z => q ((det_eq P Q R).symm.trans z)))))
    have e2 : m_thru_O P Q R = some (m_thru_S P Q R) := if_neg (fun z => q ((rows_0 h1 h2 h3).mp z))
    rw [e1, e2, thr_eq]
theorem thr_far {P Q R : T3} (h : P.2.2 = 0 ∨ Q.2.2 = 0 ∨ R.2.2 = 0) : p_thr_O P Q R = none := if_pos (h.elim Or.inl (fun z => z.elim (fun y => Or.inr (Or.inl y)) (fun y => Or.inr (Or.inr (Or.inl y)))))
theorem g_three0 {S : aS} (a b e : Int) : (if isAS S 112 a ∧ isAS S 112 b ∧ isAS S 112 e then keepC S (p_thr_O (tpT S a) (tpT S b) (tpT S e)) else (-1, S)) = threeM S 2 a b e (m_t0_O S a b e) := by
  refine three_if as_p as_p as_p fun ha hb he => ?_
  by_cases q : sTp S a.toNat 2 = 0 ∨ sTp S b.toNat 2 = 0 ∨ sTp S e.toNat 2 = 0
  · rw [if_pos q, thr_far q]
    rfl
  · rw [if_neg q]
    have h1 : (tpR S a).2.2.1 ≠ 0 := fun h => q (Or.inl h)
    have h2 : (tpR S b).2.2.1 ≠ 0 := fun h => q (Or.inr (Or.inl h))
    have h3 : (tpR S e).2.2.1 ≠ 0 := fun h => q (Or.inr (Or.inr h))
    have e1 : p_thr_O (tpT S a) (tpT S b) (tpT S e) = m_t0_O S a b e := thr_O h1 h2 h3
    rw [e1]
    by_cases z : rowK (tpR S a) (tpR S b) (tpR S e) = 0
    · have e2 : m_t0_O S a b e = none := if_pos z
      rw [e2]
      rfl
    · have e2 : m_t0_O S a b e = some (m_thru_S (tpR S a) (tpR S b) (tpR S e)) := if_neg z
      rw [e2]
      exact keepCM (u := 1) (v := 1) (by decide) (by decide) z rfl rfl rfl rfl
theorem g_three1 {S : aS} (a b e : Int) : (if isAS S 112 a ∧ isAS S 112 b ∧ isAS S 112 e then keepP S 0 (p_mid3_O (tpT S a) (tpT S b) (tpT S e)) else (-1, S)) = threeM S 0 a b e (m_t1_O S a b e) := by
  refine three_if as_p as_p as_p fun ha hb he => ?_
  by_cases q : sTp S a.toNat 2 = 0 ∨ sTp S b.toNat 2 = 0 ∨ sTp S e.toNat 2 = 0
  · have e1 : p_mid3_O (tpT S a) (tpT S b) (tpT S e) = none := if_pos q
    rw [if_pos q, e1]
    rfl
  · have e1 : p_mid3_O (tpT S a) (tpT S b) (tpT S e) = some (p_mid3_S (tpT S a) (tpT S b) (tpT S e)) := if_neg q
    rw [if_neg q, e1]
    exact keepPM1 (by decide) rfl (ri_mid3_1 _ _ _ 0 _ _ _ 0 _ _ _ 0) (ri_mid3_2 _ _ _ 0 _ _ _ 0 _ _ _ 0) (ri_mid3_3 _ _ _ 0 _ _ _ 0 _ _ _ 0)
theorem g_three2 {S : aS} (a b e : Int) : (if isAS S 112 a ∧ isAS S 112 b ∧ isAS S 112 e then keepP S 0 (p_heights_O (tpT S a) (tpT S b) (tpT S e)) else (-1, S)) = threeM S 0 a b e (m_t_heights_O S a b e) := by
  refine three_if as_p as_p as_p fun ha hb he => ?_
  have ed : p_det_S (tpT S a) (tpT S b) (tpT S e) = m_det_S (tpR S a) (tpR S b) (tpR S e) := det_eq (tpR S a) (tpR S b) (tpR S e)
  by_cases q : sTp S a.toNat 2 = 0 ∨ sTp S b.toNat 2 = 0 ∨ sTp S e.toNat 2 = 0
  · have e1 : p_heights_O (tpT S a) (tpT S b) (tpT S e) = none := if_pos (q.elim Or.inl (fun z => z.elim (fun y => Or.inr (Or.inl y)) (fun y => Or.inr (Or.inr (Or.inl y)))))
    rw [if_pos q, e1]
    rfl
  · rw [if_neg q]
    by_cases z : m_det_S (tpR S a) (tpR S b) (tpR S e) = 0
    · have e1 : p_heights_O (tpT S a) (tpT S b) (tpT S e) = none := if_pos (Or.inr (Or.inr (Or.inr (ed.trans z))))
      have e2 : m_t_heights_O S a b e = none := if_pos z
      rw [e1, e2]
      rfl
    · have e1 : p_heights_O (tpT S a) (tpT S b) (tpT S e) = some (p_heights_S (tpT S a) (tpT S b) (tpT S e)) := if_neg (fun y => y.elim (fun x => q (Or.inl x)) (fun y => y.elim (fun x => q (Or.inr (Or.inl x))) (fun y => y.elim (fun x => q (Or.inr (Or.inr x))) (fun x => z (ed.symm.trans x)))))
      have e2 := show m_t_heights_O S a b e = some _ from if_neg z
      rw [e1, e2]
      exact keepPM (u := -1) (v := 1) (by decide) (by decide) (by decide) rfl ((ri_hei_1 _ _ _ _ _ _ _ _ _ _ _ _).trans (Int.one_mul _).symm) ((ri_hei_2 _ _ _ _ _ _ _ _ _ _ _ _).trans (Int.one_mul _).symm) ((ri_hei_3 _ _ _ _ _ _ _ _ _ _ _ _).trans (Int.one_mul _).symm)
theorem g_three3 {S : aS} (a b e : Int) : (if isAS S 112 a ∧ isAS S 112 b ∧ isAS S 112 e then keepP S 0 (p_cen_O (tpT S a) (tpT S b) (tpT S e)) else (-1, S)) = threeM S 0 a b e (m_t3_O S a b e) := by
  refine three_if as_p as_p as_p fun ha hb he => ?_
  by_cases q : sTp S a.toNat 2 = 0 ∨ sTp S b.toNat 2 = 0 ∨ sTp S e.toNat 2 = 0
  · have e1 : p_cen_O (tpT S a) (tpT S b) (tpT S e) = none := by
      unfold p_cen_O
      rw [thr_far q]
    rw [if_pos q, e1]
    rfl
  · rw [if_neg q]
    have h1 : (tpR S a).2.2.1 ≠ 0 := fun h => q (Or.inl h)
    have h2 : (tpR S b).2.2.1 ≠ 0 := fun h => q (Or.inr (Or.inl h))
    have h3 : (tpR S e).2.2.1 ≠ 0 := fun h => q (Or.inr (Or.inr h))
    have e1 : p_thr_O (tpT S a) (tpT S b) (tpT S e) = m_thru_O (tpR S a) (tpR S b) (tpR S e) := thr_O h1 h2 h3
    cases eC : m_thru_O (tpR S a) (tpR S b) (tpR S e) with
    | none =>
      have e2 : p_cen_O (tpT S a) (tpT S b) (tpT S e) = none := by
        unfold p_cen_O
        rw [e1, eC]
      rw [e2, m_t3_no eC]
      rfl
    | some C =>
      have e2 : p_cen_O (tpT S a) (tpT S b) (tpT S e) = some (p_midR_S C) := by
        unfold p_cen_O
        rw [e1, eC]
      rw [e2, m_t3_yes eC]
      exact keepPM1 (by decide) rfl rfl rfl rfl
theorem mid_low {S : aS} (a b : Int) : ∃ g : Int, g ≠ 0 ∧ p_middle_S (tpT S a) (tpT S b) = t3f (sc4 g (m_middle_S (tpR S a) (tpR S b))) ∧ (m_middle_S (tpR S a) (tpR S b)).2.2.2 = 0 := by
  obtain ⟨g, hg, e⟩ := low_ex (R := (((tpR S a).1 * (tpR S b).2.2.1) + ((tpR S b).1 * (tpR S a).2.2.1), ((tpR S a).2.1 * (tpR S b).2.2.1) + ((tpR S b).2.1 * (tpR S a).2.2.1), 2 * (tpR S a).2.2.1 * (tpR S b).2.2.1, 0)) rfl
  refine ⟨g, hg, ?_, m_low_4 rfl⟩
  have e2 := congrArg t3f e
  refine Eq.trans ?_ e2
  exact Prod.ext rfl (Prod.ext rfl (Int.mul_assoc _ _ _).symm)
theorem mid_sym (P Q : T3) : p_middle_S P Q = p_middle_S Q P := by
  unfold p_middle_S
  refine Prod.ext ?_ (Prod.ext ?_ ?_)
  · exact Int.add_comm _ _
  · exact Int.add_comm _ _
  · show 2 * (P.2.2 * Q.2.2) = 2 * (Q.2.2 * P.2.2)
    rw [Int.mul_comm P.2.2]
theorem g_three4 {S : aS} (a b e : Int) : (if isAS S 112 a ∧ isAS S 112 b ∧ isAS S 112 e then keepC S (p_nine_O (tpT S a) (tpT S b) (tpT S e)) else (-1, S)) = threeM S 2 a b e (m_t_nine_O S a b e) := by
  refine three_if as_p as_p as_p fun ha hb he => ?_
  by_cases q : sTp S a.toNat 2 = 0 ∨ sTp S b.toNat 2 = 0 ∨ sTp S e.toNat 2 = 0
  · rw [if_pos q]
    have e0 : p_nine_O (tpT S a) (tpT S b) (tpT S e) = none := by
      unfold p_nine_O
      by_cases q1 : (tpT S a).2.2 = 0 ∨ (tpT S b).2.2 = 0
      · have e1 : p_middle_O (tpT S a) (tpT S b) = none := if_pos q1
        rw [e1]
      · have e1 : p_middle_O (tpT S a) (tpT S b) = some (p_middle_S (tpT S a) (tpT S b)) := if_neg q1
        have q2 : (tpT S e).2.2 = 0 := q.elim (fun z => absurd (Or.inl z) q1) (fun z => z.elim (fun y => absurd (Or.inr y) q1) id)
        have e2 : p_middle_O (tpT S b) (tpT S e) = none := if_pos (Or.inr q2)
        rw [e1]
        show (match p_middle_O (tpT S b) (tpT S e) with
          | none => none
          | some B => match p_middle_O (tpT S e) (tpT S a) with
            | none => none
            | some C => p_thr_O (p_middle_S (tpT S a) (tpT S b)) B C) = none
        rw [e2]
    rw [e0]
    rfl
  · rw [if_neg q]
    have h1 : sTp S a.toNat 2 ≠ 0 := fun h => q (Or.inl h)
    have h2 : sTp S b.toNat 2 ≠ 0 := fun h => q (Or.inr (Or.inl h))
    have h3 : sTp S e.toNat 2 ≠ 0 := fun h => q (Or.inr (Or.inr h))
    have e1 : p_middle_O (tpT S a) (tpT S b) = some (p_middle_S (tpT S a) (tpT S b)) := if_neg (fun z => z.elim h1 h2)
    have e2 : p_middle_O (tpT S b) (tpT S e) = some (p_middle_S (tpT S b) (tpT S e)) := if_neg (fun z => z.elim h2 h3)
    have e3 : p_middle_O (tpT S e) (tpT S a) = some (p_middle_S (tpT S a) (tpT S e)) := by
      rw [mid_sym (tpT S a)]
      exact if_neg (fun z => z.elim h3 h1)
    have e0 : p_nine_O (tpT S a) (tpT S b) (tpT S e) = p_thr_O (p_middle_S (tpT S a) (tpT S b)) (p_middle_S (tpT S b) (tpT S e)) (p_middle_S (tpT S a) (tpT S e)) := by
      unfold p_nine_O
      rw [e1]
      show (match p_middle_O (tpT S b) (tpT S e) with
        | none => none
        | some B => match p_middle_O (tpT S e) (tpT S a) with
          | none => none
          | some C => p_thr_O (p_middle_S (tpT S a) (tpT S b)) B C) = _
      rw [e2]
      show (match p_middle_O (tpT S e) (tpT S a) with
          | none => none
          | some C => p_thr_O (p_middle_S (tpT S a) (tpT S b)) (p_middle_S (tpT S b) (tpT S e)) C) = _
      rw [e3]
    obtain ⟨g1, hg1, f1, -⟩ := mid_low (S := S) a b
    obtain ⟨g2, hg2, f2, -⟩ := mid_low (S := S) b e
    obtain ⟨g3, hg3, f3, -⟩ := mid_low (S := S) a e
    have w1 : (sc4 g1 (m_middle_S (tpR S a) (tpR S b))).2.2.1 ≠ 0 := by
      have := congrArg (fun q : T3 => q.2.2) f1
      intro h
      exact Int.mul_ne_zero (show (2 : Int) ≠ 0 by decide) (Int.mul_ne_zero h1 h2) (this.trans h)
    have w2 : (sc4 g2 (m_middle_S (tpR S b) (tpR S e))).2.2.1 ≠ 0 := by
      have := congrArg (fun q : T3 => q.2.2) f2
      intro h
      exact Int.mul_ne_zero (show (2 : Int) ≠ 0 by decide) (Int.mul_ne_zero h2 h3) (this.trans h)
    have w3 : (sc4 g3 (m_middle_S (tpR S a) (tpR S e))).2.2.1 ≠ 0 := by
      have := congrArg (fun q : T3 => q.2.2) f3
      intro h
      exact Int.mul_ne_zero (show (2 : Int) ≠ 0 by decide) (Int.mul_ne_zero h1 h3) (this.trans h)
    rw [e0, f1, f2, f3, thr_O w1 w2 w3]
    unfold m_t_nine_O
    have es := thru_sc g1 g2 g3 (m_middle_S (tpR S a) (tpR S b)) (m_middle_S (tpR S b) (tpR S e)) (m_middle_S (tpR S a) (tpR S e))
    have hG : (g1 * g1) * (g2 * g2) * (g3 * g3) ≠ 0 := Int.mul_ne_zero (Int.mul_ne_zero (Int.mul_ne_zero hg1 hg1) (Int.mul_ne_zero hg2 hg2)) (Int.mul_ne_zero hg3 hg3)
    generalize (g1 * g1) * (g2 * g2) * (g3 * g3) = G at es hG
    have er : rowK (sc4 g1 (m_middle_S (tpR S a) (tpR S b))) (sc4 g2 (m_middle_S (tpR S b) (tpR S e))) (sc4 g3 (m_middle_S (tpR S a) (tpR S e))) = G * rowK (m_middle_S (tpR S a) (tpR S b)) (m_middle_S (tpR S b) (tpR S e)) (m_middle_S (tpR S a) (tpR S e)) := congrArg (fun q : T4 => q.1) es
    by_cases z : rowK (m_middle_S (tpR S a) (tpR S b)) (m_middle_S (tpR S b) (tpR S e)) (m_middle_S (tpR S a) (tpR S e)) = 0
    · have k1 : m_thru_O (m_middle_S (tpR S a) (tpR S b)) (m_middle_S (tpR S b) (tpR S e)) (m_middle_S (tpR S a) (tpR S e)) = none := if_pos z
      have k2 : m_thru_O (sc4 g1 (m_middle_S (tpR S a) (tpR S b))) (sc4 g2 (m_middle_S (tpR S b) (tpR S e))) (sc4 g3 (m_middle_S (tpR S a) (tpR S e))) = none := if_pos (er.trans (by rw [z, Int.mul_zero]))
      rw [k1, k2]
      rfl
    · have k1 : m_thru_O (m_middle_S (tpR S a) (tpR S b)) (m_middle_S (tpR S b) (tpR S e)) (m_middle_S (tpR S a) (tpR S e)) = some (m_thru_S (m_middle_S (tpR S a) (tpR S b)) (m_middle_S (tpR S b) (tpR S e)) (m_middle_S (tpR S a) (tpR S e))) := if_neg z
      have k2 : m_thru_O (sc4 g1 (m_middle_S (tpR S a) (tpR S b))) (sc4 g2 (m_middle_S (tpR S b) (tpR S e))) (sc4 g3 (m_middle_S (tpR S a) (tpR S e))) = some (m_thru_S (sc4 g1 (m_middle_S (tpR S a) (tpR S b))) (sc4 g2 (m_middle_S (tpR S b) (tpR S e))) (sc4 g3 (m_middle_S (tpR S a) (tpR S e)))) := if_neg (fun y => (Int.mul_eq_zero.mp (er.symm.trans y)).elim hG z)
      rw [k1, k2, es]
      exact keepCM (u := 1) (v := G) (by decide) hG z (Int.one_mul _) (Int.one_mul _) (Int.one_mul _) (Int.one_mul _)
theorem cr_turn (P Q : T3) : ((p_cross_S P Q).1 = 0 ∧ (p_cross_S P Q).2.1 = 0 ∧ (p_cross_S P Q).2.2 = 0) ↔ ((p_cross_S Q P).1 = 0 ∧ (p_cross_S Q P).2.1 = 0 ∧ (p_cross_S Q P).2.2 = 0) := by
  have e1 : (p_cross_S Q P).1 = -(p_cross_S P Q).1 := by unfold p_cross_S; dsimp only; grind
  have e2 : (p_cross_S Q P).2.1 = -(p_cross_S P Q).2.1 := by unfold p_cross_S; dsimp only; grind
  have e3 : (p_cross_S Q P).2.2 = -(p_cross_S P Q).2.2 := by unfold p_cross_S; dsimp only; grind
  omega
theorem harm_C (P Q R : T3) : m_harm_C (t4 P) (t4 Q) (t4 R) ↔ (((p_cross_S P Q).1 = 0 ∧ (p_cross_S P Q).2.1 = 0 ∧ (p_cross_S P Q).2.2 = 0) ∨ ¬ p_dot_S (p_cross_S P Q) R = 0 ∨ ((p_cross_S P R).1 = 0 ∧ (p_cross_S P R).2.1 = 0 ∧ (p_cross_S P R).2.2 = 0) ∨ ((p_cross_S Q R).1 = 0 ∧ (p_cross_S Q R).2.1 = 0 ∧ (p_cross_S Q R).2.2 = 0)) := by
  have h := cr_turn Q R
  show (((p_cross_S P Q).1 = 0 ∧ (p_cross_S P Q).2.1 = 0 ∧ (p_cross_S P Q).2.2 = 0) ∨ ((p_cross_S P R).1 = 0 ∧ (p_cross_S P R).2.1 = 0 ∧ (p_cross_S P R).2.2 = 0) ∨ ((p_cross_S R Q).1 = 0 ∧ (p_cross_S R Q).2.1 = 0 ∧ (p_cross_S R Q).2.2 = 0) ∨ ¬ p_dot_S (p_cross_S P Q) R = 0) ↔ _
  rw [h]
  constructor
  · rintro (q | q | q | q)
    · exact Or.inl q
    · exact Or.inr (Or.inr (Or.inl q))
    · exact Or.inr (Or.inr (Or.inr q))
    · exact Or.inr (Or.inl q)
  · rintro (q | q | q | q)
    · exact Or.inl q
    · exact Or.inr (Or.inr (Or.inr q))
    · exact Or.inr (Or.inl q)
    · exact Or.inr (Or.inr (Or.inl q))
theorem harm_S (P Q R : T3) : p_harm_S P Q R = t3f (m_harm_S (t4 P) (t4 Q) (t4 R)) := by
  have e : m_harm_S (t4 P) (t4 Q) (t4 R) = if ¬ (p_cross_S P Q).1 = 0 then m_wei (p_cross_S R Q).1 (p_cross_S P R).1 (t4 P) (t4 Q) else if ¬ (p_cross_S P Q).2.1 = 0 then m_wei (p_cross_S R Q).2.1 (p_cross_S P R).2.1 (t4 P) (t4 Q) else m_wei (p_cross_S R Q).2.2 (p_cross_S P R).2.2 (t4 P) (t4 Q) := rfl
  rw [e]
  unfold p_harm_S p_bra_S
  by_cases q1 : (p_cross_S P Q).1 = 0
  · rw [if_pos q1, if_pos q1, if_neg (show ¬¬(p_cross_S P Q).1 = 0 from fun h => h q1)]
    by_cases q2 : (p_cross_S P Q).2.1 = 0
    · rw [if_pos q2, if_pos q2, if_neg (show ¬¬(p_cross_S P Q).2.1 = 0 from fun h => h q2)]
      rfl
    · rw [if_neg q2, if_neg q2, if_pos q2]
      rfl
  · rw [if_neg q1, if_neg q1, if_pos q1]
    rfl
theorem harm_S4 (P Q R : T4) (z1 z2 : Int) : m_harm_S (P.1, P.2.1, P.2.2.1, z1) (Q.1, Q.2.1, Q.2.2.1, z2) R = m_harm_S P Q R := rfl
theorem g_three5 {S : aS} (a b e : Int) : (if isAS S 112 a ∧ isAS S 112 b ∧ isAS S 112 e then keepP S 0 (p_harm_O (tpT S a) (tpT S b) (tpT S e)) else (-1, S)) = threeM S 0 a b e (m_t5_O S a b e) := by
  refine three_if as_p as_p as_p fun ha hb he => ?_
  by_cases q : sTp S a.toNat 2 = 0 ∨ sTp S b.toNat 2 = 0 ∨ sTp S e.toNat 2 = 0
  · have e1 : p_harm_O (tpT S a) (tpT S b) (tpT S e) = none := if_pos (q.elim Or.inl (fun z => z.elim (fun y => Or.inr (Or.inl y)) (fun y => Or.inr (Or.inr (Or.inl y)))))
    rw [if_pos q, e1]
    rfl
  · rw [if_neg q]
    have hC := harm_C (tpT S a) (tpT S b) (tpT S e)
    by_cases z : m_harm_C (t4 (tpT S a)) (t4 (tpT S b)) (t4 (tpT S e))
    · have e1 : p_harm_O (tpT S a) (tpT S b) (tpT S e) = none := if_pos (Or.inr (Or.inr (Or.inr (hC.mp z))))
      have e2 : m_t5_O S a b e = none := if_pos z
      rw [e1, e2]
      rfl
    · have e1 : p_harm_O (tpT S a) (tpT S b) (tpT S e) = some (p_harm_S (tpT S a) (tpT S b) (tpT S e)) := if_neg (fun y => y.elim (fun x => q (Or.inl x)) (fun y => y.elim (fun x => q (Or.inr (Or.inl x))) (fun y => y.elim (fun x => q (Or.inr (Or.inr x))) (fun x => z (hC.mpr x)))))
      have e2 : m_t5_O S a b e = some (m_harm_S (t4 (tpT S a)) (t4 (tpT S b)) (t4 (tpT S e))) := if_neg z
      rw [e1, e2, harm_S]
      refine keepPM1 (by decide) ?_ rfl rfl rfl
      unfold m_harm_S
      split
      · rfl
      · split <;> rfl
theorem g_three6 {S : aS} (a b e : Int) : (if isAS S 112 a ∧ isAS S 112 b ∧ isAS S 112 e then keepP S 0 (p_moved_O (tpT S a) (tpT S b) (tpT S e)) else (-1, S)) = threeM S 0 a b e (m_t_moved_O S a b e) := by
  refine three_if as_p as_p as_p fun ha hb he => ?_
  by_cases q : sTp S a.toNat 2 = 0 ∨ sTp S b.toNat 2 = 0 ∨ sTp S e.toNat 2 = 0
  · have e1 : p_moved_O (tpT S a) (tpT S b) (tpT S e) = none := if_pos q
    rw [if_pos q, e1]
    rfl
  · have e1 : p_moved_O (tpT S a) (tpT S b) (tpT S e) = some (p_moved_S (tpT S a) (tpT S b) (tpT S e)) := if_neg q
    rw [if_neg q, e1]
    exact keepPM1 (by decide) rfl (ri_moved_1 _ _ _ _ _ _ _ _ _) (ri_moved_2 _ _ _ _ _ _ _ _ _) (ri_moved_3 _ _ _ _ _ _ _ _ _)
theorem g_three7 {S : aS} (a b e : Int) : (if isAS S 112 a ∧ isAS S 116 b ∧ isAS S 112 e then keepP S 0 (p_turned_O (tpT S a) (tpT S e)) else (-1, S)) = three7M S a b e := by
  unfold three7M
  by_cases u : isAS S 112 a ∧ isAS S 116 b ∧ isAS S 112 e
  · rw [if_pos u, if_pos ⟨as_p.mp u.1, as_t.mp u.2.1, as_p.mp u.2.2⟩]
    by_cases q : sTp S a.toNat 2 = 0 ∨ sTp S e.toNat 2 = 0
    · have e1 : p_turned_O (tpT S a) (tpT S e) = none := if_pos q
      rw [if_pos q, e1]
      rfl
    · have e1 : p_turned_O (tpT S a) (tpT S e) = some (p_turned_S (tpT S a) (tpT S e)) := if_neg q
      rw [if_neg q, e1]
      exact keepPM1 (by decide) rfl rfl rfl rfl
  · rw [if_neg u, if_neg (fun x => u ⟨as_p.mpr x.1, as_t.mpr x.2.1, as_p.mpr x.2.2⟩)]
theorem g_three8 {S : aS} (a b e : Int) : (if isAS S 112 a ∧ isAS S 110 b ∧ isAS S 112 e then keepP S 0 (p_str_O (tpT S a) (tpT S e) (sNu S b.toNat).1 (sNu S b.toNat).2) else (-1, S)) = three8M S a b e := by
  unfold three8M
  by_cases u : isAS S 112 a ∧ isAS S 110 b ∧ isAS S 112 e
  · rw [if_pos u, if_pos ⟨as_p.mp u.1, as_n.mp u.2.1, as_p.mp u.2.2⟩]
    by_cases q : sTp S a.toNat 2 = 0 ∨ sTp S e.toNat 2 = 0
    · have e1 : p_str_O (tpT S a) (tpT S e) (sNu S b.toNat).1 (sNu S b.toNat).2 = none := if_pos q
      rw [if_pos q, e1]
      rfl
    · have e1 : p_str_O (tpT S a) (tpT S e) (sNu S b.toNat).1 (sNu S b.toNat).2 = some (p_str_S (tpT S a) (tpT S e) (sNu S b.toNat).1 (sNu S b.toNat).2) := if_neg q
      rw [if_neg q, e1]
      exact keepPM1 (by decide) rfl (ri_str_1 _ _ _ _ _ _ _ _) (ri_str_2 _ _ _ _ _ _ _ _) (ri_str_3 _ _ _ _ _ _ _ _)
  · rw [if_neg u, if_neg (fun x => u ⟨as_p.mpr x.1, as_n.mpr x.2.1, as_p.mpr x.2.2⟩)]
