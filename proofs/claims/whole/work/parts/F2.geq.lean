/-! steps: what one side keeps the other keeps -/
def lowP (R : T4) : Prop := R.2.2.2 = 0 ∧ m_low R = R ∧ ¬(R.1 = 0 ∧ R.2.1 = 0 ∧ R.2.2.1 = 0)
def lowC (R : T4) : Prop := m_lowR R = R ∧ 0 < R.1 ∧ 0 < m_bulge_S R
def OkL (S : aS) : Prop := ∀ t : Int, 0 ≤ t ∧ t < sT S → (sTs S t.toNat = 2 → lowC (tpR S t)) ∧ (sTs S t.toNat ≠ 2 → lowP (tpR S t))
theorem OkL.p {S : aS} (ok : OkL S) {t : Int} (h : isS S t 0) : lowP (tpR S t) := (ok t h.1).2 (by have := h.2; omega)
theorem OkL.l {S : aS} (ok : OkL S) {t : Int} (h : isS S t 1) : lowP (tpR S t) := (ok t h.1).2 (by have := h.2; omega)
theorem OkL.c {S : aS} (ok : OkL S) {t : Int} (h : isS S t 2) : lowC (tpR S t) := (ok t h.1).1 h.2
theorem as_n {S : aS} {t : Int} : isAS S 110 t ↔ (0 ≤ t ∧ t < sN S) := by unfold isAS; omega
theorem as_p {S : aS} {t : Int} : isAS S 112 t ↔ isS S t 0 := by unfold isAS isS; omega
theorem as_l {S : aS} {t : Int} : isAS S 108 t ↔ isS S t 1 := by unfold isAS isS; omega
theorem as_c {S : aS} {t : Int} : isAS S 99 t ↔ isS S t 2 := by unfold isAS isS; omega
theorem as_t {S : aS} {t : Int} : isAS S 116 t ↔ (0 ≤ t ∧ t < sT S) := by unfold isAS; omega
theorem as_0 {S : aS} {t : Int} : isAS S 45 t := by unfold isAS; omega
theorem step_if {S : aS} {p q : Prop} [Decidable p] [Decidable q] {sa sb s a b : Int} {O : Option T4} {X : Int × aS} (ha : p ↔ isS S a sa) (hb : q ↔ isS S b sb) (h : isS S a sa → isS S b sb → X = keepM S s O) : (if p ∧ q then X else (-1, S)) = stepM S sa sb s a b O := by
  unfold stepM
  by_cases u : p ∧ q
  · rw [if_pos u, if_pos ⟨ha.mp u.1, hb.mp u.2⟩]
    exact h (ha.mp u.1) (hb.mp u.2)
  · rw [if_neg u, if_neg (fun x => u ⟨ha.mpr x.1, hb.mpr x.2⟩)]
theorem three_if {S : aS} {p q r : Prop} [Decidable p] [Decidable q] [Decidable r] {s a b c : Int} {O : Option T4} {X : Int × aS} (ha : p ↔ isS S a 0) (hb : q ↔ isS S b 0) (hc : r ↔ isS S c 0) (h : isS S a 0 → isS S b 0 → isS S c 0 → X = keepM S s (if sTp S a.toNat 2 = 0 ∨ sTp S b.toNat 2 = 0 ∨ sTp S c.toNat 2 = 0 then none else O)) : (if p ∧ q ∧ r then X else (-1, S)) = threeM S s a b c O := by
  unfold threeM
  by_cases u : p ∧ q ∧ r
  · rw [if_pos u, if_pos ⟨ha.mp u.1, hb.mp u.2.1, hc.mp u.2.2⟩]
    exact h (ha.mp u.1) (hb.mp u.2.1) (hc.mp u.2.2)
  · rw [if_neg u, if_neg (fun x => u ⟨ha.mpr x.1, hb.mpr x.2.1, hc.mpr x.2.2⟩)]
/-- rows whose cross is nothing are the same -/
theorem cross_same {P Q : T4} (hP : lowP P) (hQ : lowP Q) (e1 : P.2.1 * Q.2.2.1 = P.2.2.1 * Q.2.1) (e2 : P.2.2.1 * Q.1 = P.1 * Q.2.2.1) (e3 : P.1 * Q.2.1 = P.2.1 * Q.1) : P = Q := by
  have key : m_low P = m_low Q := by
    by_cases q1 : Q.1 = 0
    · by_cases q2 : Q.2.1 = 0
      · have q3 : Q.2.2.1 ≠ 0 := fun h => hQ.2.2 ⟨q1, q2, h⟩
        have p3 : P.2.2.1 ≠ 0 := fun h => hP.2.2 (by
          rw [h, Int.zero_mul] at e1 e2
          exact ⟨(Int.mul_eq_zero.mp e2.symm).resolve_right q3, (Int.mul_eq_zero.mp e1).resolve_right q3, h⟩)
        exact m_low_prop (u := Q.2.2.1) (v := P.2.2.1) q3 p3 hP.1 hQ.1 (by rw [Int.mul_comm]; exact e2.symm) (by rw [Int.mul_comm]; exact e1) (Int.mul_comm _ _)
      · have p2 : P.2.1 ≠ 0 := fun h => hP.2.2 (by
          rw [h, Int.zero_mul] at e1 e3
          exact ⟨(Int.mul_eq_zero.mp e3).resolve_right q2, h, (Int.mul_eq_zero.mp e1.symm).resolve_right q2⟩)
        exact m_low_prop (u := Q.2.1) (v := P.2.1) q2 p2 hP.1 hQ.1 (by rw [Int.mul_comm]; exact e3) (Int.mul_comm _ _) (by rw [Int.mul_comm]; exact e1.symm)
    · have p1 : P.1 ≠ 0 := fun h => hP.2.2 (by
        rw [h, Int.zero_mul] at e2 e3
        exact ⟨h, (Int.mul_eq_zero.mp e3.symm).resolve_right q1, (Int.mul_eq_zero.mp e2).resolve_right q1⟩)
      exact m_low_prop (u := Q.1) (v := P.1) q1 p1 hP.1 hQ.1 (Int.mul_comm _ _) (by rw [Int.mul_comm]; exact e3.symm) (by rw [Int.mul_comm]; exact e2)
  exact hP.2.1.symm.trans (key.trans hQ.2.1)
abbrev eqT (S : aS) (a b : Int) : Prop := sTp S a.toNat 0 = sTp S b.toNat 0 ∧ sTp S a.toNat 1 = sTp S b.toNat 1 ∧ sTp S a.toNat 2 = sTp S b.toNat 2 ∧ sTp S a.toNat 3 = sTp S b.toNat 3
abbrev crT (S : aS) (a b : Int) : Prop := (p_cross_S (tpT S a) (tpT S b)).1 = 0 ∧ (p_cross_S (tpT S a) (tpT S b)).2.1 = 0 ∧ (p_cross_S (tpT S a) (tpT S b)).2.2 = 0
theorem crT_iff {S : aS} {a b : Int} (pa : lowP (tpR S a)) (pb : lowP (tpR S b)) : crT S a b ↔ eqT S a b := by
  constructor
  · rintro ⟨z1, z2, z3⟩
    have z1 : sTp S a.toNat 1 * sTp S b.toNat 2 - sTp S a.toNat 2 * sTp S b.toNat 1 = 0 := z1
    have z2 : sTp S a.toNat 2 * sTp S b.toNat 0 - sTp S a.toNat 0 * sTp S b.toNat 2 = 0 := z2
    have z3 : sTp S a.toNat 0 * sTp S b.toNat 1 - sTp S a.toNat 1 * sTp S b.toNat 0 = 0 := z3
    have e := cross_same pa pb (by show sTp S a.toNat 1 * sTp S b.toNat 2 = sTp S a.toNat 2 * sTp S b.toNat 1; omega) (by show sTp S a.toNat 2 * sTp S b.toNat 0 = sTp S a.toNat 0 * sTp S b.toNat 2; omega) (by show sTp S a.toNat 0 * sTp S b.toNat 1 = sTp S a.toNat 1 * sTp S b.toNat 0; omega)
    exact ⟨congrArg (fun r : T4 => r.1) e, congrArg (fun r : T4 => r.2.1) e, congrArg (fun r : T4 => r.2.2.1) e, congrArg (fun r : T4 => r.2.2.2) e⟩
  · rintro ⟨e0, e1, e2, -⟩
    refine ⟨?_, ?_, ?_⟩
    · show sTp S a.toNat 1 * sTp S b.toNat 2 - sTp S a.toNat 2 * sTp S b.toNat 1 = 0
      rw [e1, e2, Int.mul_comm]
      omega
    · show sTp S a.toNat 2 * sTp S b.toNat 0 - sTp S a.toNat 0 * sTp S b.toNat 2 = 0
      rw [e0, e2, Int.mul_comm]
      omega
    · show sTp S a.toNat 0 * sTp S b.toNat 1 - sTp S a.toNat 1 * sTp S b.toNat 0 = 0
      rw [e0, e1, Int.mul_comm]
      omega
theorem common_eq {S : aS} {s : Int} (hs : s ≠ 2) {a b : Int} (pa : lowP (tpR S a)) (pb : lowP (tpR S b)) : keepP S s (p_common_O (tpT S a) (tpT S b)) = keepM S s (m_s1_O S a b) := by
  by_cases q : eqT S a b
  · have e1 : p_common_O (tpT S a) (tpT S b) = none := if_pos ((crT_iff pa pb).mpr q)
    have e2 : m_s1_O S a b = none := if_pos q
    rw [e1, e2]
    rfl
  · have e1 : p_common_O (tpT S a) (tpT S b) = some (p_cross_S (tpT S a) (tpT S b)) := if_neg (fun z => q ((crT_iff pa pb).mp z))
    have e2 : m_s1_O S a b = some (m_cross_S (tpR S a) (tpR S b)) := if_neg q
    rw [e1, e2]
    exact keepPM1 hs rfl rfl rfl rfl
theorem g_step1 {S : aS} (ok : OkL S) (a b : Int) : (if isAS S 112 a ∧ isAS S 112 b then keepP S 1 (p_common_O (tpT S a) (tpT S b)) else (-1, S)) = stepM S 0 0 1 a b (m_s1_O S a b) := step_if as_p as_p fun ha hb => common_eq (by decide) (ok.p ha) (ok.p hb)
theorem g_step2 {S : aS} (ok : OkL S) (a b : Int) : (if isAS S 108 a ∧ isAS S 108 b then keepP S 0 (p_common_O (tpT S a) (tpT S b)) else (-1, S)) = stepM S 1 1 0 a b (m_s1_O S a b) := step_if as_l as_l fun ha hb => common_eq (by decide) (ok.l ha) (ok.l hb)
theorem g_step0 {S : aS} (a b : Int) : (if isAS S 110 a ∧ isAS S 110 b then keepP S 0 (some ((sNu S a.toNat).1 * (sNu S b.toNat).2, (sNu S b.toNat).1 * (sNu S a.toNat).2, (sNu S a.toNat).2 * (sNu S b.toNat).2)) else (-1, S)) = step0M S a b := by
  unfold step0M
  by_cases q : isAS S 110 a ∧ isAS S 110 b
  · rw [if_pos q, if_pos ⟨as_n.mp q.1, as_n.mp q.2⟩]
    exact keepPM1 (by decide) rfl rfl rfl rfl
  · rw [if_neg q, if_neg (fun x => q ⟨as_n.mpr x.1, as_n.mpr x.2⟩)]
theorem g_step3 {S : aS} (a b : Int) : (if isAS S 112 a ∧ isAS S 112 b then keepP S 0 (p_middle_O (tpT S a) (tpT S b)) else (-1, S)) = stepM S 0 0 0 a b (m_s3_O S a b) := by
  refine step_if as_p as_p fun ha hb => ?_
  by_cases q : sTp S a.toNat 2 = 0 ∨ sTp S b.toNat 2 = 0
  · have e1 : p_middle_O (tpT S a) (tpT S b) = none := if_pos q
    have e2 : m_s3_O S a b = none := if_pos q
    rw [e1, e2]
    rfl
  · have e1 : p_middle_O (tpT S a) (tpT S b) = some (p_middle_S (tpT S a) (tpT S b)) := if_neg q
    have e2 := show m_s3_O S a b = some _ from if_neg q
    rw [e1, e2]
    exact keepPM1 (by decide) rfl rfl rfl (Int.mul_assoc _ _ _).symm
theorem g_step4 {S : aS} (a b : Int) : (if isAS S 112 a ∧ isAS S 108 b then keepP S 0 (p_foot_O (tpT S a) (tpT S b)) else (-1, S)) = stepM S 0 1 0 a b (m_s4_O S a b) := by
  refine step_if as_p as_l fun ha hb => ?_
  by_cases q : sTp S a.toNat 2 = 0 ∨ (sTp S b.toNat 0 = 0 ∧ sTp S b.toNat 1 = 0)
  · have e1 : p_foot_O (tpT S a) (tpT S b) = none := if_pos q
    have e2 : m_s4_O S a b = none := if_pos q
    rw [e1, e2]
    rfl
  · have e1 : p_foot_O (tpT S a) (tpT S b) = some (p_foot_S (tpT S a) (tpT S b)) := if_neg q
    have e2 : m_s4_O S a b = some (m_foot1_S (tpR S a) (tpR S b)) := if_neg q
    rw [e1, e2]
    exact keepPM1 (by decide) rfl (ri_foot_1 _ _ _ _ _ _ _ _) (ri_foot_2 _ _ _ _ _ _ _ _) (ri_foot_3 _ _ _ _ _ _ _ _)
theorem g_step5 {S : aS} (a b : Int) : (if isAS S 112 a ∧ isAS S 108 b then keepP S 1 (p_along_O (tpT S a) (tpT S b)) else (-1, S)) = stepM S 0 1 1 a b (m_s5_O S a b) := by
  refine step_if as_p as_l fun ha hb => ?_
  by_cases q : sTp S b.toNat 0 = 0 ∧ sTp S b.toNat 1 = 0
  · have e1 : p_along_O (tpT S a) (tpT S b) = none := if_pos q
    have e2 : m_s5_O S a b = none := if_pos (Or.inl q)
    rw [e1, e2]
    rfl
  · have e1 : p_along_O (tpT S a) (tpT S b) = p_common_O (tpT S a) ((tpT S b).2.1, -(tpT S b).1, 0) := if_neg q
    rw [e1]
    by_cases z : (m_cross_S (tpR S a) ((tpR S b).2.1, -(tpR S b).1, 0, 0)).1 = 0 ∧ (m_cross_S (tpR S a) ((tpR S b).2.1, -(tpR S b).1, 0, 0)).2.1 = 0 ∧ (m_cross_S (tpR S a) ((tpR S b).2.1, -(tpR S b).1, 0, 0)).2.2.1 = 0
    · have e1 : p_common_O (tpT S a) ((tpT S b).2.1, -(tpT S b).1, 0) = none := if_pos z
      have e2 : m_s5_O S a b = none := if_pos (Or.inr z)
      rw [e1, e2]
      rfl
    · have e1 : p_common_O (tpT S a) ((tpT S b).2.1, -(tpT S b).1, 0) = some (p_cross_S (tpT S a) ((tpT S b).2.1, -(tpT S b).1, 0)) := if_neg z
      have e2 : m_s5_O S a b = some (m_cross_S (tpR S a) ((tpR S b).2.1, -(tpR S b).1, 0, 0)) := if_neg (fun x => x.elim q z)
      rw [e1, e2]
      exact keepPM1 (by decide) rfl rfl rfl rfl
theorem g_step6 {S : aS} (a b : Int) : (if isAS S 112 a ∧ isAS S 108 b then keepP S 1 (p_across_O (tpT S a) (tpT S b)) else (-1, S)) = stepM S 0 1 1 a b (m_s6_O S a b) := by
  refine step_if as_p as_l fun ha hb => ?_
  by_cases q : sTp S b.toNat 0 = 0 ∧ sTp S b.toNat 1 = 0
  · have e1 : p_across_O (tpT S a) (tpT S b) = none := if_pos q
    have e2 : m_s6_O S a b = none := if_pos (Or.inl q)
    rw [e1, e2]
    rfl
  · have e1 : p_across_O (tpT S a) (tpT S b) = p_common_O (tpT S a) (p_farSq_S (tpT S b)) := if_neg q
    rw [e1]
    by_cases z : (m_upright_S (tpR S a) (tpR S b)).1 = 0 ∧ (m_upright_S (tpR S a) (tpR S b)).2.1 = 0 ∧ (m_upright_S (tpR S a) (tpR S b)).2.2.1 = 0
    · have e1 : p_common_O (tpT S a) (p_farSq_S (tpT S b)) = none := if_pos z
      have e2 : m_s6_O S a b = none := if_pos (Or.inr z)
      rw [e1, e2]
      rfl
    · have e1 : p_common_O (tpT S a) (p_farSq_S (tpT S b)) = some (p_cross_S (tpT S a) (p_farSq_S (tpT S b))) := if_neg z
      have e2 : m_s6_O S a b = some (m_upright_S (tpR S a) (tpR S b)) := if_neg (fun x => x.elim q z)
      rw [e1, e2]
      exact keepPM1 (by decide) rfl rfl rfl rfl
theorem g_step7 {S : aS} (a b : Int) : (if isAS S 112 a ∧ isAS S 108 b then keepP S 0 (p_mirr_O (tpT S a) (tpT S b)) else (-1, S)) = stepM S 0 1 0 a b (m_s7_O S a b) := by
  refine step_if as_p as_l fun ha hb => ?_
  by_cases q : sTp S a.toNat 2 = 0 ∨ (sTp S b.toNat 0 = 0 ∧ sTp S b.toNat 1 = 0)
  · have e1 : p_foot_O (tpT S a) (tpT S b) = none := if_pos q
    have e1 : p_mirr_O (tpT S a) (tpT S b) = none := by unfold p_mirr_O; rw [e1]
    have e2 : m_s7_O S a b = none := if_pos q
    rw [e1, e2]
    rfl
  · have e1 : p_foot_O (tpT S a) (tpT S b) = some (p_foot_S (tpT S a) (tpT S b)) := if_neg q
    have e1 : p_mirr_O (tpT S a) (tpT S b) = some (p_mirr_S (tpT S a) (p_foot_S (tpT S a) (tpT S b))) := by unfold p_mirr_O; rw [e1]
    have e2 : m_s7_O S a b = some (m_foot2_S (tpR S a) (tpR S b)) := if_neg q
    rw [e1, e2]
    exact keepPM (u := 1) (v := sTp S a.toNat 2) (by decide) (by decide) (fun h => q (Or.inl h)) rfl ((Int.one_mul _).trans (ri_mirr_1 _ _ _ _ _ _ _ _)) ((Int.one_mul _).trans (ri_mirr_2 _ _ _ _ _ _ _ _)) ((Int.one_mul _).trans (ri_mirr_3 _ _ _ _ _ _ _ _))
theorem sq0 {u v : Int} (h : u * u + v * v = 0) : u = 0 ∧ v = 0 := by
  have hu : 0 ≤ u * u := by
    rcases Int.le_total 0 u with q | q
    · exact Int.mul_nonneg q q
    · exact Int.mul_nonneg_of_nonpos_of_nonpos q q
  have hv : 0 ≤ v * v := by
    rcases Int.le_total 0 v with q | q
    · exact Int.mul_nonneg q q
    · exact Int.mul_nonneg_of_nonpos_of_nonpos q q
  exact ⟨(Int.mul_eq_zero.mp (show u * u = 0 by omega)).elim id id, (Int.mul_eq_zero.mp (show v * v = 0 by omega)).elim id id⟩
theorem inv_c (x y w k a b c : Int) (hw : w ≠ 0) : ((p_cross_S (x, y, w) (p_midR_S (k, a, b, c))).1 = 0 ∧ (p_cross_S (x, y, w) (p_midR_S (k, a, b, c))).2.1 = 0 ∧ (p_cross_S (x, y, w) (p_midR_S (k, a, b, c))).2.2 = 0) ↔ ((((2 * k * x) + (a * w)) * ((2 * k * x) + (a * w))) + (((2 * k * y) + (b * w)) * ((2 * k * y) + (b * w)))) = 0 := by
  unfold p_cross_S p_midR_S
  dsimp only
  constructor
  · rintro ⟨z1, z2, -⟩
    have u1 : (2 * k * x) + (a * w) = 0 := by grind
    have v1 : (2 * k * y) + (b * w) = 0 := by grind
    rw [u1, v1]
    rfl
  · intro z
    obtain ⟨u1, v1⟩ := sq0 z
    refine ⟨by grind, by grind, ?_⟩
    have e : w * (x * -b - y * -a) = 0 := by
      have p1 : w * (x * -b) = -(x * (b * w)) := by grind
      have p2 : w * (y * -a) = -(y * (a * w)) := by grind
      have p3 : b * w = -(2 * k * y) := by omega
      have p4 : a * w = -(2 * k * x) := by omega
      rw [Int.mul_sub, p1, p2, p3, p4]
      grind
    exact (Int.mul_eq_zero.mp e).resolve_left hw
theorem g_step8 {S : aS} (ok : OkL S) (a b : Int) : (if isAS S 112 a ∧ isAS S 99 b then keepP S 0 (p_inv_O (tpT S a) (tpR S b)) else (-1, S)) = stepM S 0 2 0 a b (m_s8_O S a b) := by
  refine step_if as_p as_c fun ha hb => ?_
  have hk := (ok.c hb).2.1
  have hk : 0 < sTp S b.toNat 0 := hk
  by_cases qw : sTp S a.toNat 2 = 0
  · have e1 : p_inv_O (tpT S a) (tpR S b) = none := if_pos (Or.inl qw)
    have e2 : m_s8_O S a b = none := if_pos (Or.inl qw)
    rw [e1, e2]
    rfl
  · have hc := inv_c (sTp S a.toNat 0) (sTp S a.toNat 1) (sTp S a.toNat 2) (sTp S b.toNat 0) (sTp S b.toNat 1) (sTp S b.toNat 2) (sTp S b.toNat 3) qw
    by_cases z : (((2 * sTp S b.toNat 0 * sTp S a.toNat 0) + (sTp S b.toNat 1 * sTp S a.toNat 2)) * ((2 * sTp S b.toNat 0 * sTp S a.toNat 0) + (sTp S b.toNat 1 * sTp S a.toNat 2))) + (((2 * sTp S b.toNat 0 * sTp S a.toNat 1) + (sTp S b.toNat 2 * sTp S a.toNat 2)) * ((2 * sTp S b.toNat 0 * sTp S a.toNat 1) + (sTp S b.toNat 2 * sTp S a.toNat 2))) = 0
    · have e1 : p_inv_O (tpT S a) (tpR S b) = none := if_pos (Or.inr (hc.mpr z))
      have e2 : m_s8_O S a b = none := if_pos (Or.inr z)
      rw [e1, e2]
      rfl
    · have e1 : p_inv_O (tpT S a) (tpR S b) = some (p_inv_S (tpT S a) (tpR S b)) := if_neg (fun x => x.elim qw (fun y => z (hc.mp y)))
      have e2 := show m_s8_O S a b = some _ from if_neg (fun x => x.elim qw z)
      rw [e1, e2]
      exact keepPM (u := -(2 * sTp S b.toNat 0)) (v := 1) (by decide) (by omega) (by decide) rfl ((ri_inv_1 _ _ _ _ _ _ _).trans (Int.one_mul _).symm) ((ri_inv_2 _ _ _ _ _ _ _).trans (Int.one_mul _).symm) ((ri_inv_3 _ _ _ _ _ _ _).trans (Int.one_mul _).symm)
theorem g_step9 {S : aS} (a b : Int) : (if isAS S 112 a ∧ isAS S 99 b then keepP S 1 (some (p_polar_S (tpT S a) (tpR S b))) else (-1, S)) = stepM S 0 2 1 a b (m_s9_O S a b) := step_if as_p as_c fun ha hb => keepPM1 (by decide) rfl rfl rfl rfl
theorem g_step10 {S : aS} (a b : Int) : (if isAS S 108 a ∧ isAS S 99 b then keepP S 0 (some (p_pole_S (tpT S a) (tpR S b))) else (-1, S)) = stepM S 1 2 0 a b (m_s10_O S a b) := step_if as_l as_c fun ha hb => keepPM1 (by decide) rfl (ri_pole_1 _ _ _ _ _ _ _ _) (ri_pole_2 _ _ _ _ _ _ _ _) (ri_pole_3 _ _ _ _ _ _ _ _)
theorem pow_c (S : aS) (a b : Int) : ((m_powers_S (tpR S a) (tpR S b)).1 = 0 ∧ (m_powers_S (tpR S a) (tpR S b)).2.1 = 0) ↔ ((tpR S b).1 * (tpR S a).2.1 - (tpR S a).1 * (tpR S b).2.1 = 0 ∧ (tpR S b).1 * (tpR S a).2.2.1 - (tpR S a).1 * (tpR S b).2.2.1 = 0) := by
  have e1 : (m_powers_S (tpR S a) (tpR S b)).1 = (tpR S b).1 * (tpR S a).2.1 - (tpR S a).1 * (tpR S b).2.1 := (ri_pow_1 _ _ _ _ _ _ _ _).symm
  have e2 : (m_powers_S (tpR S a) (tpR S b)).2.1 = (tpR S b).1 * (tpR S a).2.2.1 - (tpR S a).1 * (tpR S b).2.2.1 := (ri_pow_2 _ _ _ _ _ _ _ _).symm
  rw [e1, e2]
theorem g_step11 {S : aS} (a b : Int) : (if isAS S 99 a ∧ isAS S 99 b then keepP S 1 (p_power_O (tpR S a) (tpR S b)) else (-1, S)) = stepM S 2 2 1 a b (m_s11_O S a b) := by
  refine step_if as_c as_c fun ha hb => ?_
  by_cases q : (m_powers_S (tpR S a) (tpR S b)).1 = 0 ∧ (m_powers_S (tpR S a) (tpR S b)).2.1 = 0
  · have e1 : p_power_O (tpR S a) (tpR S b) = none := if_pos ((pow_c S a b).mp q)
    have e2 : m_s11_O S a b = none := if_pos q
    rw [e1, e2]
    rfl
  · have e1 : p_power_O (tpR S a) (tpR S b) = some (p_power_S (tpR S a) (tpR S b)) := if_neg (fun z => q ((pow_c S a b).mpr z))
    have e2 : m_s11_O S a b = some (m_powers_S (tpR S a) (tpR S b)) := if_neg q
    rw [e1, e2]
    exact keepPM1 (by decide) rfl (ri_pow_1 _ _ _ _ _ _ _ _) (ri_pow_2 _ _ _ _ _ _ _ _) (ri_pow_3 _ _ _ _ _ _ _ _)
theorem g_step12 {S : aS} (ok : OkL S) (a b : Int) : (if isAS S 112 a ∧ isAS S 112 b then keepC S (p_around_O (tpT S a) (tpT S b)) else (-1, S)) = stepM S 0 0 2 a b (m_s12_O S a b) := by
  refine step_if as_p as_p fun ha hb => ?_
  have hc := crT_iff (ok.p ha) (ok.p hb)
  by_cases q : sTp S a.toNat 2 = 0 ∨ sTp S b.toNat 2 = 0 ∨ eqT S a b
  · have e1 : p_around_O (tpT S a) (tpT S b) = none := if_pos (q.imp id (fun z => z.imp id hc.mpr))
    have e2 : m_s12_O S a b = none := if_pos q
    rw [e1, e2]
    rfl
  · have e1 : p_around_O (tpT S a) (tpT S b) = some (p_around_S (tpT S a) (tpT S b)) := if_neg (fun x => q (x.imp id (fun z => z.imp id hc.mp)))
    have e2 : m_s12_O S a b = some (m_around_S (tpR S a) (tpR S b)) := if_neg q
    have h1 : sTp S a.toNat 2 ≠ 0 := fun h => q (Or.inl h)
    have h2 : sTp S b.toNat 2 ≠ 0 := fun h => q (Or.inr (Or.inl h))
    rw [e1, e2]
    refine keepCM (u := sTp S a.toNat 2) (v := 1) h1 (by decide) ?_ ((ri_around_1 _ _ _ _ _ _ _ _).trans (Int.one_mul _).symm) ((ri_around_2 _ _ _ _ _ _ _ _).trans (Int.one_mul _).symm) ((ri_around_3 _ _ _ _ _ _ _ _).trans (Int.one_mul _).symm) ((ri_around_4 _ _ _ _ _ _ _ _).trans (Int.one_mul _).symm)
    exact Int.mul_ne_zero (Int.mul_ne_zero h1 h1) (Int.mul_ne_zero h2 h2)
theorem g_step13 {S : aS} (ok : OkL S) (a b : Int) : (if isAS S 112 a ∧ isAS S 112 b then keepC S (p_over_O (tpT S a) (tpT S b)) else (-1, S)) = stepM S 0 0 2 a b (m_s13_O S a b) := by
  refine step_if as_p as_p fun ha hb => ?_
  have hc := crT_iff (ok.p ha) (ok.p hb)
  by_cases q : sTp S a.toNat 2 = 0 ∨ sTp S b.toNat 2 = 0 ∨ eqT S a b
  · have e1 : p_over_O (tpT S a) (tpT S b) = none := if_pos (q.imp id (fun z => z.imp id hc.mpr))
    have e2 : m_s13_O S a b = none := if_pos q
    rw [e1, e2]
    rfl
  · have e1 : p_over_O (tpT S a) (tpT S b) = some (p_over_S (tpT S a) (tpT S b)) := if_neg (fun x => q (x.imp id (fun z => z.imp id hc.mp)))
    have e2 := show m_s13_O S a b = some _ from if_neg q
    have h1 : sTp S a.toNat 2 ≠ 0 := fun h => q (Or.inl h)
    have h2 : sTp S b.toNat 2 ≠ 0 := fun h => q (Or.inr (Or.inl h))
    rw [e1, e2]
    exact keepCM (u := 1) (v := 1) (by decide) (by decide) (Int.mul_ne_zero h1 h2) rfl rfl rfl rfl
