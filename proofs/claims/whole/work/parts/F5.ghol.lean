/-! measures and statements: the same on both sides: printed by wip/whole/f5.py -/
theorem lowF_1 {n d : Int} (h : Int.gcd n d = 1) : lowF n d = if d < 0 then (-n, -d) else (n, d) := by
  unfold lowF
  rw [h]
  show (if d < 0 then (-(n.tdiv 1), -(d.tdiv 1)) else (n.tdiv 1, d.tdiv 1)) = _
  rw [Int.tdiv_one, Int.tdiv_one]
theorem gcF_1 {U D : Int} (hD : D ≠ 0) : Int.gcd (U.tdiv (gcF U D)) (D.tdiv (gcF U D)) = 1 ∧ D.tdiv (gcF U D) ≠ 0 := by
  have hg : (0 : Int) < gcF U D := ed_low hD
  have d1 : gcF U D ∣ U := Int.gcd_dvd_left _ _
  have d2 : gcF U D ∣ D := Int.gcd_dvd_right _ _
  have e1 : U.tdiv (gcF U D) = U / gcF U D := Int.tdiv_eq_ediv_of_dvd d1
  have e2 : D.tdiv (gcF U D) = D / gcF U D := Int.tdiv_eq_ediv_of_dvd d2
  refine ⟨?_, fun h => ?_⟩
  · rw [e1, e2]
    refine Int.gcd_ediv_gcd_ediv_gcd ?_
    unfold gcF at hg
    omega
  · have := Int.mul_tdiv_cancel' d2
    rw [h, Int.mul_zero] at this
    exact hD this.symm
theorem keepFG {S : aS} {U D : Int} (hD : D ≠ 0) : keepF S U D = keepG S U D := by
  have hg : (0 : Int) < gcF U D := ed_low hD
  obtain ⟨h1, h0⟩ := gcF_1 (U := U) hD
  have q1 : quo U ((Int.gcd U D : Nat) : Int) = U.tdiv (gcF U D) := by
    show quo U (gcF U D) = _
    unfold quo
    rw [if_neg (by omega)]
  have q2 : quo D ((Int.gcd U D : Nat) : Int) = D.tdiv (gcF U D) := by
    show quo D (gcF U D) = _
    unfold quo
    rw [if_neg (by omega)]
  have eg : greatF U D = if D.tdiv (gcF U D) < 0 then (-(U.tdiv (gcF U D)), -(D.tdiv (gcF U D))) else (U.tdiv (gcF U D), D.tdiv (gcF U D)) := rfl
  have el := lowF_1 h1
  unfold keepF keepG
  rw [q1, q2, eg, ← el]
  generalize U.tdiv (gcF U D) = n at h1 h0 el ⊢
  generalize D.tdiv (gcF U D) = d at h1 h0 el ⊢
  have ec : ((-1073741824 ≤ (lowF n d).1 ∧ (lowF n d).1 ≤ 1073741824) ∧ (-1073741824 ≤ (lowF n d).2 ∧ (lowF n d).2 ≤ 1073741824)) ↔ ((-1073741824 ≤ n ∧ n ≤ 1073741824) ∧ (-1073741824 ≤ d ∧ d ≤ 1073741824)) := by
    rw [el]
    split <;> simp only [] <;> omega
  by_cases q : (-1073741824 ≤ n ∧ n ≤ 1073741824) ∧ (-1073741824 ≤ d ∧ d ≤ 1073741824)
  · rw [if_pos q, if_pos (ec.mpr q)]
    unfold spF
    have hb : badF n d = false := by
      cases hb : badF n d with
      | false => rfl
      | true =>
        have := (badF_iff _ _).mp hb
        omega
    rw [hb, if_neg (by decide)]
  · rw [if_neg q, if_neg (fun z => q (ec.mp z))]
theorem keepFG2 {S : aS} {U D U2 D2 : Int} (hD : D ≠ 0) (e1 : U = U2) (e2 : D = D2) : keepF S U D = keepG S U2 D2 := by
  subst e1 e2
  exact keepFG hD
theorem av_p {S : aS} {t : Int} : isAS S 112 t ↔ isV S t 0 := by unfold isAS isV; omega
theorem av_l {S : aS} {t : Int} : isAS S 108 t ↔ isV S t 1 := by unfold isAS isV; omega
theorem av_c {S : aS} {t : Int} : isAS S 99 t ↔ isV S t 2 := by unfold isAS isV; omega
theorem av_t {S : aS} {t : Int} : isAS S 116 t ↔ isV S t (-1) := by unfold isAS isV; omega
theorem meas_if {S : aS} {p q r : Prop} [Decidable p] [Decidable q] [Decidable r] {sa sb sc a b c : Int} {O : Option (Int × Int)} {X : Int × aS} (ha : p ↔ isV S a sa) (hb : q ↔ isV S b sb) (hc : r ↔ isV S c sc) (h : isV S a sa → isV S b sb → isV S c sc → X = keepGO S O) : (if p ∧ q ∧ r then X else (-1, S)) = measM S sa sb sc a b c O := by
  unfold measM
  by_cases u : p ∧ q ∧ r
  · rw [if_pos u, if_pos ⟨ha.mp u.1, hb.mp u.2.1, hc.mp u.2.2⟩]
    exact h (ha.mp u.1) (hb.mp u.2.1) (hc.mp u.2.2)
  · rw [if_neg u, if_neg (fun x => u ⟨ha.mpr x.1, hb.mpr x.2.1, hc.mpr x.2.2⟩)]
theorem eq0 {x y : Int} (h : x = y) : x = 0 ↔ y = 0 := by rw [h]
theorem g_meas0 {S : aS} (ok : OkL S) (a b e : Int) : (if isAS S 112 a ∧ isAS S 116 b ∧ isAS S 116 e then keepMQ S (if (tpT S a).2.2 = 0 then none else some (tpT S a)) else (-1, S)) = measM S 0 (-1) (-1) a b e (m_q0_O S a b e) := by
  refine meas_if av_p av_t av_t fun ha hb he => ?_
  by_cases q : sTp S a.toNat 2 = 0
  · have e1 : ((if (tpT S a).2.2 = 0 then none else some (tpT S a)) : Option T3) = none := if_pos q
    have e2 : m_q0_O S a b e = none := if_pos q
    rw [e1, e2]
    rfl
  · have e1 := show ((if (tpT S a).2.2 = 0 then none else some (tpT S a)) : Option T3) = some _ from if_neg q
    have e2 := show m_q0_O S a b e = some _ from if_neg q
    rw [e1, e2]
    exact keepFG q
theorem g_meas1 {S : aS} (ok : OkL S) (a b e : Int) : (if isAS S 112 a ∧ isAS S 116 b ∧ isAS S 116 e then keepMQ S (if (tpT S a).2.2 = 0 then none else some ((tpT S a).2.1, (tpT S a).2.1, (tpT S a).2.2)) else (-1, S)) = measM S 0 (-1) (-1) a b e (m_q1_O S a b e) := by
  refine meas_if av_p av_t av_t fun ha hb he => ?_
  by_cases q : sTp S a.toNat 2 = 0
  · have e1 : ((if (tpT S a).2.2 = 0 then none else some ((tpT S a).2.1, (tpT S a).2.1, (tpT S a).2.2)) : Option T3) = none := if_pos q
    have e2 : m_q1_O S a b e = none := if_pos q
    rw [e1, e2]
    rfl
  · have e1 := show ((if (tpT S a).2.2 = 0 then none else some ((tpT S a).2.1, (tpT S a).2.1, (tpT S a).2.2)) : Option T3) = some _ from if_neg q
    have e2 := show m_q1_O S a b e = some _ from if_neg q
    rw [e1, e2]
    exact keepFG q
theorem g_meas2 {S : aS} (ok : OkL S) (a b e : Int) : (if isAS S 112 a ∧ isAS S 112 b ∧ isAS S 116 e then keepMQ S (p_way_O (tpT S a) (tpT S b)) else (-1, S)) = measM S 0 0 (-1) a b e (m_q2_O S a b e) := by
  refine meas_if av_p av_p av_t fun ha hb he => ?_
  by_cases q : sTp S a.toNat 2 = 0 ∨ sTp S b.toNat 2 = 0
  · have e1 : (p_way_O (tpT S a) (tpT S b) : Option T3) = none := if_pos q
    have e2 : m_q2_O S a b e = none := if_pos q
    rw [e1, e2]
    rfl
  · have e1 := show (p_way_O (tpT S a) (tpT S b) : Option T3) = some _ from if_neg q
    have e2 := show m_q2_O S a b e = some _ from if_neg q
    rw [e1, e2]
    have h1 : sTp S a.toNat 2 * sTp S b.toNat 2 ≠ 0 := Int.mul_ne_zero (fun h => q (Or.inl h)) (fun h => q (Or.inr h))
    exact keepFG2 (Int.mul_ne_zero h1 h1) rfl rfl
theorem g_meas3 {S : aS} (ok : OkL S) (a b e : Int) : (if isAS S 112 a ∧ isAS S 99 b ∧ isAS S 116 e then keepMQ S (if (tpT S a).2.2 = 0 then none else some (p_pow_S (tpT S a) (tpR S b))) else (-1, S)) = measM S 0 2 (-1) a b e (m_q3_O S a b e) := by
  refine meas_if av_p av_c av_t fun ha hb he => ?_
  by_cases q : sTp S a.toNat 2 = 0
  · have e1 : ((if (tpT S a).2.2 = 0 then none else some (p_pow_S (tpT S a) (tpR S b))) : Option T3) = none := if_pos q
    have e2 : m_q3_O S a b e = none := if_pos q
    rw [e1, e2]
    rfl
  · have e1 := show ((if (tpT S a).2.2 = 0 then none else some (p_pow_S (tpT S a) (tpR S b))) : Option T3) = some _ from if_neg q
    have e2 := show m_q3_O S a b e = some _ from if_neg q
    rw [e1, e2]
    have hk : 0 < sTp S b.toNat 0 := (ok.c ⟨hb.1, hb.2.resolve_left (by decide)⟩).2.1
    exact keepFG2 (Int.mul_ne_zero (show sTp S b.toNat 0 ≠ 0 by omega) (Int.mul_ne_zero q q)) (ri_inEq _ _ _ (sTp S a.toNat 3) _ _ _ _) rfl
theorem g_meas4 {S : aS} (ok : OkL S) (a b e : Int) : (if isAS S 99 a ∧ isAS S 116 b ∧ isAS S 116 e then keepMQ S (some (p_rad_S (tpR S a))) else (-1, S)) = measM S 2 (-1) (-1) a b e (m_q4_O S a b e) := by
  refine meas_if av_c av_t av_t fun ha hb he => ?_
  have hk : 0 < sTp S a.toNat 0 := (ok.c ⟨ha.1, ha.2.resolve_left (by decide)⟩).2.1
  have h2 : 2 * sTp S a.toNat 0 ≠ 0 := by omega
  exact keepFG2 (Int.mul_ne_zero h2 h2) (ri_spread _ _ _ _) (show 2 * sTp S a.toNat 0 * (2 * sTp S a.toNat 0) = 4 * (sTp S a.toNat 0 * sTp S a.toNat 0) by grind)
theorem g_meas5 {S : aS} (ok : OkL S) (a b e : Int) : (if isAS S 112 a ∧ isAS S 112 b ∧ isAS S 112 e then keepMQ S (p_area_O (tpT S a) (tpT S b) (tpT S e)) else (-1, S)) = measM S 0 0 0 a b e (m_q5_O S a b e) := by
  refine meas_if av_p av_p av_p fun ha hb he => ?_
  by_cases q : sTp S a.toNat 2 = 0 ∨ sTp S b.toNat 2 = 0 ∨ sTp S e.toNat 2 = 0
  · have e1 : (p_area_O (tpT S a) (tpT S b) (tpT S e) : Option T3) = none := if_pos q
    have e2 : m_q5_O S a b e = none := if_pos q
    rw [e1, e2]
    rfl
  · have e1 := show (p_area_O (tpT S a) (tpT S b) (tpT S e) : Option T3) = some _ from if_neg q
    have e2 := show m_q5_O S a b e = some _ from if_neg q
    rw [e1, e2]
    exact keepFG2 (Int.mul_ne_zero (Int.mul_ne_zero (fun h => q (Or.inl h)) (fun h => q (Or.inr (Or.inl h)))) (fun h => q (Or.inr (Or.inr h)))) (det_eq (tpR S a) (tpR S b) (tpR S e)) rfl
theorem g_meas6 {S : aS} (ok : OkL S) (a b e : Int) : (if isAS S 112 a ∧ isAS S 108 b ∧ isAS S 116 e then keepMQ S (p_wayL_O (tpT S a) (tpT S b)) else (-1, S)) = measM S 0 1 (-1) a b e (m_q6_O S a b e) := by
  refine meas_if av_p av_l av_t fun ha hb he => ?_
  by_cases q : sTp S a.toNat 2 = 0 ∨ (sTp S b.toNat 0 = 0 ∧ sTp S b.toNat 1 = 0)
  · have e1 : (p_wayL_O (tpT S a) (tpT S b) : Option T3) = none := if_pos q
    have e2 : m_q6_O S a b e = none := if_pos q
    rw [e1, e2]
    rfl
  · have e1 := show (p_wayL_O (tpT S a) (tpT S b) : Option T3) = some _ from if_neg q
    have e2 := show m_q6_O S a b e = some _ from if_neg q
    rw [e1, e2]
    have h1 : sTp S a.toNat 2 ≠ 0 := fun h => q (Or.inl h)
    exact keepFG2 (Int.mul_ne_zero (Int.mul_ne_zero h1 h1) (fun h => q (Or.inr (sq0 h)))) rfl rfl
theorem hold_if {p q r s C P Q : Prop} [Decidable p] [Decidable q] [Decidable r] [Decidable s] [Decidable C] [Decidable P] [Decidable Q] (hC : (p ∧ q ∧ r ∧ s) ↔ C) (h : C → (P ↔ Q)) : (if p then (if q then (if r then (if s then (if P then (1 : Int) else 0) else -1) else -1) else -1) else -1) = if C then (if Q then 1 else 0) else -1 := by
  by_cases u : C
  · obtain ⟨h1, h2, h3, h4⟩ := hC.mpr u
    rw [if_pos h1, if_pos h2, if_pos h3, if_pos h4, if_pos u]
    by_cases v : P
    · rw [if_pos v, if_pos ((h u).mp v)]
    · rw [if_neg v, if_neg (fun z => v ((h u).mpr z))]
  · rw [if_neg u]
    by_cases h1 : p
    · rw [if_pos h1]
      by_cases h2 : q
      · rw [if_pos h2]
        by_cases h3 : r
        · rw [if_pos h3]
          by_cases h4 : s
          · exact absurd (hC.mp ⟨h1, h2, h3, h4⟩) u
          · rw [if_neg h4]
        · rw [if_neg h3]
      · rw [if_neg h2]
    · rw [if_neg h1]
theorem depth_eq (L R : T4) : p_depth_S (t3f L) R = m_depth_S L R := ri_depth _ _ _ _ _ _ _ _
theorem depth_0 (L R : T4) : m_depth_S L R = 0 ↔ m_bulge_S R * m_norm_S L = m_reach_S L R * m_reach_S L R := by
  unfold m_depth_S
  omega
theorem pw_eq (R U : T4) : p_power_S R U = t3f (m_powers_S R U) := Prod.ext (ri_pow_1 _ _ _ _ _ _ _ _) (Prod.ext (ri_pow_2 _ _ _ _ _ _ _ _) (ri_pow_3 _ _ _ _ _ _ _ _))
theorem po_eq (L R : T4) : p_pole_S (t3f L) R = t3f (m_pole_S L R) := Prod.ext (ri_pole_1 _ _ _ _ _ _ _ _) (Prod.ext (ri_pole_2 _ _ _ _ _ _ _ _) (ri_pole_3 _ _ _ _ _ _ _ _))
theorem in_eq (P R : T4) : p_inEq_S (t3f P) R = m_within_S P R := ri_inEq _ _ _ _ _ _ _ _
/-- on a line, two crosses lie along it -/
theorem cr_par (A B L : T3) (ha : p_dot_S L A = 0) (hb : p_dot_S L B = 0) : (p_cross_S A B).1 * L.2.1 = (p_cross_S A B).2.1 * L.1 ∧ (p_cross_S A B).1 * L.2.2 = (p_cross_S A B).2.2 * L.1 ∧ (p_cross_S A B).2.1 * L.2.2 = (p_cross_S A B).2.2 * L.2.1 := by
  obtain ⟨a1, a2, a3⟩ := A
  obtain ⟨b1, b2, b3⟩ := B
  obtain ⟨l1, l2, l3⟩ := L
  unfold p_dot_S at ha hb
  unfold p_cross_S
  dsimp only at ha hb ⊢
  refine ⟨?_, ?_, ?_⟩
  · have e : (a2 * b3 - a3 * b2) * l2 - (a3 * b1 - a1 * b3) * l1 = b3 * (l1 * a1 + l2 * a2 + l3 * a3) - a3 * (l1 * b1 + l2 * b2 + l3 * b3) := by grind
    rw [ha, hb, Int.mul_zero, Int.mul_zero] at e
    omega
  · have e : (a2 * b3 - a3 * b2) * l3 - (a1 * b2 - a2 * b1) * l1 = a2 * (l1 * b1 + l2 * b2 + l3 * b3) - b2 * (l1 * a1 + l2 * a2 + l3 * a3) := by grind
    rw [ha, hb, Int.mul_zero, Int.mul_zero] at e
    omega
  · have e : (a3 * b1 - a1 * b3) * l3 - (a1 * b2 - a2 * b1) * l2 = b1 * (l1 * a1 + l2 * a2 + l3 * a3) - a1 * (l1 * b1 + l2 * b2 + l3 * b3) := by grind
    rw [ha, hb, Int.mul_zero, Int.mul_zero] at e
    omega
/-- so a cross is nothing where it is nothing at a place at which the line is something -/
theorem bra_0 (A B L : T3) (ha : p_dot_S L A = 0) (hb : p_dot_S L B = 0) (hL : ¬(L.1 = 0 ∧ L.2.1 = 0 ∧ L.2.2 = 0)) : p_bra_S A B L = 0 ↔ ((p_cross_S A B).1 = 0 ∧ (p_cross_S A B).2.1 = 0 ∧ (p_cross_S A B).2.2 = 0) := by
  obtain ⟨e1, e2, e3⟩ := cr_par A B L ha hb
  unfold p_bra_S
  by_cases q1 : L.1 = 0
  · rw [if_pos q1]
    by_cases q2 : L.2.1 = 0
    · rw [if_pos q2]
      have q3 : L.2.2 ≠ 0 := fun h => hL ⟨q1, q2, h⟩
      refine ⟨fun h => ?_, fun h => h.2.2⟩
      rw [h, Int.zero_mul] at e2 e3
      exact ⟨(Int.mul_eq_zero.mp e2).resolve_right q3, (Int.mul_eq_zero.mp e3).resolve_right q3, h⟩
    · rw [if_neg q2]
      refine ⟨fun h => ?_, fun h => h.2.1⟩
      rw [h, Int.zero_mul] at e1 e3
      exact ⟨(Int.mul_eq_zero.mp e1).resolve_right q2, h, (Int.mul_eq_zero.mp e3.symm).resolve_right q2⟩
  · rw [if_neg q1]
    refine ⟨fun h => ?_, fun h => h.1⟩
    rw [h, Int.zero_mul] at e1 e2
    exact ⟨h, (Int.mul_eq_zero.mp e1.symm).resolve_right q1, (Int.mul_eq_zero.mp e2.symm).resolve_right q1⟩
theorem harm_w (P Q R : T3) : p_harm_S P Q R = (p_bra_S R Q (p_cross_S P Q) * P.1 - p_bra_S P R (p_cross_S P Q) * Q.1, p_bra_S R Q (p_cross_S P Q) * P.2.1 - p_bra_S P R (p_cross_S P Q) * Q.2.1, p_bra_S R Q (p_cross_S P Q) * P.2.2 - p_bra_S P R (p_cross_S P Q) * Q.2.2) := rfl
theorem bra_lin (u v : Int) (P Q W L : T3) : p_bra_S (u * P.1 - v * Q.1, u * P.2.1 - v * Q.2.1, u * P.2.2 - v * Q.2.2) W L = u * p_bra_S P W L - v * p_bra_S Q W L := by
  unfold p_bra_S p_cross_S
  dsimp only
  split
  · split <;> grind
  · grind
theorem bra_turn (P Q L : T3) : p_bra_S P Q L = -p_bra_S Q P L := by
  unfold p_bra_S p_cross_S
  dsimp only
  split
  · split <;> grind
  · grind
theorem dot_cr (P Q : T3) : p_dot_S (p_cross_S P Q) P = 0 ∧ p_dot_S (p_cross_S P Q) Q = 0 := by
  unfold p_dot_S p_cross_S
  dsimp only
  constructor <;> grind
theorem dot_lin (u v : Int) (L P Q : T3) (hp : p_dot_S L P = 0) (hq : p_dot_S L Q = 0) : p_dot_S L (u * P.1 - v * Q.1, u * P.2.1 - v * Q.2.1, u * P.2.2 - v * Q.2.2) = 0 := by
  have e : p_dot_S L (u * P.1 - v * Q.1, u * P.2.1 - v * Q.2.1, u * P.2.2 - v * Q.2.2) = u * p_dot_S L P - v * p_dot_S L Q := by
    unfold p_dot_S
    dsimp only
    grind
  rw [e, hp, hq, Int.mul_zero, Int.mul_zero]
  rfl
/-- four of one line: the fourth harmonic is the fourth -/
theorem cross_4 (P Q R W : T3) (hpq : ¬((p_cross_S P Q).1 = 0 ∧ (p_cross_S P Q).2.1 = 0 ∧ (p_cross_S P Q).2.2 = 0)) (hr : p_dot_S (p_cross_S P Q) R = 0) (hw : p_dot_S (p_cross_S P Q) W = 0) :
    (((p_cross_S (p_harm_S P Q R) W).1 = 0 ∧ (p_cross_S (p_harm_S P Q R) W).2.1 = 0 ∧ (p_cross_S (p_harm_S P Q R) W).2.2 = 0) ↔ p_bra_S P R (p_cross_S P Q) * p_bra_S Q W (p_cross_S P Q) + p_bra_S P W (p_cross_S P Q) * p_bra_S Q R (p_cross_S P Q) = 0) := by
  have hd := dot_cr P Q
  have hg := dot_lin (p_bra_S R Q (p_cross_S P Q)) (p_bra_S P R (p_cross_S P Q)) (p_cross_S P Q) P Q hd.1 hd.2
  rw [harm_w, ← bra_0 _ _ (p_cross_S P Q) hg hw hpq, bra_lin, bra_turn R Q]
  generalize p_bra_S P R (p_cross_S P Q) = x1
  generalize p_bra_S Q W (p_cross_S P Q) = x2
  generalize p_bra_S P W (p_cross_S P Q) = x3
  generalize p_bra_S Q R (p_cross_S P Q) = x4
  have e : -x4 * x3 - x1 * x2 = -(x1 * x2 + x3 * x4) := by grind
  rw [e]
  omega
theorem g_holds0 {S : aS} (ok : OkL S) (a b e f : Int) : (if isAS S 112 a then (if isAS S 112 b then (if isAS S 112 e then (if isAS S 45 f then (if p_det_S (tpT S a) (tpT S b) (tpT S e) = 0 then 1 else 0) else -1) else -1) else -1) else -1) = if isS S a 0 ∧ isS S b 0 ∧ isS S e 0 then (if m_det_S (tpR S a) (tpR S b) (tpR S e) = 0 then 1 else 0) else -1 := by
  refine hold_if (C := isS S a 0 ∧ isS S b 0 ∧ isS S e 0) ?_ fun hC => ?_
  · rw [as_p (S := S) (t := a), as_p (S := S) (t := b), as_p (S := S) (t := e), iff_true_intro (as_0 (S := S) (t := f))]
    simp only [and_true]
  · skip
    exact eq0 (det_eq (tpR S a) (tpR S b) (tpR S e))
theorem g_holds1 {S : aS} (ok : OkL S) (a b e f : Int) : (if isAS S 108 a then (if isAS S 108 b then (if isAS S 108 e then (if isAS S 45 f then (if p_det_S (tpT S a) (tpT S b) (tpT S e) = 0 then 1 else 0) else -1) else -1) else -1) else -1) = if isS S a 1 ∧ isS S b 1 ∧ isS S e 1 then (if m_det_S (tpR S a) (tpR S b) (tpR S e) = 0 then 1 else 0) else -1 := by
  refine hold_if (C := isS S a 1 ∧ isS S b 1 ∧ isS S e 1) ?_ fun hC => ?_
  · rw [as_l (S := S) (t := a), as_l (S := S) (t := b), as_l (S := S) (t := e), iff_true_intro (as_0 (S := S) (t := f))]
    simp only [and_true]
  · skip
    exact eq0 (det_eq (tpR S a) (tpR S b) (tpR S e))
theorem g_holds2 {S : aS} (ok : OkL S) (a b e f : Int) : (if isAS S 112 a then (if isAS S 108 b then (if isAS S 45 e then (if isAS S 45 f then (if p_dot_S (tpT S a) (tpT S b) = 0 then 1 else 0) else -1) else -1) else -1) else -1) = if isS S a 0 ∧ isS S b 1 then (if m_dot_S (tpR S a) (tpR S b) = 0 then 1 else 0) else -1 := by
  refine hold_if (C := isS S a 0 ∧ isS S b 1) ?_ fun hC => ?_
  · rw [as_p (S := S) (t := a), as_l (S := S) (t := b), iff_true_intro (as_0 (S := S) (t := e)), iff_true_intro (as_0 (S := S) (t := f))]
    simp only [and_true]
  · skip
    exact Iff.rfl
theorem g_holds3 {S : aS} (ok : OkL S) (a b e f : Int) : (if isAS S 112 a then (if isAS S 99 b then (if isAS S 45 e then (if isAS S 45 f then (if ¬ (tpT S a).2.2 = 0 ∧ p_inEq_S (tpT S a) (tpR S b) = 0 then 1 else 0) else -1) else -1) else -1) else -1) = if isS S a 0 ∧ isS S b 2 then (if ¬ sTp S a.toNat 2 = 0 ∧ m_within_S (tpR S a) (tpR S b) = 0 then 1 else 0) else -1 := by
  refine hold_if (C := isS S a 0 ∧ isS S b 2) ?_ fun hC => ?_
  · rw [as_p (S := S) (t := a), as_c (S := S) (t := b), iff_true_intro (as_0 (S := S) (t := e)), iff_true_intro (as_0 (S := S) (t := f))]
    simp only [and_true]
  · skip
    exact and_congr Iff.rfl (eq0 (in_eq (tpR S a) (tpR S b)))
theorem g_holds4 {S : aS} (ok : OkL S) (a b e f : Int) : (if isAS S 108 a then (if isAS S 108 b then (if isAS S 45 e then (if isAS S 45 f then (if (tpT S a).1 * (tpT S b).2.1 = (tpT S a).2.1 * (tpT S b).1 then 1 else 0) else -1) else -1) else -1) else -1) = if isS S a 1 ∧ isS S b 1 then (if ((tpR S a).1 * (tpR S b).2.1) - ((tpR S a).2.1 * (tpR S b).1) = 0 then 1 else 0) else -1 := by
  refine hold_if (C := isS S a 1 ∧ isS S b 1) ?_ fun hC => ?_
  · rw [as_l (S := S) (t := a), as_l (S := S) (t := b), iff_true_intro (as_0 (S := S) (t := e)), iff_true_intro (as_0 (S := S) (t := f))]
    simp only [and_true]
  · skip
    show sTp S a.toNat 0 * sTp S b.toNat 1 = sTp S a.toNat 1 * sTp S b.toNat 0 ↔ sTp S a.toNat 0 * sTp S b.toNat 1 - sTp S a.toNat 1 * sTp S b.toNat 0 = 0
    omega
theorem g_holds5 {S : aS} (ok : OkL S) (a b e f : Int) : (if isAS S 108 a then (if isAS S 108 b then (if isAS S 45 e then (if isAS S 45 f then (if ¬((tpT S a).1 = 0 ∧ (tpT S a).2.1 = 0) ∧ ¬((tpT S b).1 = 0 ∧ (tpT S b).2.1 = 0) ∧ (tpT S a).1 * (tpT S b).1 + (tpT S a).2.1 * (tpT S b).2.1 = 0 then 1 else 0) else -1) else -1) else -1) else -1) = if isS S a 1 ∧ isS S b 1 then (if ¬ (sTp S a.toNat 0 = 0 ∧ sTp S a.toNat 1 = 0) ∧ ¬ (sTp S b.toNat 0 = 0 ∧ sTp S b.toNat 1 = 0) ∧ ((tpR S a).1 * (tpR S b).1) + ((tpR S a).2.1 * (tpR S b).2.1) = 0 then 1 else 0) else -1 := by
  refine hold_if (C := isS S a 1 ∧ isS S b 1) ?_ fun hC => ?_
  · rw [as_l (S := S) (t := a), as_l (S := S) (t := b), iff_true_intro (as_0 (S := S) (t := e)), iff_true_intro (as_0 (S := S) (t := f))]
    simp only [and_true]
  · skip
    exact Iff.rfl
theorem g_holds6 {S : aS} (ok : OkL S) (a b e f : Int) : (if isAS S 112 a then (if isAS S 112 b then (if isAS S 112 e then (if isAS S 112 f then (if ¬((tpT S a).2.2 = 0 ∨ (tpT S b).2.2 = 0) ∧ ¬((tpT S e).2.2 = 0 ∨ (tpT S f).2.2 = 0) ∧ (p_way_S (tpT S a) (tpT S b)).1 * (p_way_S (tpT S e) (tpT S f)).2.2 = (p_way_S (tpT S e) (tpT S f)).1 * (p_way_S (tpT S a) (tpT S b)).2.2 then 1 else 0) else -1) else -1) else -1) else -1) = if isS S a 0 ∧ isS S b 0 ∧ isS S e 0 ∧ isS S f 0 then (if (¬ sTp S a.toNat 2 = 0 ∧ ¬ sTp S b.toNat 2 = 0 ∧ ¬ sTp S e.toNat 2 = 0 ∧ ¬ sTp S f.toNat 2 = 0) ∧ m_apart_S (tpR S a) (tpR S b) * (((tpR S e).2.2.1 * (tpR S f).2.2.1) * ((tpR S e).2.2.1 * (tpR S f).2.2.1)) = m_apart_S (tpR S e) (tpR S f) * (((tpR S a).2.2.1 * (tpR S b).2.2.1) * ((tpR S a).2.2.1 * (tpR S b).2.2.1)) then 1 else 0) else -1 := by
  refine hold_if (C := isS S a 0 ∧ isS S b 0 ∧ isS S e 0 ∧ isS S f 0) ?_ fun hC => ?_
  · rw [as_p (S := S) (t := a), as_p (S := S) (t := b), as_p (S := S) (t := e), as_p (S := S) (t := f)]
    skip
  · skip
    constructor
    · rintro ⟨z1, z2, z3⟩
      have z1 : ¬(sTp S a.toNat 2 = 0 ∨ sTp S b.toNat 2 = 0) := z1
      have z2 : ¬(sTp S e.toNat 2 = 0 ∨ sTp S f.toNat 2 = 0) := z2
      exact ⟨⟨fun h => z1 (Or.inl h), fun h => z1 (Or.inr h), fun h => z2 (Or.inl h), fun h => z2 (Or.inr h)⟩, z3⟩
    · rintro ⟨⟨z1, z2, z3, z4⟩, z5⟩
      exact ⟨fun h => h.elim z1 z2, fun h => h.elim z3 z4, z5⟩
theorem g_holds7 {S : aS} (ok : OkL S) (a b e f : Int) : (if isAS S 112 a then (if isAS S 112 b then (if isAS S 112 e then (if isAS S 112 f then (if ¬((tpT S a).2.2 = 0 ∨ (tpT S b).2.2 = 0 ∨ (tpT S e).2.2 = 0 ∨ p_det_S (tpT S a) (tpT S b) (tpT S e) = 0) ∧ (¬((p_cross_S ((tpT S a)) ((tpT S b))).1 = 0 ∧ (p_cross_S ((tpT S a)) ((tpT S b))).2.1 = 0 ∧ (p_cross_S ((tpT S a)) ((tpT S b))).2.2 = 0) ∧ ¬((p_cross_S ((tpT S a)) ((tpT S e))).1 = 0 ∧ (p_cross_S ((tpT S a)) ((tpT S e))).2.1 = 0 ∧ (p_cross_S ((tpT S a)) ((tpT S e))).2.2 = 0) ∧ ¬((p_cross_S ((tpT S a)) ((tpT S f))).1 = 0 ∧ (p_cross_S ((tpT S a)) ((tpT S f))).2.1 = 0 ∧ (p_cross_S ((tpT S a)) ((tpT S f))).2.2 = 0) ∧ ¬((p_cross_S ((tpT S b)) ((tpT S e))).1 = 0 ∧ (p_cross_S ((tpT S b)) ((tpT S e))).2.1 = 0 ∧ (p_cross_S ((tpT S b)) ((tpT S e))).2.2 = 0) ∧ ¬((p_cross_S ((tpT S b)) ((tpT S f))).1 = 0 ∧ (p_cross_S ((tpT S b)) ((tpT S f))).2.1 = 0 ∧ (p_cross_S ((tpT S b)) ((tpT S f))).2.2 = 0) ∧ ¬((p_cross_S ((tpT S e)) ((tpT S f))).1 = 0 ∧ (p_cross_S ((tpT S e)) ((tpT S f))).2.1 = 0 ∧ (p_cross_S ((tpT S e)) ((tpT S f))).2.2 = 0)) ∧ ¬ (tpT S f).2.2 = 0 ∧ p_inEq_S (tpT S f) (p_thr_S (tpT S a) (tpT S b) (tpT S e)) = 0 then 1 else 0) else -1) else -1) else -1) else -1) = if isS S a 0 ∧ isS S b 0 ∧ isS S e 0 ∧ isS S f 0 then (if (¬ sTp S a.toNat 2 = 0 ∧ ¬ sTp S b.toNat 2 = 0 ∧ ¬ sTp S e.toNat 2 = 0 ∧ ¬ sTp S f.toNat 2 = 0) ∧ (¬ (sTp S a.toNat 0 = sTp S b.toNat 0 ∧ sTp S a.toNat 1 = sTp S b.toNat 1 ∧ sTp S a.toNat 2 = sTp S b.toNat 2 ∧ sTp S a.toNat 3 = sTp S b.toNat 3) ∧ ¬ (sTp S a.toNat 0 = sTp S e.toNat 0 ∧ sTp S a.toNat 1 = sTp S e.toNat 1 ∧ sTp S a.toNat 2 = sTp S e.toNat 2 ∧ sTp S a.toNat 3 = sTp S e.toNat 3) ∧ ¬ (sTp S a.toNat 0 = sTp S f.toNat 0 ∧ sTp S a.toNat 1 = sTp S f.toNat 1 ∧ sTp S a.toNat 2 = sTp S f.toNat 2 ∧ sTp S a.toNat 3 = sTp S f.toNat 3) ∧ ¬ (sTp S b.toNat 0 = sTp S e.toNat 0 ∧ sTp S b.toNat 1 = sTp S e.toNat 1 ∧ sTp S b.toNat 2 = sTp S e.toNat 2 ∧ sTp S b.toNat 3 = sTp S e.toNat 3) ∧ ¬ (sTp S b.toNat 0 = sTp S f.toNat 0 ∧ sTp S b.toNat 1 = sTp S f.toNat 1 ∧ sTp S b.toNat 2 = sTp S f.toNat 2 ∧ sTp S b.toNat 3 = sTp S f.toNat 3) ∧ ¬ (sTp S e.toNat 0 = sTp S f.toNat 0 ∧ sTp S e.toNat 1 = sTp S f.toNat 1 ∧ sTp S e.toNat 2 = sTp S f.toNat 2 ∧ sTp S e.toNat 3 = sTp S f.toNat 3)) ∧ m_onB (tpR S f) (m_thru_O (tpR S a) (tpR S b) (tpR S e)) = true then 1 else 0) else -1 := by
  refine hold_if (C := isS S a 0 ∧ isS S b 0 ∧ isS S e 0 ∧ isS S f 0) ?_ fun hC => ?_
  · rw [as_p (S := S) (t := a), as_p (S := S) (t := b), as_p (S := S) (t := e), as_p (S := S) (t := f)]
    skip
  · skip
    have ha := as_p.mpr hC.1
    have pa := ok.p hC.1
    have pb := ok.p hC.2.1
    have pe := ok.p hC.2.2.1
    have pf := ok.p hC.2.2.2
    have c1 := crT_iff pa pb
    have c2 := crT_iff pa pe
    have c3 := crT_iff pa pf
    have c4 := crT_iff pb pe
    have c5 := crT_iff pb pf
    have c6 := crT_iff pe pf
    have et : p_thr_S (tpT S a) (tpT S b) (tpT S e) = m_thru_S (tpR S a) (tpR S b) (tpR S e) := thr_eq (tpR S a) (tpR S b) (tpR S e)
    have ei : p_inEq_S (tpT S f) (m_thru_S (tpR S a) (tpR S b) (tpR S e)) = m_within_S (tpR S f) (m_thru_S (tpR S a) (tpR S b) (tpR S e)) := in_eq (tpR S f) _
    have ed : p_det_S (tpT S a) (tpT S b) (tpT S e) = m_det_S (tpR S a) (tpR S b) (tpR S e) := det_eq (tpR S a) (tpR S b) (tpR S e)
    rw [et, ei, ed]
    constructor
    · rintro ⟨z1, ⟨y1, y2, y3, y4, y5, y6⟩, z3, z4⟩
      have w1 : (tpR S a).2.2.1 ≠ 0 := fun h => z1 (Or.inl h)
      have w2 : (tpR S b).2.2.1 ≠ 0 := fun h => z1 (Or.inr (Or.inl h))
      have w3 : (tpR S e).2.2.1 ≠ 0 := fun h => z1 (Or.inr (Or.inr (Or.inl h)))
      have e2 : m_thru_O (tpR S a) (tpR S b) (tpR S e) = some (m_thru_S (tpR S a) (tpR S b) (tpR S e)) := if_neg (fun y => z1 (Or.inr (Or.inr (Or.inr ((rows_0 w1 w2 w3).mp y)))))
      refine ⟨⟨w1, w2, w3, z3⟩, ⟨fun h => y1 (c1.mpr h), fun h => y2 (c2.mpr h), fun h => y3 (c3.mpr h), fun h => y4 (c4.mpr h), fun h => y5 (c5.mpr h), fun h => y6 (c6.mpr h)⟩, ?_⟩
      rw [e2]
      exact decide_eq_true z4
    · rintro ⟨⟨w1, w2, w3, w4⟩, ⟨y1, y2, y3, y4, y5, y6⟩, z⟩
      by_cases d : rowK (tpR S a) (tpR S b) (tpR S e) = 0
      · have e2 : m_thru_O (tpR S a) (tpR S b) (tpR S e) = none := if_pos d
        rw [e2] at z
        cases z
      · have e2 : m_thru_O (tpR S a) (tpR S b) (tpR S e) = some (m_thru_S (tpR S a) (tpR S b) (tpR S e)) := if_neg d
        rw [e2] at z
        refine ⟨fun h => ?_, ⟨fun h => y1 (c1.mp h), fun h => y2 (c2.mp h), fun h => y3 (c3.mp h), fun h => y4 (c4.mp h), fun h => y5 (c5.mp h), fun h => y6 (c6.mp h)⟩, w4, of_decide_eq_true z⟩
        exact h.elim w1 (fun h => h.elim w2 (fun h => h.elim w3 (fun h => d ((rows_0 (P := tpR S a) (Q := tpR S b) (R := tpR S e) w1 w2 w3).mpr h))))
theorem g_holds8 {S : aS} (ok : OkL S) (a b e f : Int) : (if isAS S 108 a then (if isAS S 99 b then (if isAS S 45 e then (if isAS S 45 f then (if ¬((tpT S a).1 = 0 ∧ (tpT S a).2.1 = 0) ∧ p_depth_S (tpT S a) (tpR S b) = 0 then 1 else 0) else -1) else -1) else -1) else -1) = if isS S a 1 ∧ isS S b 2 then (if ¬ (sTp S a.toNat 0 = 0 ∧ sTp S a.toNat 1 = 0) ∧ (m_bulge_S (tpR S b)) * (m_norm_S ((tpR S a))) = (m_reach_S ((tpR S a)) (tpR S b)) * (m_reach_S ((tpR S a)) (tpR S b)) then 1 else 0) else -1 := by
  refine hold_if (C := isS S a 1 ∧ isS S b 2) ?_ fun hC => ?_
  · rw [as_l (S := S) (t := a), as_c (S := S) (t := b), iff_true_intro (as_0 (S := S) (t := e)), iff_true_intro (as_0 (S := S) (t := f))]
    simp only [and_true]
  · skip
    exact and_congr Iff.rfl ((eq0 (depth_eq (tpR S a) (tpR S b))).trans (depth_0 _ _))
theorem g_holds9 {S : aS} (ok : OkL S) (a b e f : Int) : (if isAS S 99 a then (if isAS S 99 b then (if isAS S 45 e then (if isAS S 45 f then (if ¬((tpR S b).1 * (tpR S a).2.1 - (tpR S a).1 * (tpR S b).2.1 = 0 ∧ (tpR S b).1 * (tpR S a).2.2.1 - (tpR S a).1 * (tpR S b).2.2.1 = 0) ∧ p_depth_S (p_power_S (tpR S a) (tpR S b)) (tpR S a) = 0 then 1 else 0) else -1) else -1) else -1) else -1) = if isS S a 2 ∧ isS S b 2 then (if (¬ (m_powers_S (tpR S a) (tpR S b)).1 = 0 ∨ ¬ (m_powers_S (tpR S a) (tpR S b)).2.1 = 0) ∧ (m_bulge_S (tpR S a)) * (m_norm_S (m_powers_S (tpR S a) (tpR S b))) = (m_reach_S (m_powers_S (tpR S a) (tpR S b)) (tpR S a)) * (m_reach_S (m_powers_S (tpR S a) (tpR S b)) (tpR S a)) then 1 else 0) else -1 := by
  refine hold_if (C := isS S a 2 ∧ isS S b 2) ?_ fun hC => ?_
  · rw [as_c (S := S) (t := a), as_c (S := S) (t := b), iff_true_intro (as_0 (S := S) (t := e)), iff_true_intro (as_0 (S := S) (t := f))]
    simp only [and_true]
  · skip
    have hp := pow_c S a b
    rw [pw_eq]
    refine and_congr ?_ ((eq0 (depth_eq _ (tpR S a))).trans (depth_0 _ _))
    rw [← hp]
    exact Classical.not_and_iff_not_or_not
theorem g_holds10 {S : aS} (ok : OkL S) (a b e f : Int) : (if isAS S 99 a then (if isAS S 99 b then (if isAS S 45 e then (if isAS S 45 f then (if (tpR S a).2.1 * (tpR S b).2.1 + (tpR S a).2.2.1 * (tpR S b).2.2.1 = 2 * ((tpR S a).2.2.2 * (tpR S b).1 + (tpR S b).2.2.2 * (tpR S a).1) then 1 else 0) else -1) else -1) else -1) else -1) = if isS S a 2 ∧ isS S b 2 then (if ((tpR S a).2.1 * (tpR S b).2.1) + ((tpR S a).2.2.1 * (tpR S b).2.2.1) = 2 * (((tpR S a).2.2.2 * (tpR S b).1) + ((tpR S b).2.2.2 * (tpR S a).1)) then 1 else 0) else -1 := by
  refine hold_if (C := isS S a 2 ∧ isS S b 2) ?_ fun hC => ?_
  · rw [as_c (S := S) (t := a), as_c (S := S) (t := b), iff_true_intro (as_0 (S := S) (t := e)), iff_true_intro (as_0 (S := S) (t := f))]
    simp only [and_true]
  · skip
    exact Iff.rfl
theorem g_holds11 {S : aS} (ok : OkL S) (a b e f : Int) : (if isAS S 112 a then (if isAS S 112 b then (if isAS S 112 e then (if isAS S 45 f then (if ¬((tpT S a).2.2 = 0 ∨ (tpT S b).2.2 = 0 ∨ (tpT S e).2.2 = 0) ∧ 0 < lcmp (p_det_S (tpT S a) (tpT S b) (tpT S e)) 0 then 1 else 0) else -1) else -1) else -1) else -1) = if isS S a 0 ∧ isS S b 0 ∧ isS S e 0 then (if ¬ sTp S a.toNat 2 = 0 ∧ ¬ sTp S b.toNat 2 = 0 ∧ ¬ sTp S e.toNat 2 = 0 ∧ 0 < m_det_S (tpR S a) (tpR S b) (tpR S e) then 1 else 0) else -1 := by
  refine hold_if (C := isS S a 0 ∧ isS S b 0 ∧ isS S e 0) ?_ fun hC => ?_
  · rw [as_p (S := S) (t := a), as_p (S := S) (t := b), as_p (S := S) (t := e), iff_true_intro (as_0 (S := S) (t := f))]
    simp only [and_true]
  · skip
    rw [lcmp_gt]
    have ed : p_det_S (tpT S a) (tpT S b) (tpT S e) = m_det_S (tpR S a) (tpR S b) (tpR S e) := det_eq (tpR S a) (tpR S b) (tpR S e)
    rw [ed]
    constructor
    · rintro ⟨z1, z2⟩
      exact ⟨fun h => z1 (Or.inl h), fun h => z1 (Or.inr (Or.inl h)), fun h => z1 (Or.inr (Or.inr h)), z2⟩
    · rintro ⟨z1, z2, z3, z4⟩
      exact ⟨fun h => h.elim z1 (fun h => h.elim z2 z3), z4⟩
theorem g_holds12 {S : aS} (ok : OkL S) (a b e f : Int) : (if isAS S 112 a then (if isAS S 99 b then (if isAS S 45 e then (if isAS S 45 f then (if ¬ (tpT S a).2.2 = 0 ∧ lcmp (p_inEq_S (tpT S a) (tpR S b)) 0 < 0 then 1 else 0) else -1) else -1) else -1) else -1) = if isS S a 0 ∧ isS S b 2 then (if ¬ sTp S a.toNat 2 = 0 ∧ m_within_S (tpR S a) (tpR S b) < 0 then 1 else 0) else -1 := by
  refine hold_if (C := isS S a 0 ∧ isS S b 2) ?_ fun hC => ?_
  · rw [as_p (S := S) (t := a), as_c (S := S) (t := b), iff_true_intro (as_0 (S := S) (t := e)), iff_true_intro (as_0 (S := S) (t := f))]
    simp only [and_true]
  · skip
    rw [lcmp_lt]
    have ei : p_inEq_S (tpT S a) (tpR S b) = m_within_S (tpR S a) (tpR S b) := in_eq (tpR S a) (tpR S b)
    rw [ei]
    exact Iff.rfl
theorem g_holds13 {S : aS} (ok : OkL S) (a b e f : Int) : (if isAS S 108 a then (if isAS S 108 b then (if isAS S 99 e then (if isAS S 45 f then (if p_dot_S (p_pole_S (tpT S a) (tpR S e)) (tpT S b) = 0 then 1 else 0) else -1) else -1) else -1) else -1) = if isS S a 1 ∧ isS S b 1 ∧ isS S e 2 then (if m_dot_S (m_pole_S (tpR S a) (tpR S e)) (tpR S b) = 0 then 1 else 0) else -1 := by
  refine hold_if (C := isS S a 1 ∧ isS S b 1 ∧ isS S e 2) ?_ fun hC => ?_
  · rw [as_l (S := S) (t := a), as_l (S := S) (t := b), as_c (S := S) (t := e), iff_true_intro (as_0 (S := S) (t := f))]
    simp only [and_true]
  · skip
    have e : p_pole_S (tpT S a) (tpR S e) = t3f (m_pole_S (tpR S a) (tpR S e)) := po_eq (tpR S a) (tpR S e)
    rw [e]
    exact Iff.rfl
theorem g_holds14 {S : aS} (ok : OkL S) (a b e f : Int) : (if isAS S 112 a then (if isAS S 112 b then (if isAS S 112 e then (if isAS S 112 f then (if (¬((p_cross_S ((tpT S a)) ((tpT S b))).1 = 0 ∧ (p_cross_S ((tpT S a)) ((tpT S b))).2.1 = 0 ∧ (p_cross_S ((tpT S a)) ((tpT S b))).2.2 = 0) ∧ ¬((p_cross_S ((tpT S a)) ((tpT S e))).1 = 0 ∧ (p_cross_S ((tpT S a)) ((tpT S e))).2.1 = 0 ∧ (p_cross_S ((tpT S a)) ((tpT S e))).2.2 = 0) ∧ ¬((p_cross_S ((tpT S a)) ((tpT S f))).1 = 0 ∧ (p_cross_S ((tpT S a)) ((tpT S f))).2.1 = 0 ∧ (p_cross_S ((tpT S a)) ((tpT S f))).2.2 = 0) ∧ ¬((p_cross_S ((tpT S b)) ((tpT S e))).1 = 0 ∧ (p_cross_S ((tpT S b)) ((tpT S e))).2.1 = 0 ∧ (p_cross_S ((tpT S b)) ((tpT S e))).2.2 = 0) ∧ ¬((p_cross_S ((tpT S b)) ((tpT S f))).1 = 0 ∧ (p_cross_S ((tpT S b)) ((tpT S f))).2.1 = 0 ∧ (p_cross_S ((tpT S b)) ((tpT S f))).2.2 = 0) ∧ ¬((p_cross_S ((tpT S e)) ((tpT S f))).1 = 0 ∧ (p_cross_S ((tpT S e)) ((tpT S f))).2.1 = 0 ∧ (p_cross_S ((tpT S e)) ((tpT S f))).2.2 = 0)) ∧ p_dot_S (p_cross_S (tpT S a) (tpT S b)) (tpT S e) = 0 ∧ p_dot_S (p_cross_S (tpT S a) (tpT S b)) (tpT S f) = 0 ∧ p_bra_S (tpT S a) (tpT S e) (p_cross_S (tpT S a) (tpT S b)) * p_bra_S (tpT S b) (tpT S f) (p_cross_S (tpT S a) (tpT S b)) + p_bra_S (tpT S a) (tpT S f) (p_cross_S (tpT S a) (tpT S b)) * p_bra_S (tpT S b) (tpT S e) (p_cross_S (tpT S a) (tpT S b)) = 0 then 1 else 0) else -1) else -1) else -1) else -1) = if isS S a 0 ∧ isS S b 0 ∧ isS S e 0 ∧ isS S f 0 then (if (¬ (sTp S a.toNat 0 = sTp S b.toNat 0 ∧ sTp S a.toNat 1 = sTp S b.toNat 1 ∧ sTp S a.toNat 2 = sTp S b.toNat 2 ∧ sTp S a.toNat 3 = sTp S b.toNat 3) ∧ ¬ (sTp S a.toNat 0 = sTp S e.toNat 0 ∧ sTp S a.toNat 1 = sTp S e.toNat 1 ∧ sTp S a.toNat 2 = sTp S e.toNat 2 ∧ sTp S a.toNat 3 = sTp S e.toNat 3) ∧ ¬ (sTp S a.toNat 0 = sTp S f.toNat 0 ∧ sTp S a.toNat 1 = sTp S f.toNat 1 ∧ sTp S a.toNat 2 = sTp S f.toNat 2 ∧ sTp S a.toNat 3 = sTp S f.toNat 3) ∧ ¬ (sTp S b.toNat 0 = sTp S e.toNat 0 ∧ sTp S b.toNat 1 = sTp S e.toNat 1 ∧ sTp S b.toNat 2 = sTp S e.toNat 2 ∧ sTp S b.toNat 3 = sTp S e.toNat 3) ∧ ¬ (sTp S b.toNat 0 = sTp S f.toNat 0 ∧ sTp S b.toNat 1 = sTp S f.toNat 1 ∧ sTp S b.toNat 2 = sTp S f.toNat 2 ∧ sTp S b.toNat 3 = sTp S f.toNat 3) ∧ ¬ (sTp S e.toNat 0 = sTp S f.toNat 0 ∧ sTp S e.toNat 1 = sTp S f.toNat 1 ∧ sTp S e.toNat 2 = sTp S f.toNat 2 ∧ sTp S e.toNat 3 = sTp S f.toNat 3)) ∧ m_det_S (tpR S a) (tpR S b) (tpR S e) = 0 ∧ m_det_S (tpR S a) (tpR S b) (tpR S f) = 0 ∧ m_crB (m_t3 (tpR S f)) (m_harm_O (tpR S a) (tpR S b) (m_t3 (tpR S e))) = true then 1 else 0) else -1 := by
  refine hold_if (C := isS S a 0 ∧ isS S b 0 ∧ isS S e 0 ∧ isS S f 0) ?_ fun hC => ?_
  · rw [as_p (S := S) (t := a), as_p (S := S) (t := b), as_p (S := S) (t := e), as_p (S := S) (t := f)]
    skip
  · skip
    have pa := ok.p hC.1
    have pb := ok.p hC.2.1
    have pe := ok.p hC.2.2.1
    have pf := ok.p hC.2.2.2
    have c1 := crT_iff pa pb
    have c2 := crT_iff pa pe
    have c3 := crT_iff pa pf
    have c4 := crT_iff pb pe
    have c5 := crT_iff pb pf
    have c6 := crT_iff pe pf
    have e3 : p_dot_S (p_cross_S (tpT S a) (tpT S b)) (tpT S e) = m_det_S (tpR S a) (tpR S b) (tpR S e) := det_eq (tpR S a) (tpR S b) (tpR S e)
    have e4 : p_dot_S (p_cross_S (tpT S a) (tpT S b)) (tpT S f) = m_det_S (tpR S a) (tpR S b) (tpR S f) := det_eq (tpR S a) (tpR S b) (tpR S f)
    have hh : ∀ z : ¬ crT S a b, ∀ z2 : ¬ crT S a e, ∀ z3 : ¬ crT S b e, ∀ z4 : p_dot_S (p_cross_S (tpT S a) (tpT S b)) (tpT S e) = 0, m_harm_O (tpR S a) (tpR S b) (m_t3 (tpR S e)) = some (m_harm_S (t4 (tpT S a)) (t4 (tpT S b)) (t4 (tpT S e))) := fun z z2 z3 z4 => if_neg (fun y => ((harm_C (tpT S a) (tpT S b) (tpT S e)).mp y).elim z (fun y => y.elim (fun y => y z4) (fun y => y.elim z2 z3)))
    have hx := harm_S (tpT S a) (tpT S b) (tpT S e)
    have hy : ∀ G : T4, ((m_cross_S G (m_t3 (tpR S f))).1 = 0 ∧ (m_cross_S G (m_t3 (tpR S f))).2.1 = 0 ∧ (m_cross_S G (m_t3 (tpR S f))).2.2.1 = 0) ↔ ((p_cross_S (t3f G) (tpT S f)).1 = 0 ∧ (p_cross_S (t3f G) (tpT S f)).2.1 = 0 ∧ (p_cross_S (t3f G) (tpT S f)).2.2 = 0) := fun G => Iff.rfl
    constructor
    · rintro ⟨⟨y1, y2, y3, y4, y5, y6⟩, z3, z4, z5⟩
      refine ⟨⟨fun h => y1 (c1.mpr h), fun h => y2 (c2.mpr h), fun h => y3 (c3.mpr h), fun h => y4 (c4.mpr h), fun h => y5 (c5.mpr h), fun h => y6 (c6.mpr h)⟩, e3.symm.trans z3, e4.symm.trans z4, ?_⟩
      rw [hh y1 y2 y4 z3]
      refine decide_eq_true ((hy _).mpr ?_)
      rw [← hx]
      exact (cross_4 _ _ _ _ y1 z3 z4).mpr z5
    · rintro ⟨⟨y1, y2, y3, y4, y5, y6⟩, z3, z4, z5⟩
      have x1 : ¬ crT S a b := fun h => y1 (c1.mp h)
      have x2 : ¬ crT S a e := fun h => y2 (c2.mp h)
      have x4 : ¬ crT S b e := fun h => y4 (c4.mp h)
      refine ⟨⟨x1, x2, fun h => y3 (c3.mp h), x4, fun h => y5 (c5.mp h), fun h => y6 (c6.mp h)⟩, e3.trans z3, e4.trans z4, ?_⟩
      rw [hh x1 x2 x4 (e3.trans z3)] at z5
      have z6 := (hy _).mp (of_decide_eq_true z5)
      rw [← hx] at z6
      exact (cross_4 _ _ _ _ x1 (e3.trans z3) (e4.trans z4)).mp z6
