/-! the class's plane, on: constructions: printed by wip/whole/d2.py -/
/-- the root of a square -/
noncomputable def rootO (x : Int) : Option Int := match Classical.propDecidable (∃ s : Nat, x = ((s * s : Nat) : Int)) with
  | isTrue h => some (h.choose : Int)
  | isFalse _ => none
theorem rootO_yes {x : Int} {s : Nat} (h : x = ((s * s : Nat) : Int)) : rootO x = some (s : Int) := by
  unfold rootO
  cases Classical.propDecidable (∃ s : Nat, x = ((s * s : Nat) : Int)) with
  | isTrue q =>
    have h1 := q.choose_spec
    show some ((q.choose : Nat) : Int) = some (s : Int)
    have h2 : q.choose * q.choose = s * s := by omega
    rw [Nat.mul_self_inj.mp h2]
  | isFalse q => exact absurd ⟨s, h⟩ q
theorem rootO_no {x : Int} (h : ¬ ∃ s : Nat, x = ((s * s : Nat) : Int)) : rootO x = none := by
  unfold rootO
  cases Classical.propDecidable (∃ s : Nat, x = ((s * s : Nat) : Int)) with
  | isTrue q => exact absurd q h
  | isFalse q => rfl
def OW (h : aH) (c : Nat) (r : Option Nat) (z : Option Int) (k : Nat) : Prop := match z with
  | none => r = none
  | some z => ∃ p, r = some p ∧ WB h c p z k
theorem s_rootO {w : aW} {d : Nat} (hd : 4 ≤ d) {h : aH} {c : Nat} (ci : CI h c) {a : Nat} {x : Int} {j : Nat} (wa : WB h c a x j) (hj : j ≤ 376) (hT9 : hV h (c + 1) 1 ≤ 398) : WP w d 187 [aO (some (c + 1)), aO (some a)] h (RO (fun r h1 => Gr h h1 c 3 ∧ OW h1 c r (rootO x) 189)) := by
  refine (s_root hd ci wa hj hT9).imp ?_
  rintro _ h1 ⟨r, rfl, g, q⟩
  refine ⟨r, rfl, g, ?_⟩
  rcases q with ⟨q1, q2⟩ | ⟨p, s, q1, q2, q3⟩
  · rw [rootO_no q2]
    exact q1
  · rw [rootO_yes q2]
    exact ⟨p, q1, q3⟩
def p_middle_S (P : T3) (Q : T3) : T3 := (P.1 * Q.2.2 + Q.1 * P.2.2, P.2.1 * Q.2.2 + Q.2.1 * P.2.2, 2 * (P.2.2 * Q.2.2))
def p_middle_O (P : T3) (Q : T3) : Option T3 := if P.2.2 = 0 ∨ Q.2.2 = 0 then none else some (p_middle_S P Q)
set_option maxHeartbeats 4000000 in
theorem p_middle {w : aW} {d : Nat} (hd : 4 ≤ d) {k : Nat} {h : aH} {c : Nat} (ci : CI h c) {aP : Nat} {P : T3} (tP : TB h c aP P (k)) {aQ : Nat} {Q : T3} (tQ : TB h c aQ Q (k))  (hk : k ≤ 190) : WP w d 50 [aO (some (c + 6)), aO (some aP), aO (some aQ)] h (RO (fun r h1 => Gr h h1 c 5 ∧ OT h1 c r (p_middle_O P Q) (2 * k + 1))) := by
  obtain ⟨d, rfl⟩ : ∃ d1, d = d1 + 1 := ⟨d - 1, by omega⟩
  refine WP.enter (cd := cd_X2_middle) rfl ?_
  have G0 := Gr.refl ci
  obtain ⟨Px, Py, Pw, fP, wPx, wPy, wPw⟩ := tP
  obtain ⟨Qx, Qy, Qw, fQ, wQx, wQy, wQw⟩ := tQ
  have hls : largs 0 [aO (some (c + 6)), aO (some aP), aO (some aQ)] = [(0, aO (some (c + 6))), (1, aO (some aP)), (2, aO (some aQ))] := rfl
  rw [hls]
  clear hls
  refine g_aload_n rfl rfl ?_
  refine g_aload_n rfl rfl ?_
  refine g_callVI [aO (some aP)] [] rfl rfl rfl rfl (Nat.le_of_ble_eq_true rfl) (G0.cs.kd 6 (by omega) rfl) (p_isFar (by omega) G0.ci (show TB h c aP P (k) from ⟨_, _, _, fP, (wPx.up (by omega)), (wPy.up (by omega)), (wPw.up (by omega))⟩)) ?_
  rintro _ hx1 ⟨ehx1, rfl⟩
  rw [ehx1]
  clear ehx1 hx1
  refine g_b_ne rfl (fun c5 => ?_) (fun c5 => ?_)
  · skip
    refine g_null rfl ?_
    refine g_aret rfl ?_
    refine ⟨G0.mono (by omega), ?_⟩
    unfold p_middle_O
    rw [if_pos (by omega)]
    rfl
  · skip
    refine g_aload_n rfl rfl ?_
    refine g_aload_n rfl rfl ?_
    refine g_callVI [aO (some aQ)] [] rfl rfl rfl rfl (Nat.le_of_ble_eq_true rfl) (G0.cs.kd 6 (by omega) rfl) (p_isFar (by omega) G0.ci (show TB h c aQ Q (k) from ⟨_, _, _, fQ, (wQx.up (by omega)), (wQy.up (by omega)), (wQw.up (by omega))⟩)) ?_
    rintro _ hx2 ⟨ehx2, rfl⟩
    rw [ehx2]
    clear ehx2 hx2
    refine g_b_eq rfl (fun c13 => ?_) (fun c13 => ?_)
    · skip
      refine g_new rfl ?_
      obtain ⟨g3, ob3⟩ := Gr.mk (k := 19) (m := 3) G0.ci (by decide) (by decide)
      obtain ⟨t3, et3⟩ : ∃ t, t = hz h := ⟨_, rfl⟩
      obtain ⟨h3, eh3⟩ : ∃ hq9, hq9 = hnew h 19 3 := ⟨_, rfl⟩
      rw [← eh3, ← et3] at ob3
      rw [← eh3] at g3
      refine g_hp (h2 := h3) eh3.symm ?_
      refine g_top (v2 := aO (some t3)) (by rw [et3]) ?_
      have G3 := G0.trans g3
      refine g_dup rfl rfl ?_
      refine g_aload_n rfl rfl ?_
      refine g_getR rfl (G3.cs.kd 6 (by omega) rfl) (G3.cs.rf 5 (by omega) rfl) ?_
      refine g_aload_n rfl rfl ?_
      refine g_getR rfl (g3.tf fP).1.2.2 (g3.tf fP).2.1 ?_
      refine g_aload_n rfl rfl ?_
      refine g_getR rfl (g3.tf fQ).1.2.2 (g3.tf fQ).2.2.2 ?_
      refine g_aload_n rfl rfl ?_
      refine g_getR rfl (g3.tf fQ).1.2.2 (g3.tf fQ).2.1 ?_
      refine g_aload_n rfl rfl ?_
      refine g_getR rfl (g3.tf fP).1.2.2 (g3.tf fP).2.2.2 ?_
      refine g_callVO [aO (some Px), aO (some Qw), aO (some Qx), aO (some Pw)] [aO (some t3), aO (some t3)] rfl rfl rfl rfl (Nat.le_of_ble_eq_true rfl) (G3.cs.kd 1 (by omega) rfl) (s_added (by omega) G3.ci (g3.wb wPx) (g3.wb wQw) (g3.wb wQx) (g3.wb wPw) (2 * k + 1) (by omega) (by omega) (by omega)) ?_
      rintro _ h4 ⟨p4, rfl, g4, wp4⟩
      have G4 := G3.trans g4
      refine g_aload_n rfl rfl ?_
      refine g_getR rfl (G4.cs.kd 6 (by omega) rfl) (G4.cs.rf 5 (by omega) rfl) ?_
      refine g_aload_n rfl rfl ?_
      refine g_getR rfl (g4.tf (g3.tf fP)).1.2.2 (g4.tf (g3.tf fP)).2.2.1 ?_
      refine g_aload_n rfl rfl ?_
      refine g_getR rfl (g4.tf (g3.tf fQ)).1.2.2 (g4.tf (g3.tf fQ)).2.2.2 ?_
      refine g_aload_n rfl rfl ?_
      refine g_getR rfl (g4.tf (g3.tf fQ)).1.2.2 (g4.tf (g3.tf fQ)).2.2.1 ?_
      refine g_aload_n rfl rfl ?_
      refine g_getR rfl (g4.tf (g3.tf fP)).1.2.2 (g4.tf (g3.tf fP)).2.2.2 ?_
      refine g_callVO [aO (some Py), aO (some Qw), aO (some Qy), aO (some Pw)] [aO (some p4), aO (some t3), aO (some t3)] rfl rfl rfl rfl (Nat.le_of_ble_eq_true rfl) (G4.cs.kd 1 (by omega) rfl) (s_added (by omega) G4.ci (g4.wb (g3.wb wPy)) (g4.wb (g3.wb wQw)) (g4.wb (g3.wb wQy)) (g4.wb (g3.wb wPw)) (2 * k + 1) (by omega) (by omega) (by omega)) ?_
      rintro _ h5 ⟨p5, rfl, g5, wp5⟩
      have G5 := G4.trans g5
      refine g_aload_n rfl rfl ?_
      refine g_getR rfl (G5.cs.kd 6 (by omega) rfl) (G5.cs.rf 5 (by omega) rfl) ?_
      refine g_aload_n rfl rfl ?_
      refine g_getR rfl (G5.cs.kd 6 (by omega) rfl) (G5.cs.rf 5 (by omega) rfl) ?_
      refine g_aload_n rfl rfl ?_
      refine g_getR rfl (g5.tf (g4.tf (g3.tf fP))).1.2.2 (g5.tf (g4.tf (g3.tf fP))).2.2.2 ?_
      refine g_aload_n rfl rfl ?_
      refine g_getR rfl (g5.tf (g4.tf (g3.tf fQ))).1.2.2 (g5.tf (g4.tf (g3.tf fQ))).2.2.2 ?_
      refine g_callVO [aO (some Pw), aO (some Qw)] [aO (some (c + 1)), aO (some p5), aO (some p4), aO (some t3), aO (some t3)] rfl rfl rfl rfl (Nat.le_of_ble_eq_true rfl) (G5.cs.kd 1 (by omega) rfl) (s_times (by omega) G5.ci (g5.wb (g4.wb (g3.wb wPw))) (g5.wb (g4.wb (g3.wb wQw))) (by omega)) ?_
      rintro _ h6 ⟨p6, rfl, g6, wp6⟩
      have G6 := G5.trans g6
      refine g_callVO [aO (some p6)] [aO (some p5), aO (some p4), aO (some t3), aO (some t3)] rfl rfl rfl rfl (Nat.le_of_ble_eq_true rfl) (G6.cs.kd 1 (by omega) rfl) (s_twice (by omega) G6.ci wp6 (by omega)) ?_
      rintro _ h7 ⟨p7, rfl, g7, wp7⟩
      have G7 := G6.trans g7
      refine g_callIN [aO (some p4), aO (some p5), aO (some p7)] [aO (some t3)] rfl (by decide) rfl rfl rfl (Nat.le_of_ble_eq_true rfl) (g7.ob (g6.ob (g5.ob (g4.ob ob3)))).2.2 (k_Triple (by omega) (g7.ob (g6.ob (g5.ob (g4.ob ob3)))).2.2 (g7.ob (g6.ob (g5.ob (g4.ob ob3)))).1 p4 p5 p7) ?_
      rintro _ rfl
      have c8 := ct3 (P := (P.1 * Q.2.2 + Q.1 * P.2.2, P.2.1 * Q.2.2 + Q.2.1 * P.2.2, 2 * (P.2.2 * Q.2.2))) (k := 2 * k + 1) G7 (g7.ob (g6.ob (g5.ob (g4.ob ob3)))) (by have := G0.2.1.1; omega) ((g7.wb (g6.wb (g5.wb wp4))).up (by omega)) ((g7.wb (g6.wb wp5)).up (by omega)) (wp7.up (by omega))
      have faP_8 := c8.2.2.2.1 _ _ _ _ (by have := fP.1.1; omega) (g7.tf (g6.tf (g5.tf (g4.tf (g3.tf fP)))))
      have faQ_8 := c8.2.2.2.1 _ _ _ _ (by have := fQ.1.1; omega) (g7.tf (g6.tf (g5.tf (g4.tf (g3.tf fQ)))))
      obtain ⟨h8, eh8⟩ : ∃ hq9, hq9 = pt3 h7 t3 p4 p5 p7 := ⟨_, rfl⟩
      refine g_hp (h2 := h8) (by rw [eh8]; rfl) ?_
      rw [← eh8] at c8 faP_8 faQ_8
      have G8 := c8.1
      obtain ⟨q8x, q8y, q8w, f8, wq8x, wq8y, wq8w⟩ := c8.2.1
      refine g_aret rfl ?_
      refine ⟨G8.mono (by omega), ?_⟩
      unfold p_middle_O
      rw [if_neg (by omega)]
      exact ⟨t3, rfl, _, _, _, f8, (wq8x.up (by omega)), (wq8y.up (by omega)), (wq8w.up (by omega))⟩
    · skip
      refine g_null rfl ?_
      refine g_aret rfl ?_
      refine ⟨G0.mono (by omega), ?_⟩
      unfold p_middle_O
      rw [if_pos (by omega)]
      rfl
def p_farSq_S (P : T3) : T3 := (P.1, P.2.1, 0)
set_option maxHeartbeats 4000000 in
theorem p_farSq {w : aW} {d : Nat} (hd : 4 ≤ d) {k : Nat} {h : aH} {c : Nat} (ci : CI h c) {aP : Nat} {P : T3} (tP : TB h c aP P (k))  : WP w d 51 [aO (some (c + 6)), aO (some aP)] h (RO (fun r h1 => ∃ p, r = some p ∧ Gr h h1 c 2 ∧ TB h1 c p (p_farSq_S P) (k))) := by
  obtain ⟨d, rfl⟩ : ∃ d1, d = d1 + 1 := ⟨d - 1, by omega⟩
  refine WP.enter (cd := cd_X2_farSquareTo) rfl ?_
  have G0 := Gr.refl ci
  obtain ⟨Px, Py, Pw, fP, wPx, wPy, wPw⟩ := tP
  have hls : largs 0 [aO (some (c + 6)), aO (some aP)] = [(0, aO (some (c + 6))), (1, aO (some aP))] := rfl
  rw [hls]
  clear hls
  refine g_new rfl ?_
  obtain ⟨g1, ob1⟩ := Gr.mk (k := 19) (m := 3) G0.ci (by decide) (by decide)
  obtain ⟨t1, et1⟩ : ∃ t, t = hz h := ⟨_, rfl⟩
  obtain ⟨h1, eh1⟩ : ∃ hq9, hq9 = hnew h 19 3 := ⟨_, rfl⟩
  rw [← eh1, ← et1] at ob1
  rw [← eh1] at g1
  refine g_hp (h2 := h1) eh1.symm ?_
  refine g_top (v2 := aO (some t1)) (by rw [et1]) ?_
  have G1 := G0.trans g1
  refine g_dup rfl rfl ?_
  refine g_aload_n rfl rfl ?_
  refine g_getR rfl (g1.tf fP).1.2.2 (g1.tf fP).2.1 ?_
  refine g_aload_n rfl rfl ?_
  refine g_getR rfl (g1.tf fP).1.2.2 (g1.tf fP).2.2.1 ?_
  refine g_aload_n rfl rfl ?_
  refine g_getR rfl (G1.cs.kd 6 (by omega) rfl) (G1.cs.rf 5 (by omega) rfl) ?_
  refine g_lconst0 rfl ?_
  refine g_callVO [aJ 0] [aO (some Py), aO (some Px), aO (some t1), aO (some t1)] rfl rfl rfl rfl (Nat.le_of_ble_eq_true rfl) (G1.cs.kd 1 (by omega) rfl) (s_of (by omega) G1.ci 0 (by unfold r64; omega) 0 (by omega) (by omega)) ?_
  rintro _ h2 ⟨p2, rfl, g2, wp2⟩
  have G2 := G1.trans g2
  refine g_callIN [aO (some Px), aO (some Py), aO (some p2)] [aO (some t1)] rfl (by decide) rfl rfl rfl (Nat.le_of_ble_eq_true rfl) (g2.ob ob1).2.2 (k_Triple (by omega) (g2.ob ob1).2.2 (g2.ob ob1).1 Px Py p2) ?_
  rintro _ rfl
  have c3 := ct3 (P := (P.1, P.2.1, 0)) (k := k) G2 (g2.ob ob1) (by have := G0.2.1.1; omega) ((g2.wb (g1.wb wPx)).up (by omega)) ((g2.wb (g1.wb wPy)).up (by omega)) (wp2.up (by omega))
  have faP_3 := c3.2.2.2.1 _ _ _ _ (by have := fP.1.1; omega) (g2.tf (g1.tf fP))
  obtain ⟨h3, eh3⟩ : ∃ hq9, hq9 = pt3 h2 t1 Px Py p2 := ⟨_, rfl⟩
  refine g_hp (h2 := h3) (by rw [eh3]; rfl) ?_
  rw [← eh3] at c3 faP_3
  have G3 := c3.1
  obtain ⟨q3x, q3y, q3w, f3, wq3x, wq3y, wq3w⟩ := c3.2.1
  refine g_aret rfl ?_
  exact ⟨t1, rfl, G3.mono (by omega), _, _, _, f3, (wq3x.up (by omega)), (wq3y.up (by omega)), (wq3w.up (by omega))⟩
def p_along_O (P L : T3) : Option T3 := if L.1 = 0 ∧ L.2.1 = 0 then none else p_common_O P (L.2.1, -L.1, 0)
set_option maxHeartbeats 4000000 in
theorem p_along {w : aW} {d : Nat} (hd : 6 ≤ d) {k : Nat} {h : aH} {c : Nat} (ci : CI h c) {aP : Nat} {P : T3} (tP : TB h c aP P (k)) {aL : Nat} {L : T3} (tL : TB h c aL L (k))  (hk : k ≤ 190) : WP w d 52 [aO (some (c + 6)), aO (some aP), aO (some aL)] h (RO (fun r h1 => Gr h h1 c 10 ∧ OT h1 c r (p_along_O P L) (2 * k + 1))) := by
  obtain ⟨d, rfl⟩ : ∃ d1, d = d1 + 1 := ⟨d - 1, by omega⟩
  refine WP.enter (cd := cd_X2_lineAlong) rfl ?_
  have G0 := Gr.refl ci
  obtain ⟨Px, Py, Pw, fP, wPx, wPy, wPw⟩ := tP
  obtain ⟨Lx, Ly, Lw, fL, wLx, wLy, wLw⟩ := tL
  have hls : largs 0 [aO (some (c + 6)), aO (some aP), aO (some aL)] = [(0, aO (some (c + 6))), (1, aO (some aP)), (2, aO (some aL))] := rfl
  rw [hls]
  clear hls
  refine g_aload_n rfl rfl ?_
  refine g_aload_n rfl rfl ?_
  refine g_callVI [aO (some aL)] [] rfl rfl rfl rfl (Nat.le_of_ble_eq_true rfl) (G0.cs.kd 6 (by omega) rfl) (p_hasAllFar (by omega) G0.ci (show TB h c aL L (k) from ⟨_, _, _, fL, (wLx.up (by omega)), (wLy.up (by omega)), (wLw.up (by omega))⟩)) ?_
  rintro _ hx1 ⟨ehx1, rfl⟩
  rw [ehx1]
  clear ehx1 hx1
  refine g_b_eq rfl (fun c5 => ?_) (fun c5 => ?_)
  · skip
    refine g_aload_n rfl rfl ?_
    refine g_aload_n rfl rfl ?_
    refine g_new rfl ?_
    obtain ⟨g2, ob2⟩ := Gr.mk (k := 19) (m := 3) G0.ci (by decide) (by decide)
    obtain ⟨t2, et2⟩ : ∃ t, t = hz h := ⟨_, rfl⟩
    obtain ⟨h2, eh2⟩ : ∃ hq9, hq9 = hnew h 19 3 := ⟨_, rfl⟩
    rw [← eh2, ← et2] at ob2
    rw [← eh2] at g2
    refine g_hp (h2 := h2) eh2.symm ?_
    refine g_top (v2 := aO (some t2)) (by rw [et2]) ?_
    have G2 := G0.trans g2
    refine g_dup rfl rfl ?_
    refine g_aload_n rfl rfl ?_
    refine g_getR rfl (g2.tf fL).1.2.2 (g2.tf fL).2.2.1 ?_
    refine g_aload_n rfl rfl ?_
    refine g_getR rfl (G2.cs.kd 6 (by omega) rfl) (G2.cs.rf 5 (by omega) rfl) ?_
    refine g_aload_n rfl rfl ?_
    refine g_getR rfl (g2.tf fL).1.2.2 (g2.tf fL).2.1 ?_
    refine g_callVO [aO (some Lx)] [aO (some Ly), aO (some t2), aO (some t2), aO (some aP), aO (some (c + 6))] rfl rfl rfl rfl (Nat.le_of_ble_eq_true rfl) (G2.cs.kd 1 (by omega) rfl) (s_neg (by omega) G2.ci (g2.wb wLx) (by omega)) ?_
    rintro _ h3 ⟨p3, rfl, g3, wp3⟩
    have G3 := G2.trans g3
    refine g_aload_n rfl rfl ?_
    refine g_getR rfl (G3.cs.kd 6 (by omega) rfl) (G3.cs.rf 5 (by omega) rfl) ?_
    refine g_lconst0 rfl ?_
    refine g_callVO [aJ 0] [aO (some p3), aO (some Ly), aO (some t2), aO (some t2), aO (some aP), aO (some (c + 6))] rfl rfl rfl rfl (Nat.le_of_ble_eq_true rfl) (G3.cs.kd 1 (by omega) rfl) (s_of (by omega) G3.ci 0 (by unfold r64; omega) 0 (by omega) (by omega)) ?_
    rintro _ h4 ⟨p4, rfl, g4, wp4⟩
    have G4 := G3.trans g4
    refine g_callIN [aO (some Ly), aO (some p3), aO (some p4)] [aO (some t2), aO (some aP), aO (some (c + 6))] rfl (by decide) rfl rfl rfl (Nat.le_of_ble_eq_true rfl) (g4.ob (g3.ob ob2)).2.2 (k_Triple (by omega) (g4.ob (g3.ob ob2)).2.2 (g4.ob (g3.ob ob2)).1 Ly p3 p4) ?_
    rintro _ rfl
    have c5 := ct3 (P := (L.2.1, -L.1, 0)) (k := k) G4 (g4.ob (g3.ob ob2)) (by have := G0.2.1.1; omega) ((g4.wb (g3.wb (g2.wb wLy))).up (by omega)) ((g4.wb wp3).up (by omega)) (wp4.up (by omega))
    have faP_5 := c5.2.2.2.1 _ _ _ _ (by have := fP.1.1; omega) (g4.tf (g3.tf (g2.tf fP)))
    have faL_5 := c5.2.2.2.1 _ _ _ _ (by have := fL.1.1; omega) (g4.tf (g3.tf (g2.tf fL)))
    obtain ⟨h5, eh5⟩ : ∃ hq9, hq9 = pt3 h4 t2 Ly p3 p4 := ⟨_, rfl⟩
    refine g_hp (h2 := h5) (by rw [eh5]; rfl) ?_
    rw [← eh5] at c5 faP_5 faL_5
    have G5 := c5.1
    obtain ⟨q5x, q5y, q5w, f5, wq5x, wq5y, wq5w⟩ := c5.2.1
    refine g_callVO [aO (some aP), aO (some t2)] [] rfl rfl rfl rfl (Nat.le_of_ble_eq_true rfl) (G5.cs.kd 6 (by omega) rfl) (p_common (by omega) G5.ci (show TB h5 c aP P (k) from ⟨_, _, _, faP_5, ((c5.2.2.1 _ _ _ (g4.wb (g3.wb (g2.wb wPx)))).up (by omega)), ((c5.2.2.1 _ _ _ (g4.wb (g3.wb (g2.wb wPy)))).up (by omega)), ((c5.2.2.1 _ _ _ (g4.wb (g3.wb (g2.wb wPw)))).up (by omega))⟩) (show TB h5 c t2 ((L.2.1, -L.1, 0)) (k) from ⟨_, _, _, f5, (wq5x.up (by omega)), (wq5y.up (by omega)), (wq5w.up (by omega))⟩) (by omega)) ?_
    rintro r6 h6 ⟨g6, q6⟩
    have G6 := G5.trans g6
    cases eS6 : p_common_O P ((L.2.1, -L.1, 0)) with
    | none =>
      rw [eS6] at q6
      obtain rfl : r6 = none := q6
      refine g_aret rfl ?_
      refine ⟨G6.mono (by omega), ?_⟩
      unfold p_along_O
      first
        | (rw [if_pos (by omega)]; rfl)
        | (rw [if_neg (by omega), eS6]; rfl)
    | some P6 =>
      rw [eS6] at q6
      obtain ⟨p6, rfl, p6x, p6y, p6w, f6, wp6x, wp6y, wp6w⟩ := q6
      refine g_aret rfl ?_
      refine ⟨G6.mono (by omega), ?_⟩
      unfold p_along_O
      rw [if_neg (by omega), eS6]
      exact ⟨p6, rfl, _, _, _, f6, (wp6x.up (by omega)), (wp6y.up (by omega)), (wp6w.up (by omega))⟩
  · skip
    refine g_null rfl ?_
    refine g_aret rfl ?_
    refine ⟨G0.mono (by omega), ?_⟩
    unfold p_along_O
    first
      | (rw [if_pos (by omega)]; rfl)
      | (rw [if_neg (by omega), rfl]; rfl)
def p_across_O (P L : T3) : Option T3 := if L.1 = 0 ∧ L.2.1 = 0 then none else p_common_O P (p_farSq_S L)
set_option maxHeartbeats 4000000 in
theorem p_across {w : aW} {d : Nat} (hd : 6 ≤ d) {k : Nat} {h : aH} {c : Nat} (ci : CI h c) {aP : Nat} {P : T3} (tP : TB h c aP P (k)) {aL : Nat} {L : T3} (tL : TB h c aL L (k))  (hk : k ≤ 190) : WP w d 53 [aO (some (c + 6)), aO (some aP), aO (some aL)] h (RO (fun r h1 => Gr h h1 c 9 ∧ OT h1 c r (p_across_O P L) (2 * k + 1))) := by
  obtain ⟨d, rfl⟩ : ∃ d1, d = d1 + 1 := ⟨d - 1, by omega⟩
  refine WP.enter (cd := cd_X2_lineAcross) rfl ?_
  have G0 := Gr.refl ci
  obtain ⟨Px, Py, Pw, fP, wPx, wPy, wPw⟩ := tP
  obtain ⟨Lx, Ly, Lw, fL, wLx, wLy, wLw⟩ := tL
  have hls : largs 0 [aO (some (c + 6)), aO (some aP), aO (some aL)] = [(0, aO (some (c + 6))), (1, aO (some aP)), (2, aO (some aL))] := rfl
  rw [hls]
  clear hls
  refine g_aload_n rfl rfl ?_
  refine g_aload_n rfl rfl ?_
  refine g_callVI [aO (some aL)] [] rfl rfl rfl rfl (Nat.le_of_ble_eq_true rfl) (G0.cs.kd 6 (by omega) rfl) (p_hasAllFar (by omega) G0.ci (show TB h c aL L (k) from ⟨_, _, _, fL, (wLx.up (by omega)), (wLy.up (by omega)), (wLw.up (by omega))⟩)) ?_
  rintro _ hx1 ⟨ehx1, rfl⟩
  rw [ehx1]
  clear ehx1 hx1
  refine g_b_eq rfl (fun c5 => ?_) (fun c5 => ?_)
  · skip
    refine g_aload_n rfl rfl ?_
    refine g_aload_n rfl rfl ?_
    refine g_aload_n rfl rfl ?_
    refine g_aload_n rfl rfl ?_
    refine g_callVO [aO (some aL)] [aO (some aP), aO (some (c + 6))] rfl rfl rfl rfl (Nat.le_of_ble_eq_true rfl) (G0.cs.kd 6 (by omega) rfl) (p_farSq (by omega) G0.ci (show TB h c aL L (k) from ⟨_, _, _, fL, (wLx.up (by omega)), (wLy.up (by omega)), (wLw.up (by omega))⟩)) ?_
    rintro _ h2 ⟨p2, rfl, g2, p2x, p2y, p2w, f2, wp2x, wp2y, wp2w⟩
    have G2 := G0.trans g2
    refine g_callVO [aO (some aP), aO (some p2)] [] rfl rfl rfl rfl (Nat.le_of_ble_eq_true rfl) (G2.cs.kd 6 (by omega) rfl) (p_common (by omega) G2.ci (show TB h2 c aP P (k) from ⟨_, _, _, (g2.tf fP), ((g2.wb wPx).up (by omega)), ((g2.wb wPy).up (by omega)), ((g2.wb wPw).up (by omega))⟩) (show TB h2 c p2 (p_farSq_S L) (k) from ⟨_, _, _, f2, (wp2x.up (by omega)), (wp2y.up (by omega)), (wp2w.up (by omega))⟩) (by omega)) ?_
    rintro r3 h3 ⟨g3, q3⟩
    have G3 := G2.trans g3
    cases eS3 : p_common_O P (p_farSq_S L) with
    | none =>
      rw [eS3] at q3
      obtain rfl : r3 = none := q3
      refine g_aret rfl ?_
      refine ⟨G3.mono (by omega), ?_⟩
      unfold p_across_O
      first
        | (rw [if_pos (by omega)]; rfl)
        | (rw [if_neg (by omega), eS3]; rfl)
    | some P3 =>
      rw [eS3] at q3
      obtain ⟨p3, rfl, p3x, p3y, p3w, f3, wp3x, wp3y, wp3w⟩ := q3
      refine g_aret rfl ?_
      refine ⟨G3.mono (by omega), ?_⟩
      unfold p_across_O
      rw [if_neg (by omega), eS3]
      exact ⟨p3, rfl, _, _, _, f3, (wp3x.up (by omega)), (wp3y.up (by omega)), (wp3w.up (by omega))⟩
  · skip
    refine g_null rfl ?_
    refine g_goto rfl ?_
    refine g_aret rfl ?_
    refine ⟨G0.mono (by omega), ?_⟩
    unfold p_across_O
    first
      | (rw [if_pos (by omega)]; rfl)
      | (rw [if_neg (by omega), rfl]; rfl)
def p_foot_S (P : T3) (L : T3) : T3 := p_cross_S L (p_cross_S P (p_farSq_S L))
def p_foot_O (P : T3) (L : T3) : Option T3 := if P.2.2 = 0 ∨ (L.1 = 0 ∧ L.2.1 = 0) then none else some (p_foot_S P L)
set_option maxHeartbeats 4000000 in
theorem p_foot {w : aW} {d : Nat} (hd : 5 ≤ d) {k : Nat} {h : aH} {c : Nat} (ci : CI h c) {aP : Nat} {P : T3} (tP : TB h c aP P (k)) {aL : Nat} {L : T3} (tL : TB h c aL L (k))  (hk : k ≤ 94) : WP w d 54 [aO (some (c + 6)), aO (some aP), aO (some aL)] h (RO (fun r h1 => Gr h h1 c 16 ∧ OT h1 c r (p_foot_O P L) (4 * k + 3))) := by
  obtain ⟨d, rfl⟩ : ∃ d1, d = d1 + 1 := ⟨d - 1, by omega⟩
  refine WP.enter (cd := cd_X2_foot) rfl ?_
  have G0 := Gr.refl ci
  obtain ⟨Px, Py, Pw, fP, wPx, wPy, wPw⟩ := tP
  obtain ⟨Lx, Ly, Lw, fL, wLx, wLy, wLw⟩ := tL
  have hls : largs 0 [aO (some (c + 6)), aO (some aP), aO (some aL)] = [(0, aO (some (c + 6))), (1, aO (some aP)), (2, aO (some aL))] := rfl
  rw [hls]
  clear hls
  refine g_aload_n rfl rfl ?_
  refine g_aload_n rfl rfl ?_
  refine g_callVI [aO (some aP)] [] rfl rfl rfl rfl (Nat.le_of_ble_eq_true rfl) (G0.cs.kd 6 (by omega) rfl) (p_isFar (by omega) G0.ci (show TB h c aP P (k) from ⟨_, _, _, fP, (wPx.up (by omega)), (wPy.up (by omega)), (wPw.up (by omega))⟩)) ?_
  rintro _ hx1 ⟨ehx1, rfl⟩
  rw [ehx1]
  clear ehx1 hx1
  refine g_b_ne rfl (fun c5 => ?_) (fun c5 => ?_)
  · skip
    refine g_null rfl ?_
    refine g_aret rfl ?_
    refine ⟨G0.mono (by omega), ?_⟩
    unfold p_foot_O
    rw [if_pos (by omega)]
    rfl
  · skip
    refine g_aload_n rfl rfl ?_
    refine g_aload_n rfl rfl ?_
    refine g_callVI [aO (some aL)] [] rfl rfl rfl rfl (Nat.le_of_ble_eq_true rfl) (G0.cs.kd 6 (by omega) rfl) (p_hasAllFar (by omega) G0.ci (show TB h c aL L (k) from ⟨_, _, _, fL, (wLx.up (by omega)), (wLy.up (by omega)), (wLw.up (by omega))⟩)) ?_
    rintro _ hx2 ⟨ehx2, rfl⟩
    rw [ehx2]
    clear ehx2 hx2
    refine g_b_eq rfl (fun c13 => ?_) (fun c13 => ?_)
    · skip
      refine g_aload_n rfl rfl ?_
      refine g_aload_n rfl rfl ?_
      refine g_aload_n rfl rfl ?_
      refine g_aload_n rfl rfl ?_
      refine g_aload_n rfl rfl ?_
      refine g_aload_n rfl rfl ?_
      refine g_callVO [aO (some aL)] [aO (some aP), aO (some (c + 6)), aO (some aL), aO (some (c + 6))] rfl rfl rfl rfl (Nat.le_of_ble_eq_true rfl) (G0.cs.kd 6 (by omega) rfl) (p_farSq (by omega) G0.ci (show TB h c aL L (k) from ⟨_, _, _, fL, (wLx.up (by omega)), (wLy.up (by omega)), (wLw.up (by omega))⟩)) ?_
      rintro _ h3 ⟨p3, rfl, g3, p3x, p3y, p3w, f3, wp3x, wp3y, wp3w⟩
      have G3 := G0.trans g3
      refine g_callVO [aO (some aP), aO (some p3)] [aO (some aL), aO (some (c + 6))] rfl rfl rfl rfl (Nat.le_of_ble_eq_true rfl) (G3.cs.kd 6 (by omega) rfl) (p_cross (by omega) G3.ci (show TB h3 c aP P (k) from ⟨_, _, _, (g3.tf fP), ((g3.wb wPx).up (by omega)), ((g3.wb wPy).up (by omega)), ((g3.wb wPw).up (by omega))⟩) (show TB h3 c p3 (p_farSq_S L) (k) from ⟨_, _, _, f3, (wp3x.up (by omega)), (wp3y.up (by omega)), (wp3w.up (by omega))⟩) (by omega)) ?_
      rintro _ h4 ⟨p4, rfl, g4, p4x, p4y, p4w, f4, wp4x, wp4y, wp4w⟩
      have G4 := G3.trans g4
      refine g_callVO [aO (some aL), aO (some p4)] [] rfl rfl rfl rfl (Nat.le_of_ble_eq_true rfl) (G4.cs.kd 6 (by omega) rfl) (p_cross (by omega) G4.ci (show TB h4 c aL L (2 * k + 1) from ⟨_, _, _, (g4.tf (g3.tf fL)), ((g4.wb (g3.wb wLx)).up (by omega)), ((g4.wb (g3.wb wLy)).up (by omega)), ((g4.wb (g3.wb wLw)).up (by omega))⟩) (show TB h4 c p4 (p_cross_S P (p_farSq_S L)) (2 * k + 1) from ⟨_, _, _, f4, (wp4x.up (by omega)), (wp4y.up (by omega)), (wp4w.up (by omega))⟩) (by omega)) ?_
      rintro _ h5 ⟨p5, rfl, g5, p5x, p5y, p5w, f5, wp5x, wp5y, wp5w⟩
      have G5 := G4.trans g5
      refine g_aret rfl ?_
      refine ⟨G5.mono (by omega), ?_⟩
      unfold p_foot_O
      rw [if_neg (by omega)]
      exact ⟨p5, rfl, _, _, _, f5, (wp5x.up (by omega)), (wp5y.up (by omega)), (wp5w.up (by omega))⟩
    · skip
      refine g_null rfl ?_
      refine g_aret rfl ?_
      refine ⟨G0.mono (by omega), ?_⟩
      unfold p_foot_O
      rw [if_pos (by omega)]
      rfl
def p_mirr_S (P F : T3) : T3 := (F.1 * (2 * P.2.2) - P.1 * F.2.2, F.2.1 * (2 * P.2.2) - P.2.1 * F.2.2, F.2.2 * P.2.2)
def p_mirr_O (P L : T3) : Option T3 := match p_foot_O P L with
  | none => none
  | some F => some (p_mirr_S P F)
set_option maxHeartbeats 4000000 in
theorem p_mirr {w : aW} {d : Nat} (hd : 6 ≤ d) {k : Nat} {h : aH} {c : Nat} (ci : CI h c) {aP : Nat} {P : T3} (tP : TB h c aP P (k)) {aL : Nat} {L : T3} (tL : TB h c aL L (k))  (hk : k ≤ 75) : WP w d 55 [aO (some (c + 6)), aO (some aP), aO (some aL)] h (RO (fun r h1 => Gr h h1 c 23 ∧ OT h1 c r (p_mirr_O P L) (5 * k + 5))) := by
  obtain ⟨d, rfl⟩ : ∃ d1, d = d1 + 1 := ⟨d - 1, by omega⟩
  refine WP.enter (cd := cd_X2_mirrored) rfl ?_
  have G0 := Gr.refl ci
  obtain ⟨Px, Py, Pw, fP, wPx, wPy, wPw⟩ := tP
  obtain ⟨Lx, Ly, Lw, fL, wLx, wLy, wLw⟩ := tL
  have hls : largs 0 [aO (some (c + 6)), aO (some aP), aO (some aL)] = [(0, aO (some (c + 6))), (1, aO (some aP)), (2, aO (some aL))] := rfl
  rw [hls]
  clear hls
  refine g_aload_n rfl rfl ?_
  refine g_aload_n rfl rfl ?_
  refine g_aload_n rfl rfl ?_
  refine g_callVO [aO (some aP), aO (some aL)] [] rfl rfl rfl rfl (Nat.le_of_ble_eq_true rfl) (G0.cs.kd 6 (by omega) rfl) (p_foot (by omega) G0.ci (show TB h c aP P (k) from ⟨_, _, _, fP, (wPx.up (by omega)), (wPy.up (by omega)), (wPw.up (by omega))⟩) (show TB h c aL L (k) from ⟨_, _, _, fL, (wLx.up (by omega)), (wLy.up (by omega)), (wLw.up (by omega))⟩) (by omega)) ?_
  rintro r1 h1 ⟨g1, q1⟩
  have G1 := G0.trans g1
  cases eS1 : p_foot_O P L with
  | none =>
    rw [eS1] at q1
    obtain rfl : r1 = none := q1
    refine g_astore_n (l1 := [(3, aO none), (0, aO (some (c + 6))), (1, aO (some aP)), (2, aO (some aL))]) rfl rfl ?_
    refine g_aload_n rfl rfl ?_
    refine g_ifnonnull_f rfl ?_
    refine g_null rfl ?_
    refine g_aret rfl ?_
    refine ⟨G1.mono (by omega), ?_⟩
    unfold p_mirr_O
    rw [eS1]
    rfl
  | some P1 =>
    rw [eS1] at q1
    obtain ⟨p1, rfl, p1x, p1y, p1w, f1, wp1x, wp1y, wp1w⟩ := q1
    refine g_astore_n (l1 := [(3, aO (some p1)), (0, aO (some (c + 6))), (1, aO (some aP)), (2, aO (some aL))]) rfl rfl ?_
    refine g_aload_n rfl rfl ?_
    refine g_ifnonnull_t rfl ?_
    refine g_aload_n rfl rfl ?_
    refine g_getR rfl (G1.cs.kd 6 (by omega) rfl) (G1.cs.rf 5 (by omega) rfl) ?_
    refine g_aload_n rfl rfl ?_
    refine g_getR rfl (g1.tf fP).1.2.2 (g1.tf fP).2.2.2 ?_
    refine g_callVO [aO (some Pw)] [] rfl rfl rfl rfl (Nat.le_of_ble_eq_true rfl) (G1.cs.kd 1 (by omega) rfl) (s_twice (by omega) G1.ci (g1.wb wPw) (by omega)) ?_
    rintro _ h2 ⟨p2, rfl, g2, wp2⟩
    have G2 := G1.trans g2
    refine g_astore (l1 := [(4, aO (some p2)), (3, aO (some p1)), (0, aO (some (c + 6))), (1, aO (some aP)), (2, aO (some aL))]) rfl rfl ?_
    refine g_new rfl ?_
    obtain ⟨g3, ob3⟩ := Gr.mk (k := 19) (m := 3) G2.ci (by decide) (by decide)
    obtain ⟨t3, et3⟩ : ∃ t, t = hz h2 := ⟨_, rfl⟩
    obtain ⟨h3, eh3⟩ : ∃ hq9, hq9 = hnew h2 19 3 := ⟨_, rfl⟩
    rw [← eh3, ← et3] at ob3
    rw [← eh3] at g3
    refine g_hp (h2 := h3) eh3.symm ?_
    refine g_top (v2 := aO (some t3)) (by rw [et3]) ?_
    have G3 := G2.trans g3
    refine g_dup rfl rfl ?_
    refine g_aload_n rfl rfl ?_
    refine g_getR rfl (G3.cs.kd 6 (by omega) rfl) (G3.cs.rf 5 (by omega) rfl) ?_
    refine g_aload_n rfl rfl ?_
    refine g_getR rfl (g3.tf (g2.tf f1)).1.2.2 (g3.tf (g2.tf f1)).2.1 ?_
    refine g_aload rfl rfl ?_
    refine g_aload_n rfl rfl ?_
    refine g_getR rfl (g3.tf (g2.tf (g1.tf fP))).1.2.2 (g3.tf (g2.tf (g1.tf fP))).2.1 ?_
    refine g_aload_n rfl rfl ?_
    refine g_getR rfl (g3.tf (g2.tf f1)).1.2.2 (g3.tf (g2.tf f1)).2.2.2 ?_
    refine g_callVO [aO (some p1x), aO (some p2), aO (some Px), aO (some p1w)] [aO (some t3), aO (some t3)] rfl rfl rfl rfl (Nat.le_of_ble_eq_true rfl) (G3.cs.kd 1 (by omega) rfl) (s_diff (by omega) G3.ci (g3.wb (g2.wb wp1x)) (g3.wb wp2) (g3.wb (g2.wb (g1.wb wPx))) (g3.wb (g2.wb wp1w)) (5 * k + 5) (by omega) (by omega) (by omega)) ?_
    rintro _ h4 ⟨p4, rfl, g4, wp4⟩
    have G4 := G3.trans g4
    refine g_aload_n rfl rfl ?_
    refine g_getR rfl (G4.cs.kd 6 (by omega) rfl) (G4.cs.rf 5 (by omega) rfl) ?_
    refine g_aload_n rfl rfl ?_
    refine g_getR rfl (g4.tf (g3.tf (g2.tf f1))).1.2.2 (g4.tf (g3.tf (g2.tf f1))).2.2.1 ?_
    refine g_aload rfl rfl ?_
    refine g_aload_n rfl rfl ?_
    refine g_getR rfl (g4.tf (g3.tf (g2.tf (g1.tf fP)))).1.2.2 (g4.tf (g3.tf (g2.tf (g1.tf fP)))).2.2.1 ?_
    refine g_aload_n rfl rfl ?_
    refine g_getR rfl (g4.tf (g3.tf (g2.tf f1))).1.2.2 (g4.tf (g3.tf (g2.tf f1))).2.2.2 ?_
    refine g_callVO [aO (some p1y), aO (some p2), aO (some Py), aO (some p1w)] [aO (some p4), aO (some t3), aO (some t3)] rfl rfl rfl rfl (Nat.le_of_ble_eq_true rfl) (G4.cs.kd 1 (by omega) rfl) (s_diff (by omega) G4.ci (g4.wb (g3.wb (g2.wb wp1y))) (g4.wb (g3.wb wp2)) (g4.wb (g3.wb (g2.wb (g1.wb wPy)))) (g4.wb (g3.wb (g2.wb wp1w))) (5 * k + 5) (by omega) (by omega) (by omega)) ?_
    rintro _ h5 ⟨p5, rfl, g5, wp5⟩
    have G5 := G4.trans g5
    refine g_aload_n rfl rfl ?_
    refine g_getR rfl (G5.cs.kd 6 (by omega) rfl) (G5.cs.rf 5 (by omega) rfl) ?_
    refine g_aload_n rfl rfl ?_
    refine g_getR rfl (g5.tf (g4.tf (g3.tf (g2.tf f1)))).1.2.2 (g5.tf (g4.tf (g3.tf (g2.tf f1)))).2.2.2 ?_
    refine g_aload_n rfl rfl ?_
    refine g_getR rfl (g5.tf (g4.tf (g3.tf (g2.tf (g1.tf fP))))).1.2.2 (g5.tf (g4.tf (g3.tf (g2.tf (g1.tf fP))))).2.2.2 ?_
    refine g_callVO [aO (some p1w), aO (some Pw)] [aO (some p5), aO (some p4), aO (some t3), aO (some t3)] rfl rfl rfl rfl (Nat.le_of_ble_eq_true rfl) (G5.cs.kd 1 (by omega) rfl) (s_times (by omega) G5.ci (g5.wb (g4.wb (g3.wb (g2.wb wp1w)))) (g5.wb (g4.wb (g3.wb (g2.wb (g1.wb wPw))))) (by omega)) ?_
    rintro _ h6 ⟨p6, rfl, g6, wp6⟩
    have G6 := G5.trans g6
    refine g_callIN [aO (some p4), aO (some p5), aO (some p6)] [aO (some t3)] rfl (by decide) rfl rfl rfl (Nat.le_of_ble_eq_true rfl) (g6.ob (g5.ob (g4.ob ob3))).2.2 (k_Triple (by omega) (g6.ob (g5.ob (g4.ob ob3))).2.2 (g6.ob (g5.ob (g4.ob ob3))).1 p4 p5 p6) ?_
    rintro _ rfl
    have c7 := ct3 (P := (P1.1 * (2 * P.2.2) - P.1 * P1.2.2, P1.2.1 * (2 * P.2.2) - P.2.1 * P1.2.2, P1.2.2 * P.2.2)) (k := 5 * k + 5) G6 (g6.ob (g5.ob (g4.ob ob3))) (by have := G2.2.1.1; omega) ((g6.wb (g5.wb wp4)).up (by omega)) ((g6.wb wp5).up (by omega)) (wp6.up (by omega))
    have faP_7 := c7.2.2.2.1 _ _ _ _ (by have := (g2.tf (g1.tf fP)).1.1; omega) (g6.tf (g5.tf (g4.tf (g3.tf (g2.tf (g1.tf fP))))))
    have faL_7 := c7.2.2.2.1 _ _ _ _ (by have := (g2.tf (g1.tf fL)).1.1; omega) (g6.tf (g5.tf (g4.tf (g3.tf (g2.tf (g1.tf fL))))))
    have fp1_7 := c7.2.2.2.1 _ _ _ _ (by have := (g2.tf f1).1.1; omega) (g6.tf (g5.tf (g4.tf (g3.tf (g2.tf f1)))))
    obtain ⟨h7, eh7⟩ : ∃ hq9, hq9 = pt3 h6 t3 p4 p5 p6 := ⟨_, rfl⟩
    refine g_hp (h2 := h7) (by rw [eh7]; rfl) ?_
    rw [← eh7] at c7 faP_7 faL_7 fp1_7
    have G7 := c7.1
    obtain ⟨q7x, q7y, q7w, f7, wq7x, wq7y, wq7w⟩ := c7.2.1
    refine g_aret rfl ?_
    refine ⟨G7.mono (by omega), ?_⟩
    unfold p_mirr_O
    rw [eS1]
    exact ⟨t3, rfl, _, _, _, f7, (wq7x.up (by omega)), (wq7y.up (by omega)), (wq7w.up (by omega))⟩
