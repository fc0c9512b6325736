/-! the class's plane: lines of points, points of lines: printed by wip/whole/d1.py -/
def p_cross_S (P : T3) (Q : T3) : T3 := (P.2.1 * Q.2.2 - P.2.2 * Q.2.1, P.2.2 * Q.1 - P.1 * Q.2.2, P.1 * Q.2.1 - P.2.1 * Q.1)
set_option maxHeartbeats 4000000 in
theorem p_cross {w : aW} {d : Nat} (hd : 4 ≤ d) {k : Nat} {h : aH} {c : Nat} (ci : CI h c) {aP : Nat} {P : T3} (tP : TB h c aP P (k)) {aQ : Nat} {Q : T3} (tQ : TB h c aQ Q (k))  (hk : k ≤ 190) : WP w d 39 [aO (some (c + 6)), aO (some aP), aO (some aQ)] h (RO (fun r h1 => ∃ p, r = some p ∧ Gr h h1 c 7 ∧ TB h1 c p (p_cross_S P Q) (2 * k + 1))) := by
  obtain ⟨d, rfl⟩ : ∃ d1, d = d1 + 1 := ⟨d - 1, by omega⟩
  refine WP.enter (cd := cd_X2_cross) rfl ?_
  have G0 := Gr.refl ci
  obtain ⟨Px, Py, Pw, fP, wPx, wPy, wPw⟩ := tP
  obtain ⟨Qx, Qy, Qw, fQ, wQx, wQy, wQw⟩ := tQ
  have hls : largs 0 [aO (some (c + 6)), aO (some aP), aO (some aQ)] = [(0, aO (some (c + 6))), (1, aO (some aP)), (2, aO (some aQ))] := rfl
  rw [hls]
  clear hls
  refine g_new rfl ?_
  obtain ⟨g1, ob1⟩ := Gr.mk (k := 19) (m := 3) G0.ci (by decide) (by decide)
  obtain ⟨t1, et1⟩ : ∃ t, t = hz h := ⟨_, rfl⟩
  obtain ⟨h1, eh1⟩ : ∃ hq9, hq9 = hnew h 19 3 := ⟨_, rfl⟩
  rw [← eh1, ← et1] at ob1
  rw [← eh1] at g1
  refine g_hp (h2 := h1) eh1.symm ?_
  refine g_top (v2 := aO (some t1)) (by rw [et1]) ?_
  have G1 := G0.trans g1
  refine g_dup rfl rfl ?_
  refine g_aload_n rfl rfl ?_
  refine g_getR rfl (G1.cs.kd 6 (by omega) rfl) (G1.cs.rf 5 (by omega) rfl) ?_
  refine g_aload_n rfl rfl ?_
  refine g_getR rfl (g1.tf fP).1.2.2 (g1.tf fP).2.2.1 ?_
  refine g_aload_n rfl rfl ?_
  refine g_getR rfl (g1.tf fQ).1.2.2 (g1.tf fQ).2.2.2 ?_
  refine g_aload_n rfl rfl ?_
  refine g_getR rfl (g1.tf fP).1.2.2 (g1.tf fP).2.2.2 ?_
  refine g_aload_n rfl rfl ?_
  refine g_getR rfl (g1.tf fQ).1.2.2 (g1.tf fQ).2.2.1 ?_
  refine g_callVO [aO (some Py), aO (some Qw), aO (some Pw), aO (some Qy)] [aO (some t1), aO (some t1)] rfl rfl rfl rfl (Nat.le_of_ble_eq_true rfl) (G1.cs.kd 1 (by omega) rfl) (s_diff (by omega) G1.ci (g1.wb wPy) (g1.wb wQw) (g1.wb wPw) (g1.wb wQy) (2 * k + 1) (by omega) (by omega) (by omega)) ?_
  rintro _ h2 ⟨p2, rfl, g2, wp2⟩
  have G2 := G1.trans g2
  refine g_aload_n rfl rfl ?_
  refine g_getR rfl (G2.cs.kd 6 (by omega) rfl) (G2.cs.rf 5 (by omega) rfl) ?_
  refine g_aload_n rfl rfl ?_
  refine g_getR rfl (g2.tf (g1.tf fP)).1.2.2 (g2.tf (g1.tf fP)).2.2.2 ?_
  refine g_aload_n rfl rfl ?_
  refine g_getR rfl (g2.tf (g1.tf fQ)).1.2.2 (g2.tf (g1.tf fQ)).2.1 ?_
  refine g_aload_n rfl rfl ?_
  refine g_getR rfl (g2.tf (g1.tf fP)).1.2.2 (g2.tf (g1.tf fP)).2.1 ?_
  refine g_aload_n rfl rfl ?_
  refine g_getR rfl (g2.tf (g1.tf fQ)).1.2.2 (g2.tf (g1.tf fQ)).2.2.2 ?_
  refine g_callVO [aO (some Pw), aO (some Qx), aO (some Px), aO (some Qw)] [aO (some p2), aO (some t1), aO (some t1)] rfl rfl rfl rfl (Nat.le_of_ble_eq_true rfl) (G2.cs.kd 1 (by omega) rfl) (s_diff (by omega) G2.ci (g2.wb (g1.wb wPw)) (g2.wb (g1.wb wQx)) (g2.wb (g1.wb wPx)) (g2.wb (g1.wb wQw)) (2 * k + 1) (by omega) (by omega) (by omega)) ?_
  rintro _ h3 ⟨p3, rfl, g3, wp3⟩
  have G3 := G2.trans g3
  refine g_aload_n rfl rfl ?_
  refine g_getR rfl (G3.cs.kd 6 (by omega) rfl) (G3.cs.rf 5 (by omega) rfl) ?_
  refine g_aload_n rfl rfl ?_
  refine g_getR rfl (g3.tf (g2.tf (g1.tf fP))).1.2.2 (g3.tf (g2.tf (g1.tf fP))).2.1 ?_
  refine g_aload_n rfl rfl ?_
  refine g_getR rfl (g3.tf (g2.tf (g1.tf fQ))).1.2.2 (g3.tf (g2.tf (g1.tf fQ))).2.2.1 ?_
  refine g_aload_n rfl rfl ?_
  refine g_getR rfl (g3.tf (g2.tf (g1.tf fP))).1.2.2 (g3.tf (g2.tf (g1.tf fP))).2.2.1 ?_
  refine g_aload_n rfl rfl ?_
  refine g_getR rfl (g3.tf (g2.tf (g1.tf fQ))).1.2.2 (g3.tf (g2.tf (g1.tf fQ))).2.1 ?_
  refine g_callVO [aO (some Px), aO (some Qy), aO (some Py), aO (some Qx)] [aO (some p3), aO (some p2), aO (some t1), aO (some t1)] rfl rfl rfl rfl (Nat.le_of_ble_eq_true rfl) (G3.cs.kd 1 (by omega) rfl) (s_diff (by omega) G3.ci (g3.wb (g2.wb (g1.wb wPx))) (g3.wb (g2.wb (g1.wb wQy))) (g3.wb (g2.wb (g1.wb wPy))) (g3.wb (g2.wb (g1.wb wQx))) (2 * k + 1) (by omega) (by omega) (by omega)) ?_
  rintro _ h4 ⟨p4, rfl, g4, wp4⟩
  have G4 := G3.trans g4
  refine g_callIN [aO (some p2), aO (some p3), aO (some p4)] [aO (some t1)] rfl (by decide) rfl rfl rfl (Nat.le_of_ble_eq_true rfl) (g4.ob (g3.ob (g2.ob ob1))).2.2 (k_Triple (by omega) (g4.ob (g3.ob (g2.ob ob1))).2.2 (g4.ob (g3.ob (g2.ob ob1))).1 p2 p3 p4) ?_
  rintro _ rfl
  have c5 := ct3 (P := (P.2.1 * Q.2.2 - P.2.2 * Q.2.1, P.2.2 * Q.1 - P.1 * Q.2.2, P.1 * Q.2.1 - P.2.1 * Q.1)) (k := 2 * k + 1) G4 (g4.ob (g3.ob (g2.ob ob1))) (by have := G0.2.1.1; omega) ((g4.wb (g3.wb wp2)).up (by omega)) ((g4.wb wp3).up (by omega)) (wp4.up (by omega))
  have faP_5 := c5.2.2.2.1 _ _ _ _ (by have := fP.1.1; omega) (g4.tf (g3.tf (g2.tf (g1.tf fP))))
  have faQ_5 := c5.2.2.2.1 _ _ _ _ (by have := fQ.1.1; omega) (g4.tf (g3.tf (g2.tf (g1.tf fQ))))
  obtain ⟨h5, eh5⟩ : ∃ hq9, hq9 = pt3 h4 t1 p2 p3 p4 := ⟨_, rfl⟩
  refine g_hp (h2 := h5) (by rw [eh5]; rfl) ?_
  rw [← eh5] at c5 faP_5 faQ_5
  have G5 := c5.1
  obtain ⟨q5x, q5y, q5w, f5, wq5x, wq5y, wq5w⟩ := c5.2.1
  refine g_aret rfl ?_
  exact ⟨t1, rfl, G5.mono (by omega), _, _, _, f5, (wq5x.up (by omega)), (wq5y.up (by omega)), (wq5w.up (by omega))⟩
def p_dot_S (P : T3) (Q : T3) : Int := (P.1 * Q.1 + P.2.1 * Q.2.1) + (P.2.2 * Q.2.2)
set_option maxHeartbeats 4000000 in
theorem p_dot {w : aW} {d : Nat} (hd : 4 ≤ d) {k : Nat} {h : aH} {c : Nat} (ci : CI h c) {aP : Nat} {P : T3} (tP : TB h c aP P (k)) {aQ : Nat} {Q : T3} (tQ : TB h c aQ Q (k))  (hk : k ≤ 190) : WP w d 40 [aO (some (c + 6)), aO (some aP), aO (some aQ)] h (RO (fun r h1 => ∃ p, r = some p ∧ Gr h h1 c 3 ∧ WB h1 c p (p_dot_S P Q) (2 * k + 2))) := by
  obtain ⟨d, rfl⟩ : ∃ d1, d = d1 + 1 := ⟨d - 1, by omega⟩
  refine WP.enter (cd := cd_X2_dot) rfl ?_
  have G0 := Gr.refl ci
  obtain ⟨Px, Py, Pw, fP, wPx, wPy, wPw⟩ := tP
  obtain ⟨Qx, Qy, Qw, fQ, wQx, wQy, wQw⟩ := tQ
  have hls : largs 0 [aO (some (c + 6)), aO (some aP), aO (some aQ)] = [(0, aO (some (c + 6))), (1, aO (some aP)), (2, aO (some aQ))] := rfl
  rw [hls]
  clear hls
  refine g_aload_n rfl rfl ?_
  refine g_getR rfl (G0.cs.kd 6 (by omega) rfl) (G0.cs.rf 5 (by omega) rfl) ?_
  refine g_aload_n rfl rfl ?_
  refine g_getR rfl (G0.cs.kd 6 (by omega) rfl) (G0.cs.rf 5 (by omega) rfl) ?_
  refine g_aload_n rfl rfl ?_
  refine g_getR rfl fP.1.2.2 fP.2.1 ?_
  refine g_aload_n rfl rfl ?_
  refine g_getR rfl fQ.1.2.2 fQ.2.1 ?_
  refine g_aload_n rfl rfl ?_
  refine g_getR rfl fP.1.2.2 fP.2.2.1 ?_
  refine g_aload_n rfl rfl ?_
  refine g_getR rfl fQ.1.2.2 fQ.2.2.1 ?_
  refine g_callVO [aO (some Px), aO (some Qx), aO (some Py), aO (some Qy)] [aO (some (c + 1))] rfl rfl rfl rfl (Nat.le_of_ble_eq_true rfl) (G0.cs.kd 1 (by omega) rfl) (s_added (by omega) G0.ci wPx wQx wPy wQy (2 * k + 1) (by omega) (by omega) (by omega)) ?_
  rintro _ h1 ⟨p1, rfl, g1, wp1⟩
  have G1 := G0.trans g1
  refine g_aload_n rfl rfl ?_
  refine g_getR rfl (G1.cs.kd 6 (by omega) rfl) (G1.cs.rf 5 (by omega) rfl) ?_
  refine g_aload_n rfl rfl ?_
  refine g_getR rfl (g1.tf fP).1.2.2 (g1.tf fP).2.2.2 ?_
  refine g_aload_n rfl rfl ?_
  refine g_getR rfl (g1.tf fQ).1.2.2 (g1.tf fQ).2.2.2 ?_
  refine g_callVO [aO (some Pw), aO (some Qw)] [aO (some p1), aO (some (c + 1))] rfl rfl rfl rfl (Nat.le_of_ble_eq_true rfl) (G1.cs.kd 1 (by omega) rfl) (s_times (by omega) G1.ci (g1.wb wPw) (g1.wb wQw) (by omega)) ?_
  rintro _ h2 ⟨p2, rfl, g2, wp2⟩
  have G2 := G1.trans g2
  refine g_callVO [aO (some p1), aO (some p2)] [] rfl rfl rfl rfl (Nat.le_of_ble_eq_true rfl) (G2.cs.kd 1 (by omega) rfl) (s_plus (by omega) G2.ci (g2.wb wp1) wp2 (2 * k + 2) (by omega) (by omega) (by omega)) ?_
  rintro _ h3 ⟨p3, rfl, g3, wp3⟩
  have G3 := G2.trans g3
  refine g_aret rfl ?_
  exact ⟨p3, rfl, G3.mono (by omega), (wp3.up (by omega))⟩
def p_det_S (P : T3) (Q : T3) (R : T3) : Int := p_dot_S (p_cross_S P Q) R
set_option maxHeartbeats 4000000 in
theorem p_det {w : aW} {d : Nat} (hd : 4 ≤ d) {k : Nat} {h : aH} {c : Nat} (ci : CI h c) {aP : Nat} {P : T3} (tP : TB h c aP P (k)) {aQ : Nat} {Q : T3} (tQ : TB h c aQ Q (k)) {aR : Nat} {R : T3} (tR : TB h c aR R (k))  (hk : k ≤ 126) : WP w d 41 [aO (some (c + 6)), aO (some aP), aO (some aQ), aO (some aR)] h (RO (fun r h1 => ∃ p, r = some p ∧ Gr h h1 c 10 ∧ WB h1 c p (p_det_S P Q R) (4 * k + 4))) := by
  obtain ⟨d, rfl⟩ : ∃ d1, d = d1 + 1 := ⟨d - 1, by omega⟩
  refine WP.enter (cd := cd_X2_determinant) rfl ?_
  have G0 := Gr.refl ci
  obtain ⟨Px, Py, Pw, fP, wPx, wPy, wPw⟩ := tP
  obtain ⟨Qx, Qy, Qw, fQ, wQx, wQy, wQw⟩ := tQ
  obtain ⟨Rx, Ry, Rw, fR, wRx, wRy, wRw⟩ := tR
  have hls : largs 0 [aO (some (c + 6)), aO (some aP), aO (some aQ), aO (some aR)] = [(0, aO (some (c + 6))), (1, aO (some aP)), (2, aO (some aQ)), (3, aO (some aR))] := rfl
  rw [hls]
  clear hls
  refine g_aload_n rfl rfl ?_
  refine g_getR rfl (G0.cs.kd 6 (by omega) rfl) (G0.cs.rf 5 (by omega) rfl) ?_
  refine g_aload_n rfl rfl ?_
  refine g_getR rfl fP.1.2.2 fP.2.2.1 ?_
  refine g_aload_n rfl rfl ?_
  refine g_getR rfl fQ.1.2.2 fQ.2.2.2 ?_
  refine g_aload_n rfl rfl ?_
  refine g_getR rfl fP.1.2.2 fP.2.2.2 ?_
  refine g_aload_n rfl rfl ?_
  refine g_getR rfl fQ.1.2.2 fQ.2.2.1 ?_
  refine g_callVO [aO (some Py), aO (some Qw), aO (some Pw), aO (some Qy)] [] rfl rfl rfl rfl (Nat.le_of_ble_eq_true rfl) (G0.cs.kd 1 (by omega) rfl) (s_diff (by omega) G0.ci wPy wQw wPw wQy (2 * k + 1) (by omega) (by omega) (by omega)) ?_
  rintro _ h1 ⟨p1, rfl, g1, wp1⟩
  have G1 := G0.trans g1
  refine g_astore (l1 := [(4, aO (some p1)), (0, aO (some (c + 6))), (1, aO (some aP)), (2, aO (some aQ)), (3, aO (some aR))]) rfl rfl ?_
  refine g_aload_n rfl rfl ?_
  refine g_getR rfl (G1.cs.kd 6 (by omega) rfl) (G1.cs.rf 5 (by omega) rfl) ?_
  refine g_aload_n rfl rfl ?_
  refine g_getR rfl (g1.tf fP).1.2.2 (g1.tf fP).2.2.2 ?_
  refine g_aload_n rfl rfl ?_
  refine g_getR rfl (g1.tf fQ).1.2.2 (g1.tf fQ).2.1 ?_
  refine g_aload_n rfl rfl ?_
  refine g_getR rfl (g1.tf fP).1.2.2 (g1.tf fP).2.1 ?_
  refine g_aload_n rfl rfl ?_
  refine g_getR rfl (g1.tf fQ).1.2.2 (g1.tf fQ).2.2.2 ?_
  refine g_callVO [aO (some Pw), aO (some Qx), aO (some Px), aO (some Qw)] [] rfl rfl rfl rfl (Nat.le_of_ble_eq_true rfl) (G1.cs.kd 1 (by omega) rfl) (s_diff (by omega) G1.ci (g1.wb wPw) (g1.wb wQx) (g1.wb wPx) (g1.wb wQw) (2 * k + 1) (by omega) (by omega) (by omega)) ?_
  rintro _ h2 ⟨p2, rfl, g2, wp2⟩
  have G2 := G1.trans g2
  refine g_astore (l1 := [(5, aO (some p2)), (4, aO (some p1)), (0, aO (some (c + 6))), (1, aO (some aP)), (2, aO (some aQ)), (3, aO (some aR))]) rfl rfl ?_
  refine g_aload_n rfl rfl ?_
  refine g_getR rfl (G2.cs.kd 6 (by omega) rfl) (G2.cs.rf 5 (by omega) rfl) ?_
  refine g_aload_n rfl rfl ?_
  refine g_getR rfl (g2.tf (g1.tf fP)).1.2.2 (g2.tf (g1.tf fP)).2.1 ?_
  refine g_aload_n rfl rfl ?_
  refine g_getR rfl (g2.tf (g1.tf fQ)).1.2.2 (g2.tf (g1.tf fQ)).2.2.1 ?_
  refine g_aload_n rfl rfl ?_
  refine g_getR rfl (g2.tf (g1.tf fP)).1.2.2 (g2.tf (g1.tf fP)).2.2.1 ?_
  refine g_aload_n rfl rfl ?_
  refine g_getR rfl (g2.tf (g1.tf fQ)).1.2.2 (g2.tf (g1.tf fQ)).2.1 ?_
  refine g_callVO [aO (some Px), aO (some Qy), aO (some Py), aO (some Qx)] [] rfl rfl rfl rfl (Nat.le_of_ble_eq_true rfl) (G2.cs.kd 1 (by omega) rfl) (s_diff (by omega) G2.ci (g2.wb (g1.wb wPx)) (g2.wb (g1.wb wQy)) (g2.wb (g1.wb wPy)) (g2.wb (g1.wb wQx)) (2 * k + 1) (by omega) (by omega) (by omega)) ?_
  rintro _ h3 ⟨p3, rfl, g3, wp3⟩
  have G3 := G2.trans g3
  refine g_astore (l1 := [(6, aO (some p3)), (5, aO (some p2)), (4, aO (some p1)), (0, aO (some (c + 6))), (1, aO (some aP)), (2, aO (some aQ)), (3, aO (some aR))]) rfl rfl ?_
  refine g_aload_n rfl rfl ?_
  refine g_getR rfl (G3.cs.kd 6 (by omega) rfl) (G3.cs.rf 5 (by omega) rfl) ?_
  refine g_aload_n rfl rfl ?_
  refine g_getR rfl (G3.cs.kd 6 (by omega) rfl) (G3.cs.rf 5 (by omega) rfl) ?_
  refine g_aload rfl rfl ?_
  refine g_aload_n rfl rfl ?_
  refine g_getR rfl (g3.tf (g2.tf (g1.tf fR))).1.2.2 (g3.tf (g2.tf (g1.tf fR))).2.1 ?_
  refine g_aload rfl rfl ?_
  refine g_aload_n rfl rfl ?_
  refine g_getR rfl (g3.tf (g2.tf (g1.tf fR))).1.2.2 (g3.tf (g2.tf (g1.tf fR))).2.2.1 ?_
  refine g_callVO [aO (some p1), aO (some Rx), aO (some p2), aO (some Ry)] [aO (some (c + 1))] rfl rfl rfl rfl (Nat.le_of_ble_eq_true rfl) (G3.cs.kd 1 (by omega) rfl) (s_added (by omega) G3.ci (g3.wb (g2.wb wp1)) (g3.wb (g2.wb (g1.wb wRx))) (g3.wb wp2) (g3.wb (g2.wb (g1.wb wRy))) (3 * k + 2) (by omega) (by omega) (by omega)) ?_
  rintro _ h4 ⟨p4, rfl, g4, wp4⟩
  have G4 := G3.trans g4
  refine g_aload_n rfl rfl ?_
  refine g_getR rfl (G4.cs.kd 6 (by omega) rfl) (G4.cs.rf 5 (by omega) rfl) ?_
  refine g_aload rfl rfl ?_
  refine g_aload_n rfl rfl ?_
  refine g_getR rfl (g4.tf (g3.tf (g2.tf (g1.tf fR)))).1.2.2 (g4.tf (g3.tf (g2.tf (g1.tf fR)))).2.2.2 ?_
  refine g_callVO [aO (some p3), aO (some Rw)] [aO (some p4), aO (some (c + 1))] rfl rfl rfl rfl (Nat.le_of_ble_eq_true rfl) (G4.cs.kd 1 (by omega) rfl) (s_times (by omega) G4.ci (g4.wb wp3) (g4.wb (g3.wb (g2.wb (g1.wb wRw)))) (by omega)) ?_
  rintro _ h5 ⟨p5, rfl, g5, wp5⟩
  have G5 := G4.trans g5
  refine g_callVO [aO (some p4), aO (some p5)] [] rfl rfl rfl rfl (Nat.le_of_ble_eq_true rfl) (G5.cs.kd 1 (by omega) rfl) (s_plus (by omega) G5.ci (g5.wb wp4) wp5 (3 * k + 3) (by omega) (by omega) (by omega)) ?_
  rintro _ h6 ⟨p6, rfl, g6, wp6⟩
  have G6 := G5.trans g6
  refine g_aret rfl ?_
  exact ⟨p6, rfl, G6.mono (by omega), (wp6.up (by omega))⟩
set_option maxHeartbeats 4000000 in
theorem p_isNull {w : aW} {d : Nat} (hd : 2 ≤ d) {k : Nat} {h : aH} {c : Nat} (ci : CI h c) {aP : Nat} {P : T3} (tP : TB h c aP P (k))  : WP w d 43 [aO (some (c + 6)), aO (some aP)] h (RI (fun r h1 => h1 = h ∧ r = if P.1 = 0 ∧ P.2.1 = 0 ∧ P.2.2 = 0 then 1 else 0)) := by
  obtain ⟨d, rfl⟩ : ∃ d1, d = d1 + 1 := ⟨d - 1, by omega⟩
  refine WP.enter (cd := cd_X2_isNull) rfl ?_
  have G0 := Gr.refl ci
  obtain ⟨Px, Py, Pw, fP, wPx, wPy, wPw⟩ := tP
  have hls : largs 0 [aO (some (c + 6)), aO (some aP)] = [(0, aO (some (c + 6))), (1, aO (some aP))] := rfl
  rw [hls]
  clear hls
  refine g_aload_n rfl rfl ?_
  refine g_getR rfl (G0.cs.kd 6 (by omega) rfl) (G0.cs.rf 5 (by omega) rfl) ?_
  refine g_aload_n rfl rfl ?_
  refine g_getR rfl fP.1.2.2 fP.2.1 ?_
  refine g_callVI [aO (some Px)] [] rfl rfl rfl rfl (Nat.le_of_ble_eq_true rfl) (G0.cs.kd 1 (by omega) rfl) (s_isZero (by omega) G0.ci wPx) ?_
  rintro _ hx1 ⟨ehx1, rfl⟩
  rw [ehx1]
  clear ehx1 hx1
  refine g_b_eq rfl (fun c11 => ?_) (fun c11 => ?_)
  · skip
    refine g_iconst rfl ?_
    refine g_zret rfl (by omega) ?_
    refine ⟨rfl, ?_⟩
    first
      | rfl
      | rw [if_pos (by omega)]
      | rw [if_neg (by omega)]
  · skip
    refine g_aload_n rfl rfl ?_
    refine g_getR rfl (G0.cs.kd 6 (by omega) rfl) (G0.cs.rf 5 (by omega) rfl) ?_
    refine g_aload_n rfl rfl ?_
    refine g_getR rfl fP.1.2.2 fP.2.2.1 ?_
    refine g_callVI [aO (some Py)] [] rfl rfl rfl rfl (Nat.le_of_ble_eq_true rfl) (G0.cs.kd 1 (by omega) rfl) (s_isZero (by omega) G0.ci wPy) ?_
    rintro _ hx2 ⟨ehx2, rfl⟩
    rw [ehx2]
    clear ehx2 hx2
    refine g_b_eq rfl (fun c25 => ?_) (fun c25 => ?_)
    · skip
      refine g_iconst rfl ?_
      refine g_zret rfl (by omega) ?_
      refine ⟨rfl, ?_⟩
      first
        | rfl
        | rw [if_pos (by omega)]
        | rw [if_neg (by omega)]
    · skip
      refine g_aload_n rfl rfl ?_
      refine g_getR rfl (G0.cs.kd 6 (by omega) rfl) (G0.cs.rf 5 (by omega) rfl) ?_
      refine g_aload_n rfl rfl ?_
      refine g_getR rfl fP.1.2.2 fP.2.2.2 ?_
      refine g_callVI [aO (some Pw)] [] rfl rfl rfl rfl (Nat.le_of_ble_eq_true rfl) (G0.cs.kd 1 (by omega) rfl) (s_isZero (by omega) G0.ci wPw) ?_
      rintro _ hx3 ⟨ehx3, rfl⟩
      rw [ehx3]
      clear ehx3 hx3
      refine g_b_eq rfl (fun c39 => ?_) (fun c39 => ?_)
      · skip
        refine g_iconst rfl ?_
        refine g_zret rfl (by omega) ?_
        refine ⟨rfl, ?_⟩
        first
          | rfl
          | rw [if_pos (by omega)]
          | rw [if_neg (by omega)]
      · skip
        refine g_iconst rfl ?_
        refine g_goto rfl ?_
        refine g_zret rfl (by omega) ?_
        refine ⟨rfl, ?_⟩
        first
          | rfl
          | rw [if_pos (by omega)]
          | rw [if_neg (by omega)]
set_option maxHeartbeats 4000000 in
theorem p_isFar {w : aW} {d : Nat} (hd : 2 ≤ d) {k : Nat} {h : aH} {c : Nat} (ci : CI h c) {aP : Nat} {P : T3} (tP : TB h c aP P (k))  : WP w d 45 [aO (some (c + 6)), aO (some aP)] h (RI (fun r h1 => h1 = h ∧ r = if P.2.2 = 0 then 1 else 0)) := by
  obtain ⟨d, rfl⟩ : ∃ d1, d = d1 + 1 := ⟨d - 1, by omega⟩
  refine WP.enter (cd := cd_X2_isFar) rfl ?_
  have G0 := Gr.refl ci
  obtain ⟨Px, Py, Pw, fP, wPx, wPy, wPw⟩ := tP
  have hls : largs 0 [aO (some (c + 6)), aO (some aP)] = [(0, aO (some (c + 6))), (1, aO (some aP))] := rfl
  rw [hls]
  clear hls
  refine g_aload_n rfl rfl ?_
  refine g_getR rfl (G0.cs.kd 6 (by omega) rfl) (G0.cs.rf 5 (by omega) rfl) ?_
  refine g_aload_n rfl rfl ?_
  refine g_getR rfl fP.1.2.2 fP.2.2.2 ?_
  refine g_callVI [aO (some Pw)] [] rfl rfl rfl rfl (Nat.le_of_ble_eq_true rfl) (G0.cs.kd 1 (by omega) rfl) (s_isZero (by omega) G0.ci wPw) ?_
  rintro _ hx1 ⟨ehx1, rfl⟩
  rw [ehx1]
  clear ehx1 hx1
  refine g_zret rfl (by omega) ?_
  refine ⟨rfl, ?_⟩
  first
    | rfl
    | rw [if_pos (by omega)]
    | rw [if_neg (by omega)]
set_option maxHeartbeats 4000000 in
theorem p_hasAllFar {w : aW} {d : Nat} (hd : 2 ≤ d) {k : Nat} {h : aH} {c : Nat} (ci : CI h c) {aP : Nat} {P : T3} (tP : TB h c aP P (k))  : WP w d 47 [aO (some (c + 6)), aO (some aP)] h (RI (fun r h1 => h1 = h ∧ r = if P.1 = 0 ∧ P.2.1 = 0 then 1 else 0)) := by
  obtain ⟨d, rfl⟩ : ∃ d1, d = d1 + 1 := ⟨d - 1, by omega⟩
  refine WP.enter (cd := cd_X2_hasAllFar) rfl ?_
  have G0 := Gr.refl ci
  obtain ⟨Px, Py, Pw, fP, wPx, wPy, wPw⟩ := tP
  have hls : largs 0 [aO (some (c + 6)), aO (some aP)] = [(0, aO (some (c + 6))), (1, aO (some aP))] := rfl
  rw [hls]
  clear hls
  refine g_aload_n rfl rfl ?_
  refine g_getR rfl (G0.cs.kd 6 (by omega) rfl) (G0.cs.rf 5 (by omega) rfl) ?_
  refine g_aload_n rfl rfl ?_
  refine g_getR rfl fP.1.2.2 fP.2.1 ?_
  refine g_callVI [aO (some Px)] [] rfl rfl rfl rfl (Nat.le_of_ble_eq_true rfl) (G0.cs.kd 1 (by omega) rfl) (s_isZero (by omega) G0.ci wPx) ?_
  rintro _ hx1 ⟨ehx1, rfl⟩
  rw [ehx1]
  clear ehx1 hx1
  refine g_b_eq rfl (fun c11 => ?_) (fun c11 => ?_)
  · skip
    refine g_iconst rfl ?_
    refine g_zret rfl (by omega) ?_
    refine ⟨rfl, ?_⟩
    first
      | rfl
      | rw [if_pos (by omega)]
      | rw [if_neg (by omega)]
  · skip
    refine g_aload_n rfl rfl ?_
    refine g_getR rfl (G0.cs.kd 6 (by omega) rfl) (G0.cs.rf 5 (by omega) rfl) ?_
    refine g_aload_n rfl rfl ?_
    refine g_getR rfl fP.1.2.2 fP.2.2.1 ?_
    refine g_callVI [aO (some Py)] [] rfl rfl rfl rfl (Nat.le_of_ble_eq_true rfl) (G0.cs.kd 1 (by omega) rfl) (s_isZero (by omega) G0.ci wPy) ?_
    rintro _ hx2 ⟨ehx2, rfl⟩
    rw [ehx2]
    clear ehx2 hx2
    refine g_b_eq rfl (fun c25 => ?_) (fun c25 => ?_)
    · skip
      refine g_iconst rfl ?_
      refine g_zret rfl (by omega) ?_
      refine ⟨rfl, ?_⟩
      first
        | rfl
        | rw [if_pos (by omega)]
        | rw [if_neg (by omega)]
    · skip
      refine g_iconst rfl ?_
      refine g_goto rfl ?_
      refine g_zret rfl (by omega) ?_
      refine ⟨rfl, ?_⟩
      first
        | rfl
        | rw [if_pos (by omega)]
        | rw [if_neg (by omega)]
set_option maxHeartbeats 4000000 in
theorem p_isOneFar {w : aW} {d : Nat} (hd : 3 ≤ d) {k : Nat} {h : aH} {c : Nat} (ci : CI h c) {aP : Nat} {P : T3} (tP : TB h c aP P (k)) {aQ : Nat} {Q : T3} (tQ : TB h c aQ Q (k)) {aR : Nat} {R : T3} (tR : TB h c aR R (k))  : WP w d 46 [aO (some (c + 6)), aO (some aP), aO (some aQ), aO (some aR)] h (RI (fun r h1 => h1 = h ∧ r = if P.2.2 = 0 ∨ Q.2.2 = 0 ∨ R.2.2 = 0 then 1 else 0)) := by
  obtain ⟨d, rfl⟩ : ∃ d1, d = d1 + 1 := ⟨d - 1, by omega⟩
  refine WP.enter (cd := cd_X2_isOneFar) rfl ?_
  have G0 := Gr.refl ci
  obtain ⟨Px, Py, Pw, fP, wPx, wPy, wPw⟩ := tP
  obtain ⟨Qx, Qy, Qw, fQ, wQx, wQy, wQw⟩ := tQ
  obtain ⟨Rx, Ry, Rw, fR, wRx, wRy, wRw⟩ := tR
  have hls : largs 0 [aO (some (c + 6)), aO (some aP), aO (some aQ), aO (some aR)] = [(0, aO (some (c + 6))), (1, aO (some aP)), (2, aO (some aQ)), (3, aO (some aR))] := rfl
  rw [hls]
  clear hls
  refine g_aload_n rfl rfl ?_
  refine g_aload_n rfl rfl ?_
  refine g_callVI [aO (some aP)] [] rfl rfl rfl rfl (Nat.le_of_ble_eq_true rfl) (G0.cs.kd 6 (by omega) rfl) (p_isFar (by omega) G0.ci (show TB h c aP P (k) from ⟨_, _, _, fP, (wPx.up (by omega)), (wPy.up (by omega)), (wPw.up (by omega))⟩)) ?_
  rintro _ hx1 ⟨ehx1, rfl⟩
  rw [ehx1]
  clear ehx1 hx1
  refine g_b_ne rfl (fun c5 => ?_) (fun c5 => ?_)
  · skip
    refine g_iconst rfl ?_
    refine g_goto rfl ?_
    refine g_zret rfl (by omega) ?_
    refine ⟨rfl, ?_⟩
    first
      | rfl
      | rw [if_pos (by omega)]
      | rw [if_neg (by omega)]
  · skip
    refine g_aload_n rfl rfl ?_
    refine g_aload_n rfl rfl ?_
    refine g_callVI [aO (some aQ)] [] rfl rfl rfl rfl (Nat.le_of_ble_eq_true rfl) (G0.cs.kd 6 (by omega) rfl) (p_isFar (by omega) G0.ci (show TB h c aQ Q (k) from ⟨_, _, _, fQ, (wQx.up (by omega)), (wQy.up (by omega)), (wQw.up (by omega))⟩)) ?_
    rintro _ hx2 ⟨ehx2, rfl⟩
    rw [ehx2]
    clear ehx2 hx2
    refine g_b_ne rfl (fun c13 => ?_) (fun c13 => ?_)
    · skip
      refine g_iconst rfl ?_
      refine g_goto rfl ?_
      refine g_zret rfl (by omega) ?_
      refine ⟨rfl, ?_⟩
      first
        | rfl
        | rw [if_pos (by omega)]
        | rw [if_neg (by omega)]
    · skip
      refine g_aload_n rfl rfl ?_
      refine g_aload_n rfl rfl ?_
      refine g_callVI [aO (some aR)] [] rfl rfl rfl rfl (Nat.le_of_ble_eq_true rfl) (G0.cs.kd 6 (by omega) rfl) (p_isFar (by omega) G0.ci (show TB h c aR R (k) from ⟨_, _, _, fR, (wRx.up (by omega)), (wRy.up (by omega)), (wRw.up (by omega))⟩)) ?_
      rintro _ hx3 ⟨ehx3, rfl⟩
      rw [ehx3]
      clear ehx3 hx3
      refine g_b_eq rfl (fun c21 => ?_) (fun c21 => ?_)
      · skip
        refine g_iconst rfl ?_
        refine g_zret rfl (by omega) ?_
        refine ⟨rfl, ?_⟩
        first
          | rfl
          | rw [if_pos (by omega)]
          | rw [if_neg (by omega)]
      · skip
        refine g_iconst rfl ?_
        refine g_goto rfl ?_
        refine g_zret rfl (by omega) ?_
        refine ⟨rfl, ?_⟩
        first
          | rfl
          | rw [if_pos (by omega)]
          | rw [if_neg (by omega)]
set_option maxHeartbeats 4000000 in
theorem p_areSame {w : aW} {d : Nat} (hd : 4 ≤ d) {k : Nat} {h : aH} {c : Nat} (ci : CI h c) {aP : Nat} {P : T3} (tP : TB h c aP P (k)) {aQ : Nat} {Q : T3} (tQ : TB h c aQ Q (k))  (hk : k ≤ 191) : WP w d 44 [aO (some (c + 6)), aO (some aP), aO (some aQ)] h (RI (fun r h1 => Gr h h1 c 7 ∧ r = if (p_cross_S P Q).1 = 0 ∧ (p_cross_S P Q).2.1 = 0 ∧ (p_cross_S P Q).2.2 = 0 then 1 else 0)) := by
  obtain ⟨d, rfl⟩ : ∃ d1, d = d1 + 1 := ⟨d - 1, by omega⟩
  refine WP.enter (cd := cd_X2_areSame) rfl ?_
  have G0 := Gr.refl ci
  obtain ⟨Px, Py, Pw, fP, wPx, wPy, wPw⟩ := tP
  obtain ⟨Qx, Qy, Qw, fQ, wQx, wQy, wQw⟩ := tQ
  have hls : largs 0 [aO (some (c + 6)), aO (some aP), aO (some aQ)] = [(0, aO (some (c + 6))), (1, aO (some aP)), (2, aO (some aQ))] := rfl
  rw [hls]
  clear hls
  refine g_aload_n rfl rfl ?_
  refine g_getR rfl (G0.cs.kd 6 (by omega) rfl) (G0.cs.rf 5 (by omega) rfl) ?_
  refine g_aload_n rfl rfl ?_
  refine g_getR rfl (G0.cs.kd 6 (by omega) rfl) (G0.cs.rf 5 (by omega) rfl) ?_
  refine g_aload_n rfl rfl ?_
  refine g_getR rfl fP.1.2.2 fP.2.1 ?_
  refine g_aload_n rfl rfl ?_
  refine g_getR rfl fQ.1.2.2 fQ.2.2.1 ?_
  refine g_callVO [aO (some Px), aO (some Qy)] [aO (some (c + 1))] rfl rfl rfl rfl (Nat.le_of_ble_eq_true rfl) (G0.cs.kd 1 (by omega) rfl) (s_times (by omega) G0.ci wPx wQy (by omega)) ?_
  rintro _ h1 ⟨p1, rfl, g1, wp1⟩
  have G1 := G0.trans g1
  refine g_aload_n rfl rfl ?_
  refine g_getR rfl (G1.cs.kd 6 (by omega) rfl) (G1.cs.rf 5 (by omega) rfl) ?_
  refine g_aload_n rfl rfl ?_
  refine g_getR rfl (g1.tf fP).1.2.2 (g1.tf fP).2.2.1 ?_
  refine g_aload_n rfl rfl ?_
  refine g_getR rfl (g1.tf fQ).1.2.2 (g1.tf fQ).2.1 ?_
  refine g_callVO [aO (some Py), aO (some Qx)] [aO (some p1), aO (some (c + 1))] rfl rfl rfl rfl (Nat.le_of_ble_eq_true rfl) (G1.cs.kd 1 (by omega) rfl) (s_times (by omega) G1.ci (g1.wb wPy) (g1.wb wQx) (by omega)) ?_
  rintro _ h2 ⟨p2, rfl, g2, wp2⟩
  have G2 := G1.trans g2
  refine g_callVI [aO (some p1), aO (some p2)] [] rfl rfl rfl rfl (Nat.le_of_ble_eq_true rfl) (G2.cs.kd 1 (by omega) rfl) (s_areEqual (by omega) G2.ci (g2.wb wp1) wp2) ?_
  rintro _ hx3 ⟨ehx3, rfl⟩
  rw [ehx3]
  clear ehx3 hx3
  refine g_b_eq rfl (fun c37 => ?_) (fun c37 => ?_)
  · skip
    refine g_iconst rfl ?_
    refine g_zret rfl (by omega) ?_
    refine ⟨G2.mono (by omega), ?_⟩
    unfold p_cross_S
    dsimp only []
    first
      | rw [if_pos (by omega)]
      | rw [if_neg (by omega)]
  · skip
    refine g_aload_n rfl rfl ?_
    refine g_getR rfl (G2.cs.kd 6 (by omega) rfl) (G2.cs.rf 5 (by omega) rfl) ?_
    refine g_aload_n rfl rfl ?_
    refine g_getR rfl (G2.cs.kd 6 (by omega) rfl) (G2.cs.rf 5 (by omega) rfl) ?_
    refine g_aload_n rfl rfl ?_
    refine g_getR rfl (g2.tf (g1.tf fP)).1.2.2 (g2.tf (g1.tf fP)).2.1 ?_
    refine g_aload_n rfl rfl ?_
    refine g_getR rfl (g2.tf (g1.tf fQ)).1.2.2 (g2.tf (g1.tf fQ)).2.2.2 ?_
    refine g_callVO [aO (some Px), aO (some Qw)] [aO (some (c + 1))] rfl rfl rfl rfl (Nat.le_of_ble_eq_true rfl) (G2.cs.kd 1 (by omega) rfl) (s_times (by omega) G2.ci (g2.wb (g1.wb wPx)) (g2.wb (g1.wb wQw)) (by omega)) ?_
    rintro _ h4 ⟨p4, rfl, g4, wp4⟩
    have G4 := G2.trans g4
    refine g_aload_n rfl rfl ?_
    refine g_getR rfl (G4.cs.kd 6 (by omega) rfl) (G4.cs.rf 5 (by omega) rfl) ?_
    refine g_aload_n rfl rfl ?_
    refine g_getR rfl (g4.tf (g2.tf (g1.tf fP))).1.2.2 (g4.tf (g2.tf (g1.tf fP))).2.2.2 ?_
    refine g_aload_n rfl rfl ?_
    refine g_getR rfl (g4.tf (g2.tf (g1.tf fQ))).1.2.2 (g4.tf (g2.tf (g1.tf fQ))).2.1 ?_
    refine g_callVO [aO (some Pw), aO (some Qx)] [aO (some p4), aO (some (c + 1))] rfl rfl rfl rfl (Nat.le_of_ble_eq_true rfl) (G4.cs.kd 1 (by omega) rfl) (s_times (by omega) G4.ci (g4.wb (g2.wb (g1.wb wPw))) (g4.wb (g2.wb (g1.wb wQx))) (by omega)) ?_
    rintro _ h5 ⟨p5, rfl, g5, wp5⟩
    have G5 := G4.trans g5
    refine g_callVI [aO (some p4), aO (some p5)] [] rfl rfl rfl rfl (Nat.le_of_ble_eq_true rfl) (G5.cs.kd 1 (by omega) rfl) (s_areEqual (by omega) G5.ci (g5.wb wp4) wp5) ?_
    rintro _ hx6 ⟨ehx6, rfl⟩
    rw [ehx6]
    clear ehx6 hx6
    refine g_b_eq rfl (fun c77 => ?_) (fun c77 => ?_)
    · skip
      refine g_iconst rfl ?_
      refine g_zret rfl (by omega) ?_
      refine ⟨G5.mono (by omega), ?_⟩
      unfold p_cross_S
      dsimp only []
      first
        | rw [if_pos (by omega)]
        | rw [if_neg (by omega)]
    · skip
      refine g_aload_n rfl rfl ?_
      refine g_getR rfl (G5.cs.kd 6 (by omega) rfl) (G5.cs.rf 5 (by omega) rfl) ?_
      refine g_aload_n rfl rfl ?_
      refine g_getR rfl (G5.cs.kd 6 (by omega) rfl) (G5.cs.rf 5 (by omega) rfl) ?_
      refine g_aload_n rfl rfl ?_
      refine g_getR rfl (g5.tf (g4.tf (g2.tf (g1.tf fP)))).1.2.2 (g5.tf (g4.tf (g2.tf (g1.tf fP)))).2.2.1 ?_
      refine g_aload_n rfl rfl ?_
      refine g_getR rfl (g5.tf (g4.tf (g2.tf (g1.tf fQ)))).1.2.2 (g5.tf (g4.tf (g2.tf (g1.tf fQ)))).2.2.2 ?_
      refine g_callVO [aO (some Py), aO (some Qw)] [aO (some (c + 1))] rfl rfl rfl rfl (Nat.le_of_ble_eq_true rfl) (G5.cs.kd 1 (by omega) rfl) (s_times (by omega) G5.ci (g5.wb (g4.wb (g2.wb (g1.wb wPy)))) (g5.wb (g4.wb (g2.wb (g1.wb wQw)))) (by omega)) ?_
      rintro _ h7 ⟨p7, rfl, g7, wp7⟩
      have G7 := G5.trans g7
      refine g_aload_n rfl rfl ?_
      refine g_getR rfl (G7.cs.kd 6 (by omega) rfl) (G7.cs.rf 5 (by omega) rfl) ?_
      refine g_aload_n rfl rfl ?_
      refine g_getR rfl (g7.tf (g5.tf (g4.tf (g2.tf (g1.tf fP))))).1.2.2 (g7.tf (g5.tf (g4.tf (g2.tf (g1.tf fP))))).2.2.2 ?_
      refine g_aload_n rfl rfl ?_
      refine g_getR rfl (g7.tf (g5.tf (g4.tf (g2.tf (g1.tf fQ))))).1.2.2 (g7.tf (g5.tf (g4.tf (g2.tf (g1.tf fQ))))).2.2.1 ?_
      refine g_callVO [aO (some Pw), aO (some Qy)] [aO (some p7), aO (some (c + 1))] rfl rfl rfl rfl (Nat.le_of_ble_eq_true rfl) (G7.cs.kd 1 (by omega) rfl) (s_times (by omega) G7.ci (g7.wb (g5.wb (g4.wb (g2.wb (g1.wb wPw))))) (g7.wb (g5.wb (g4.wb (g2.wb (g1.wb wQy))))) (by omega)) ?_
      rintro _ h8 ⟨p8, rfl, g8, wp8⟩
      have G8 := G7.trans g8
      refine g_callVI [aO (some p7), aO (some p8)] [] rfl rfl rfl rfl (Nat.le_of_ble_eq_true rfl) (G8.cs.kd 1 (by omega) rfl) (s_areEqual (by omega) G8.ci (g8.wb wp7) wp8) ?_
      rintro _ hx9 ⟨ehx9, rfl⟩
      rw [ehx9]
      clear ehx9 hx9
      refine g_b_eq rfl (fun c117 => ?_) (fun c117 => ?_)
      · skip
        refine g_iconst rfl ?_
        refine g_zret rfl (by omega) ?_
        refine ⟨G8.mono (by omega), ?_⟩
        unfold p_cross_S
        dsimp only []
        first
          | rw [if_pos (by omega)]
          | rw [if_neg (by omega)]
      · skip
        refine g_iconst rfl ?_
        refine g_goto rfl ?_
        refine g_zret rfl (by omega) ?_
        refine ⟨G8.mono (by omega), ?_⟩
        unfold p_cross_S
        dsimp only []
        first
          | rw [if_pos (by omega)]
          | rw [if_neg (by omega)]
def p_common_O (P Q : T3) : Option T3 := if (p_cross_S P Q).1 = 0 ∧ (p_cross_S P Q).2.1 = 0 ∧ (p_cross_S P Q).2.2 = 0 then none else some (p_cross_S P Q)
set_option maxHeartbeats 4000000 in
theorem p_common {w : aW} {d : Nat} (hd : 5 ≤ d) {k : Nat} {h : aH} {c : Nat} (ci : CI h c) {aP : Nat} {P : T3} (tP : TB h c aP P (k)) {aQ : Nat} {Q : T3} (tQ : TB h c aQ Q (k))  (hk : k ≤ 190) : WP w d 42 [aO (some (c + 6)), aO (some aP), aO (some aQ)] h (RO (fun r h1 => Gr h h1 c 7 ∧ OT h1 c r (p_common_O P Q) (2 * k + 1))) := by
  obtain ⟨d, rfl⟩ : ∃ d1, d = d1 + 1 := ⟨d - 1, by omega⟩
  refine WP.enter (cd := cd_X2_common) rfl ?_
  have G0 := Gr.refl ci
  obtain ⟨Px, Py, Pw, fP, wPx, wPy, wPw⟩ := tP
  obtain ⟨Qx, Qy, Qw, fQ, wQx, wQy, wQw⟩ := tQ
  have hls : largs 0 [aO (some (c + 6)), aO (some aP), aO (some aQ)] = [(0, aO (some (c + 6))), (1, aO (some aP)), (2, aO (some aQ))] := rfl
  rw [hls]
  clear hls
  refine g_aload_n rfl rfl ?_
  refine g_aload_n rfl rfl ?_
  refine g_aload_n rfl rfl ?_
  refine g_callVO [aO (some aP), aO (some aQ)] [] rfl rfl rfl rfl (Nat.le_of_ble_eq_true rfl) (G0.cs.kd 6 (by omega) rfl) (p_cross (by omega) G0.ci (show TB h c aP P (k) from ⟨_, _, _, fP, (wPx.up (by omega)), (wPy.up (by omega)), (wPw.up (by omega))⟩) (show TB h c aQ Q (k) from ⟨_, _, _, fQ, (wQx.up (by omega)), (wQy.up (by omega)), (wQw.up (by omega))⟩) (by omega)) ?_
  rintro _ h1 ⟨p1, rfl, g1, p1x, p1y, p1w, f1, wp1x, wp1y, wp1w⟩
  have G1 := G0.trans g1
  refine g_astore_n (l1 := [(3, aO (some p1)), (0, aO (some (c + 6))), (1, aO (some aP)), (2, aO (some aQ))]) rfl rfl ?_
  refine g_aload_n rfl rfl ?_
  refine g_aload_n rfl rfl ?_
  refine g_callVI [aO (some p1)] [] rfl rfl rfl rfl (Nat.le_of_ble_eq_true rfl) (G1.cs.kd 6 (by omega) rfl) (p_isNull (by omega) G1.ci (show TB h1 c p1 (p_cross_S P Q) (2 * k + 1) from ⟨_, _, _, f1, (wp1x.up (by omega)), (wp1y.up (by omega)), (wp1w.up (by omega))⟩)) ?_
  rintro _ hx2 ⟨ehx2, rfl⟩
  rw [ehx2]
  clear ehx2 hx2
  refine g_b_eq rfl (fun c12 => ?_) (fun c12 => ?_)
  · skip
    refine g_aload_n rfl rfl ?_
    refine g_aret rfl ?_
    refine ⟨G1.mono (by omega), ?_⟩
    unfold p_common_O
    rw [if_neg (by omega)]
    exact ⟨p1, rfl, _, _, _, f1, (wp1x.up (by omega)), (wp1y.up (by omega)), (wp1w.up (by omega))⟩
  · skip
    refine g_null rfl ?_
    refine g_goto rfl ?_
    refine g_aret rfl ?_
    refine ⟨G1.mono (by omega), ?_⟩
    unfold p_common_O
    rw [if_pos (by omega)]
    rfl
