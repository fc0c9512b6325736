/-! the class's plane, on: circles: printed by wip/whole/d3.py -/
def p_midR_S (R : T4) : T3 := (-R.2.1, -R.2.2.1, 2 * R.1)
set_option maxHeartbeats 4000000 in
theorem p_midR {w : aW} {d : Nat} (hd : 4 ≤ d) {k : Nat} {h : aH} {c : Nat} (ci : CI h c) {aR : Nat} {R : T4} (tR : QB h c aR R (k))  (hk : k ≤ 381) : WP w d 56 [aO (some (c + 6)), aO (some aR)] h (RO (fun r h1 => ∃ p, r = some p ∧ Gr h h1 c 4 ∧ TB h1 c p (p_midR_S R) (k + 1))) := by
  obtain ⟨d, rfl⟩ : ∃ d1, d = d1 + 1 := ⟨d - 1, by omega⟩
  refine WP.enter (cd := cd_X2_middleOfRing) rfl ?_
  have G0 := Gr.refl ci
  obtain ⟨Rk, Ra, Rb, Re, fR, wRk, wRa, wRb, wRe⟩ := tR
  have hls : largs 0 [aO (some (c + 6)), aO (some aR)] = [(0, aO (some (c + 6))), (1, aO (some aR))] := rfl
  rw [hls]
  clear hls
  refine g_aload_n rfl rfl ?_
  refine g_ifnonnull_t rfl ?_
  refine g_new rfl ?_
  obtain ⟨g1, ob1⟩ := Gr.mk (k := 19) (m := 3) G0.ci (by decide) (by decide)
  obtain ⟨t1, et1⟩ : ∃ t, t = hz h := ⟨_, rfl⟩
  obtain ⟨h1, eh1⟩ : ∃ hq9, hq9 = hnew h 19 3 := ⟨_, rfl⟩
  rw [← eh1, ← et1] at ob1
  rw [← eh1] at g1
  refine g_hp (h2 := h1) eh1.symm ?_
  refine g_top (v2 := aO (some t1)) (by rw [et1]) ?_
  have G1 := G0.trans g1
  refine g_dup rfl rfl ?_
  refine g_aload_n rfl rfl ?_
  refine g_getR rfl (G1.cs.kd 6 (by omega) rfl) (G1.cs.rf 5 (by omega) rfl) ?_
  refine g_aload_n rfl rfl ?_
  refine g_getR rfl (g1.rf fR).1.2.2 (g1.rf fR).2.2.1 ?_
  refine g_callVO [aO (some Ra)] [aO (some t1), aO (some t1)] rfl rfl rfl rfl (Nat.le_of_ble_eq_true rfl) (G1.cs.kd 1 (by omega) rfl) (s_neg (by omega) G1.ci (g1.wb wRa) (by omega)) ?_
  rintro _ h2 ⟨p2, rfl, g2, wp2⟩
  have G2 := G1.trans g2
  refine g_aload_n rfl rfl ?_
  refine g_getR rfl (G2.cs.kd 6 (by omega) rfl) (G2.cs.rf 5 (by omega) rfl) ?_
  refine g_aload_n rfl rfl ?_
  refine g_getR rfl (g2.rf (g1.rf fR)).1.2.2 (g2.rf (g1.rf fR)).2.2.2.1 ?_
  refine g_callVO [aO (some Rb)] [aO (some p2), aO (some t1), aO (some t1)] rfl rfl rfl rfl (Nat.le_of_ble_eq_true rfl) (G2.cs.kd 1 (by omega) rfl) (s_neg (by omega) G2.ci (g2.wb (g1.wb wRb)) (by omega)) ?_
  rintro _ h3 ⟨p3, rfl, g3, wp3⟩
  have G3 := G2.trans g3
  refine g_aload_n rfl rfl ?_
  refine g_getR rfl (G3.cs.kd 6 (by omega) rfl) (G3.cs.rf 5 (by omega) rfl) ?_
  refine g_aload_n rfl rfl ?_
  refine g_getR rfl (g3.rf (g2.rf (g1.rf fR))).1.2.2 (g3.rf (g2.rf (g1.rf fR))).2.1 ?_
  refine g_callVO [aO (some Rk)] [aO (some p3), aO (some p2), aO (some t1), aO (some t1)] rfl rfl rfl rfl (Nat.le_of_ble_eq_true rfl) (G3.cs.kd 1 (by omega) rfl) (s_twice (by omega) G3.ci (g3.wb (g2.wb (g1.wb wRk))) (by omega)) ?_
  rintro _ h4 ⟨p4, rfl, g4, wp4⟩
  have G4 := G3.trans g4
  refine g_callIN [aO (some p2), aO (some p3), aO (some p4)] [aO (some t1)] rfl (by decide) rfl rfl rfl (Nat.le_of_ble_eq_true rfl) (g4.ob (g3.ob (g2.ob ob1))).2.2 (k_Triple (by omega) (g4.ob (g3.ob (g2.ob ob1))).2.2 (g4.ob (g3.ob (g2.ob ob1))).1 p2 p3 p4) ?_
  rintro _ rfl
  have c5 := ct3 (P := (-R.2.1, -R.2.2.1, 2 * R.1)) (k := k + 1) G4 (g4.ob (g3.ob (g2.ob ob1))) (by have := G0.2.1.1; omega) ((g4.wb (g3.wb wp2)).up (by omega)) ((g4.wb wp3).up (by omega)) (wp4.up (by omega))
  obtain ⟨h5, eh5⟩ : ∃ hq9, hq9 = pt3 h4 t1 p2 p3 p4 := ⟨_, rfl⟩
  refine g_hp (h2 := h5) (by rw [eh5]; rfl) ?_
  rw [← eh5] at c5
  have G5 := c5.1
  obtain ⟨q5x, q5y, q5w, f5, wq5x, wq5y, wq5w⟩ := c5.2.1
  refine g_aret rfl ?_
  exact ⟨t1, rfl, G5.mono (by omega), _, _, _, f5, (wq5x.up (by omega)), (wq5y.up (by omega)), (wq5w.up (by omega))⟩
theorem p_midR0 {w : aW} {d : Nat} (hd : 1 ≤ d) {h : aH} {c : Nat} (ci : CI h c) : WP w d 56 [aO (some (c + 6)), aO none] h (RO (fun r h1 => h1 = h ∧ r = none)) := by
  obtain ⟨d, rfl⟩ : ∃ d1, d = d1 + 1 := ⟨d - 1, by omega⟩
  refine WP.enter (cd := cd_X2_middleOfRing) rfl ?_
  have hls : largs 0 [aO (some (c + 6)), aO none] = [(0, aO (some (c + 6))), (1, aO none)] := rfl
  rw [hls]
  clear hls
  refine g_aload_n rfl rfl ?_
  refine g_ifnonnull_f rfl ?_
  refine g_null rfl ?_
  refine g_aret rfl ?_
  exact ⟨rfl, rfl⟩
def p_polar_S (P : T3) (R : T4) : T3 := ((2 * R.1) * P.1 + R.2.1 * P.2.2, (2 * R.1) * P.2.1 + R.2.2.1 * P.2.2, (R.2.1 * P.1 + R.2.2.1 * P.2.1) + ((2 * R.2.2.2) * P.2.2))
set_option maxHeartbeats 4000000 in
theorem p_polar {w : aW} {d : Nat} (hd : 4 ≤ d) {k : Nat} {h : aH} {c : Nat} (ci : CI h c) {aP : Nat} {P : T3} (tP : TB h c aP P (k)) {aR : Nat} {R : T4} (tR : QB h c aR R (20))  (hk : k ≤ 360) : WP w d 58 [aO (some (c + 6)), aO (some aP), aO (some aR)] h (RO (fun r h1 => ∃ p, r = some p ∧ Gr h h1 c 8 ∧ TB h1 c p (p_polar_S P R) (k + 22))) := by
  obtain ⟨d, rfl⟩ : ∃ d1, d = d1 + 1 := ⟨d - 1, by omega⟩
  refine WP.enter (cd := cd_X2_polar) rfl ?_
  have G0 := Gr.refl ci
  obtain ⟨Px, Py, Pw, fP, wPx, wPy, wPw⟩ := tP
  obtain ⟨Rk, Ra, Rb, Re, fR, wRk, wRa, wRb, wRe⟩ := tR
  have hls : largs 0 [aO (some (c + 6)), aO (some aP), aO (some aR)] = [(0, aO (some (c + 6))), (1, aO (some aP)), (2, aO (some aR))] := rfl
  rw [hls]
  clear hls
  refine g_aload_n rfl rfl ?_
  refine g_getR rfl (G0.cs.kd 6 (by omega) rfl) (G0.cs.rf 5 (by omega) rfl) ?_
  refine g_aload_n rfl rfl ?_
  refine g_getR rfl fR.1.2.2 fR.2.1 ?_
  refine g_callVO [aO (some Rk)] [] rfl rfl rfl rfl (Nat.le_of_ble_eq_true rfl) (G0.cs.kd 1 (by omega) rfl) (s_twice (by omega) G0.ci wRk (by omega)) ?_
  rintro _ h1 ⟨p1, rfl, g1, wp1⟩
  have G1 := G0.trans g1
  refine g_astore_n (l1 := [(3, aO (some p1)), (0, aO (some (c + 6))), (1, aO (some aP)), (2, aO (some aR))]) rfl rfl ?_
  refine g_new rfl ?_
  obtain ⟨g2, ob2⟩ := Gr.mk (k := 19) (m := 3) G1.ci (by decide) (by decide)
  obtain ⟨t2, et2⟩ : ∃ t, t = hz h1 := ⟨_, rfl⟩
  obtain ⟨h2, eh2⟩ : ∃ hq9, hq9 = hnew h1 19 3 := ⟨_, rfl⟩
  rw [← eh2, ← et2] at ob2
  rw [← eh2] at g2
  refine g_hp (h2 := h2) eh2.symm ?_
  refine g_top (v2 := aO (some t2)) (by rw [et2]) ?_
  have G2 := G1.trans g2
  refine g_dup rfl rfl ?_
  refine g_aload_n rfl rfl ?_
  refine g_getR rfl (G2.cs.kd 6 (by omega) rfl) (G2.cs.rf 5 (by omega) rfl) ?_
  refine g_aload_n rfl rfl ?_
  refine g_aload_n rfl rfl ?_
  refine g_getR rfl (g2.tf (g1.tf fP)).1.2.2 (g2.tf (g1.tf fP)).2.1 ?_
  refine g_aload_n rfl rfl ?_
  refine g_getR rfl (g2.rf (g1.rf fR)).1.2.2 (g2.rf (g1.rf fR)).2.2.1 ?_
  refine g_aload_n rfl rfl ?_
  refine g_getR rfl (g2.tf (g1.tf fP)).1.2.2 (g2.tf (g1.tf fP)).2.2.2 ?_
  refine g_callVO [aO (some p1), aO (some Px), aO (some Ra), aO (some Pw)] [aO (some t2), aO (some t2)] rfl rfl rfl rfl (Nat.le_of_ble_eq_true rfl) (G2.cs.kd 1 (by omega) rfl) (s_added (by omega) G2.ci (g2.wb wp1) (g2.wb (g1.wb wPx)) (g2.wb (g1.wb wRa)) (g2.wb (g1.wb wPw)) (k + 22) (by omega) (by omega) (by omega)) ?_
  rintro _ h3 ⟨p3, rfl, g3, wp3⟩
  have G3 := G2.trans g3
  refine g_aload_n rfl rfl ?_
  refine g_getR rfl (G3.cs.kd 6 (by omega) rfl) (G3.cs.rf 5 (by omega) rfl) ?_
  refine g_aload_n rfl rfl ?_
  refine g_aload_n rfl rfl ?_
  refine g_getR rfl (g3.tf (g2.tf (g1.tf fP))).1.2.2 (g3.tf (g2.tf (g1.tf fP))).2.2.1 ?_
  refine g_aload_n rfl rfl ?_
  refine g_getR rfl (g3.rf (g2.rf (g1.rf fR))).1.2.2 (g3.rf (g2.rf (g1.rf fR))).2.2.2.1 ?_
  refine g_aload_n rfl rfl ?_
  refine g_getR rfl (g3.tf (g2.tf (g1.tf fP))).1.2.2 (g3.tf (g2.tf (g1.tf fP))).2.2.2 ?_
  refine g_callVO [aO (some p1), aO (some Py), aO (some Rb), aO (some Pw)] [aO (some p3), aO (some t2), aO (some t2)] rfl rfl rfl rfl (Nat.le_of_ble_eq_true rfl) (G3.cs.kd 1 (by omega) rfl) (s_added (by omega) G3.ci (g3.wb (g2.wb wp1)) (g3.wb (g2.wb (g1.wb wPy))) (g3.wb (g2.wb (g1.wb wRb))) (g3.wb (g2.wb (g1.wb wPw))) (k + 22) (by omega) (by omega) (by omega)) ?_
  rintro _ h4 ⟨p4, rfl, g4, wp4⟩
  have G4 := G3.trans g4
  refine g_aload_n rfl rfl ?_
  refine g_getR rfl (G4.cs.kd 6 (by omega) rfl) (G4.cs.rf 5 (by omega) rfl) ?_
  refine g_aload_n rfl rfl ?_
  refine g_getR rfl (G4.cs.kd 6 (by omega) rfl) (G4.cs.rf 5 (by omega) rfl) ?_
  refine g_aload_n rfl rfl ?_
  refine g_getR rfl (g4.rf (g3.rf (g2.rf (g1.rf fR)))).1.2.2 (g4.rf (g3.rf (g2.rf (g1.rf fR)))).2.2.1 ?_
  refine g_aload_n rfl rfl ?_
  refine g_getR rfl (g4.tf (g3.tf (g2.tf (g1.tf fP)))).1.2.2 (g4.tf (g3.tf (g2.tf (g1.tf fP)))).2.1 ?_
  refine g_aload_n rfl rfl ?_
  refine g_getR rfl (g4.rf (g3.rf (g2.rf (g1.rf fR)))).1.2.2 (g4.rf (g3.rf (g2.rf (g1.rf fR)))).2.2.2.1 ?_
  refine g_aload_n rfl rfl ?_
  refine g_getR rfl (g4.tf (g3.tf (g2.tf (g1.tf fP)))).1.2.2 (g4.tf (g3.tf (g2.tf (g1.tf fP)))).2.2.1 ?_
  refine g_callVO [aO (some Ra), aO (some Px), aO (some Rb), aO (some Py)] [aO (some (c + 1)), aO (some p4), aO (some p3), aO (some t2), aO (some t2)] rfl rfl rfl rfl (Nat.le_of_ble_eq_true rfl) (G4.cs.kd 1 (by omega) rfl) (s_added (by omega) G4.ci (g4.wb (g3.wb (g2.wb (g1.wb wRa)))) (g4.wb (g3.wb (g2.wb (g1.wb wPx)))) (g4.wb (g3.wb (g2.wb (g1.wb wRb)))) (g4.wb (g3.wb (g2.wb (g1.wb wPy)))) (k + 21) (by omega) (by omega) (by omega)) ?_
  rintro _ h5 ⟨p5, rfl, g5, wp5⟩
  have G5 := G4.trans g5
  refine g_aload_n rfl rfl ?_
  refine g_getR rfl (G5.cs.kd 6 (by omega) rfl) (G5.cs.rf 5 (by omega) rfl) ?_
  refine g_aload_n rfl rfl ?_
  refine g_getR rfl (G5.cs.kd 6 (by omega) rfl) (G5.cs.rf 5 (by omega) rfl) ?_
  refine g_aload_n rfl rfl ?_
  refine g_getR rfl (g5.rf (g4.rf (g3.rf (g2.rf (g1.rf fR))))).1.2.2 (g5.rf (g4.rf (g3.rf (g2.rf (g1.rf fR))))).2.2.2.2 ?_
  refine g_callVO [aO (some Re)] [aO (some (c + 1)), aO (some p5), aO (some (c + 1)), aO (some p4), aO (some p3), aO (some t2), aO (some t2)] rfl rfl rfl rfl (Nat.le_of_ble_eq_true rfl) (G5.cs.kd 1 (by omega) rfl) (s_twice (by omega) G5.ci (g5.wb (g4.wb (g3.wb (g2.wb (g1.wb wRe))))) (by omega)) ?_
  rintro _ h6 ⟨p6, rfl, g6, wp6⟩
  have G6 := G5.trans g6
  refine g_aload_n rfl rfl ?_
  refine g_getR rfl (g6.tf (g5.tf (g4.tf (g3.tf (g2.tf (g1.tf fP)))))).1.2.2 (g6.tf (g5.tf (g4.tf (g3.tf (g2.tf (g1.tf fP)))))).2.2.2 ?_
  refine g_callVO [aO (some p6), aO (some Pw)] [aO (some p5), aO (some (c + 1)), aO (some p4), aO (some p3), aO (some t2), aO (some t2)] rfl rfl rfl rfl (Nat.le_of_ble_eq_true rfl) (G6.cs.kd 1 (by omega) rfl) (s_times (by omega) G6.ci wp6 (g6.wb (g5.wb (g4.wb (g3.wb (g2.wb (g1.wb wPw)))))) (by omega)) ?_
  rintro _ h7 ⟨p7, rfl, g7, wp7⟩
  have G7 := G6.trans g7
  refine g_callVO [aO (some p5), aO (some p7)] [aO (some p4), aO (some p3), aO (some t2), aO (some t2)] rfl rfl rfl rfl (Nat.le_of_ble_eq_true rfl) (G7.cs.kd 1 (by omega) rfl) (s_plus (by omega) G7.ci (g7.wb (g6.wb wp5)) wp7 (k + 22) (by omega) (by omega) (by omega)) ?_
  rintro _ h8 ⟨p8, rfl, g8, wp8⟩
  have G8 := G7.trans g8
  refine g_callIN [aO (some p3), aO (some p4), aO (some p8)] [aO (some t2)] rfl (by decide) rfl rfl rfl (Nat.le_of_ble_eq_true rfl) (g8.ob (g7.ob (g6.ob (g5.ob (g4.ob (g3.ob ob2)))))).2.2 (k_Triple (by omega) (g8.ob (g7.ob (g6.ob (g5.ob (g4.ob (g3.ob ob2)))))).2.2 (g8.ob (g7.ob (g6.ob (g5.ob (g4.ob (g3.ob ob2)))))).1 p3 p4 p8) ?_
  rintro _ rfl
  have c9 := ct3 (P := ((2 * R.1) * P.1 + R.2.1 * P.2.2, (2 * R.1) * P.2.1 + R.2.2.1 * P.2.2, (R.2.1 * P.1 + R.2.2.1 * P.2.1) + ((2 * R.2.2.2) * P.2.2))) (k := k + 22) G8 (g8.ob (g7.ob (g6.ob (g5.ob (g4.ob (g3.ob ob2)))))) (by have := G1.2.1.1; omega) ((g8.wb (g7.wb (g6.wb (g5.wb (g4.wb wp3))))).up (by omega)) ((g8.wb (g7.wb (g6.wb (g5.wb wp4)))).up (by omega)) (wp8.up (by omega))
  have faP_9 := c9.2.2.2.1 _ _ _ _ (by have := (g1.tf fP).1.1; omega) (g8.tf (g7.tf (g6.tf (g5.tf (g4.tf (g3.tf (g2.tf (g1.tf fP))))))))
  obtain ⟨h9, eh9⟩ : ∃ hq9, hq9 = pt3 h8 t2 p3 p4 p8 := ⟨_, rfl⟩
  refine g_hp (h2 := h9) (by rw [eh9]; rfl) ?_
  rw [← eh9] at c9 faP_9
  have G9 := c9.1
  obtain ⟨q9x, q9y, q9w, f9, wq9x, wq9y, wq9w⟩ := c9.2.1
  refine g_aret rfl ?_
  exact ⟨t2, rfl, G9.mono (by omega), _, _, _, f9, (wq9x.up (by omega)), (wq9y.up (by omega)), (wq9w.up (by omega))⟩
def p_tam_S (L : T3) (R : T4) : Int := (2 * (R.1 * L.2.2)) - (R.2.1 * L.1 + R.2.2.1 * L.2.1)
set_option maxHeartbeats 4000000 in
theorem p_tam {w : aW} {d : Nat} (hd : 4 ≤ d) {k : Nat} {h : aH} {c : Nat} (ci : CI h c) {aL : Nat} {L : T3} (tL : TB h c aL L (k)) {aR : Nat} {R : T4} (tR : QB h c aR R (20))  (hk : k ≤ 360) : WP w d 60 [aO (some (c + 6)), aO (some aL), aO (some aR)] h (RO (fun r h1 => ∃ p, r = some p ∧ Gr h h1 c 4 ∧ WB h1 c p (p_tam_S L R) (k + 22))) := by
  obtain ⟨d, rfl⟩ : ∃ d1, d = d1 + 1 := ⟨d - 1, by omega⟩
  refine WP.enter (cd := cd_X2_twiceAtMiddle) rfl ?_
  have G0 := Gr.refl ci
  obtain ⟨Lx, Ly, Lw, fL, wLx, wLy, wLw⟩ := tL
  obtain ⟨Rk, Ra, Rb, Re, fR, wRk, wRa, wRb, wRe⟩ := tR
  have hls : largs 0 [aO (some (c + 6)), aO (some aL), aO (some aR)] = [(0, aO (some (c + 6))), (1, aO (some aL)), (2, aO (some aR))] := rfl
  rw [hls]
  clear hls
  refine g_aload_n rfl rfl ?_
  refine g_getR rfl (G0.cs.kd 6 (by omega) rfl) (G0.cs.rf 5 (by omega) rfl) ?_
  refine g_aload_n rfl rfl ?_
  refine g_getR rfl (G0.cs.kd 6 (by omega) rfl) (G0.cs.rf 5 (by omega) rfl) ?_
  refine g_aload_n rfl rfl ?_
  refine g_getR rfl (G0.cs.kd 6 (by omega) rfl) (G0.cs.rf 5 (by omega) rfl) ?_
  refine g_aload_n rfl rfl ?_
  refine g_getR rfl fR.1.2.2 fR.2.1 ?_
  refine g_aload_n rfl rfl ?_
  refine g_getR rfl fL.1.2.2 fL.2.2.2 ?_
  refine g_callVO [aO (some Rk), aO (some Lw)] [aO (some (c + 1)), aO (some (c + 1))] rfl rfl rfl rfl (Nat.le_of_ble_eq_true rfl) (G0.cs.kd 1 (by omega) rfl) (s_times (by omega) G0.ci wRk wLw (by omega)) ?_
  rintro _ h1 ⟨p1, rfl, g1, wp1⟩
  have G1 := G0.trans g1
  refine g_callVO [aO (some p1)] [aO (some (c + 1))] rfl rfl rfl rfl (Nat.le_of_ble_eq_true rfl) (G1.cs.kd 1 (by omega) rfl) (s_twice (by omega) G1.ci wp1 (by omega)) ?_
  rintro _ h2 ⟨p2, rfl, g2, wp2⟩
  have G2 := G1.trans g2
  refine g_aload_n rfl rfl ?_
  refine g_getR rfl (G2.cs.kd 6 (by omega) rfl) (G2.cs.rf 5 (by omega) rfl) ?_
  refine g_aload_n rfl rfl ?_
  refine g_getR rfl (g2.rf (g1.rf fR)).1.2.2 (g2.rf (g1.rf fR)).2.2.1 ?_
  refine g_aload_n rfl rfl ?_
  refine g_getR rfl (g2.tf (g1.tf fL)).1.2.2 (g2.tf (g1.tf fL)).2.1 ?_
  refine g_aload_n rfl rfl ?_
  refine g_getR rfl (g2.rf (g1.rf fR)).1.2.2 (g2.rf (g1.rf fR)).2.2.2.1 ?_
  refine g_aload_n rfl rfl ?_
  refine g_getR rfl (g2.tf (g1.tf fL)).1.2.2 (g2.tf (g1.tf fL)).2.2.1 ?_
  refine g_callVO [aO (some Ra), aO (some Lx), aO (some Rb), aO (some Ly)] [aO (some p2), aO (some (c + 1))] rfl rfl rfl rfl (Nat.le_of_ble_eq_true rfl) (G2.cs.kd 1 (by omega) rfl) (s_added (by omega) G2.ci (g2.wb (g1.wb wRa)) (g2.wb (g1.wb wLx)) (g2.wb (g1.wb wRb)) (g2.wb (g1.wb wLy)) (k + 21) (by omega) (by omega) (by omega)) ?_
  rintro _ h3 ⟨p3, rfl, g3, wp3⟩
  have G3 := G2.trans g3
  refine g_callVO [aO (some p2), aO (some p3)] [] rfl rfl rfl rfl (Nat.le_of_ble_eq_true rfl) (G3.cs.kd 1 (by omega) rfl) (s_minus (by omega) G3.ci (g3.wb wp2) wp3 (k + 22) (by omega) (by omega) (by omega)) ?_
  rintro _ h4 ⟨p4, rfl, g4, wp4⟩
  have G4 := G3.trans g4
  refine g_aret rfl ?_
  exact ⟨p4, rfl, G4.mono (by omega), (wp4.up (by omega))⟩
def p_spread_S (R : T4) : Int := (R.2.1 * R.2.1 + R.2.2.1 * R.2.2.1) - ((2 * R.1) * (2 * R.2.2.2))
set_option maxHeartbeats 4000000 in
theorem p_spread {w : aW} {d : Nat} (hd : 4 ≤ d) {h : aH} {c : Nat} (ci : CI h c) {aR : Nat} {R : T4} (tR : QB h c aR R (20))  : WP w d 61 [aO (some (c + 6)), aO (some aR)] h (RO (fun r h1 => ∃ p, r = some p ∧ Gr h h1 c 5 ∧ WB h1 c p (p_spread_S R) (43))) := by
  obtain ⟨d, rfl⟩ : ∃ d1, d = d1 + 1 := ⟨d - 1, by omega⟩
  refine WP.enter (cd := cd_X2_spread) rfl ?_
  have G0 := Gr.refl ci
  obtain ⟨Rk, Ra, Rb, Re, fR, wRk, wRa, wRb, wRe⟩ := tR
  have hls : largs 0 [aO (some (c + 6)), aO (some aR)] = [(0, aO (some (c + 6))), (1, aO (some aR))] := rfl
  rw [hls]
  clear hls
  refine g_aload_n rfl rfl ?_
  refine g_getR rfl (G0.cs.kd 6 (by omega) rfl) (G0.cs.rf 5 (by omega) rfl) ?_
  refine g_aload_n rfl rfl ?_
  refine g_getR rfl (G0.cs.kd 6 (by omega) rfl) (G0.cs.rf 5 (by omega) rfl) ?_
  refine g_aload_n rfl rfl ?_
  refine g_getR rfl fR.1.2.2 fR.2.2.1 ?_
  refine g_aload_n rfl rfl ?_
  refine g_getR rfl fR.1.2.2 fR.2.2.1 ?_
  refine g_aload_n rfl rfl ?_
  refine g_getR rfl fR.1.2.2 fR.2.2.2.1 ?_
  refine g_aload_n rfl rfl ?_
  refine g_getR rfl fR.1.2.2 fR.2.2.2.1 ?_
  refine g_callVO [aO (some Ra), aO (some Ra), aO (some Rb), aO (some Rb)] [aO (some (c + 1))] rfl rfl rfl rfl (Nat.le_of_ble_eq_true rfl) (G0.cs.kd 1 (by omega) rfl) (s_added (by omega) G0.ci wRa wRa wRb wRb (41) (by omega) (by omega) (by omega)) ?_
  rintro _ h1 ⟨p1, rfl, g1, wp1⟩
  have G1 := G0.trans g1
  refine g_aload_n rfl rfl ?_
  refine g_getR rfl (G1.cs.kd 6 (by omega) rfl) (G1.cs.rf 5 (by omega) rfl) ?_
  refine g_aload_n rfl rfl ?_
  refine g_getR rfl (G1.cs.kd 6 (by omega) rfl) (G1.cs.rf 5 (by omega) rfl) ?_
  refine g_aload_n rfl rfl ?_
  refine g_getR rfl (g1.rf fR).1.2.2 (g1.rf fR).2.1 ?_
  refine g_callVO [aO (some Rk)] [aO (some (c + 1)), aO (some p1), aO (some (c + 1))] rfl rfl rfl rfl (Nat.le_of_ble_eq_true rfl) (G1.cs.kd 1 (by omega) rfl) (s_twice (by omega) G1.ci (g1.wb wRk) (by omega)) ?_
  rintro _ h2 ⟨p2, rfl, g2, wp2⟩
  have G2 := G1.trans g2
  refine g_aload_n rfl rfl ?_
  refine g_getR rfl (G2.cs.kd 6 (by omega) rfl) (G2.cs.rf 5 (by omega) rfl) ?_
  refine g_aload_n rfl rfl ?_
  refine g_getR rfl (g2.rf (g1.rf fR)).1.2.2 (g2.rf (g1.rf fR)).2.2.2.2 ?_
  refine g_callVO [aO (some Re)] [aO (some p2), aO (some (c + 1)), aO (some p1), aO (some (c + 1))] rfl rfl rfl rfl (Nat.le_of_ble_eq_true rfl) (G2.cs.kd 1 (by omega) rfl) (s_twice (by omega) G2.ci (g2.wb (g1.wb wRe)) (by omega)) ?_
  rintro _ h3 ⟨p3, rfl, g3, wp3⟩
  have G3 := G2.trans g3
  refine g_callVO [aO (some p2), aO (some p3)] [aO (some p1), aO (some (c + 1))] rfl rfl rfl rfl (Nat.le_of_ble_eq_true rfl) (G3.cs.kd 1 (by omega) rfl) (s_times (by omega) G3.ci (g3.wb wp2) wp3 (by omega)) ?_
  rintro _ h4 ⟨p4, rfl, g4, wp4⟩
  have G4 := G3.trans g4
  refine g_callVO [aO (some p1), aO (some p4)] [] rfl rfl rfl rfl (Nat.le_of_ble_eq_true rfl) (G4.cs.kd 1 (by omega) rfl) (s_minus (by omega) G4.ci (g4.wb (g3.wb (g2.wb wp1))) wp4 (43) (by omega) (by omega) (by omega)) ?_
  rintro _ h5 ⟨p5, rfl, g5, wp5⟩
  have G5 := G4.trans g5
  refine g_aret rfl ?_
  exact ⟨p5, rfl, G5.mono (by omega), (wp5.up (by omega))⟩
def p_pole_S (L : T3) (R : T4) : T3 := (-(R.2.1 * (p_tam_S L R) + (p_spread_S R) * L.1), -(R.2.2.1 * (p_tam_S L R) + (p_spread_S R) * L.2.1), 2 * (R.1 * (p_tam_S L R)))
set_option maxHeartbeats 4000000 in
theorem p_pole {w : aW} {d : Nat} (hd : 5 ≤ d) {h : aH} {c : Nat} (ci : CI h c) {aL : Nat} {L : T3} (tL : TB h c aL L (20)) {aR : Nat} {R : T4} (tR : QB h c aR R (20))  : WP w d 59 [aO (some (c + 6)), aO (some aL), aO (some aR)] h (RO (fun r h1 => ∃ p, r = some p ∧ Gr h h1 c 16 ∧ TB h1 c p (p_pole_S L R) (64))) := by
  obtain ⟨d, rfl⟩ : ∃ d1, d = d1 + 1 := ⟨d - 1, by omega⟩
  refine WP.enter (cd := cd_X2_pole) rfl ?_
  have G0 := Gr.refl ci
  obtain ⟨Lx, Ly, Lw, fL, wLx, wLy, wLw⟩ := tL
  obtain ⟨Rk, Ra, Rb, Re, fR, wRk, wRa, wRb, wRe⟩ := tR
  have hls : largs 0 [aO (some (c + 6)), aO (some aL), aO (some aR)] = [(0, aO (some (c + 6))), (1, aO (some aL)), (2, aO (some aR))] := rfl
  rw [hls]
  clear hls
  refine g_aload_n rfl rfl ?_
  refine g_aload_n rfl rfl ?_
  refine g_aload_n rfl rfl ?_
  refine g_callVO [aO (some aL), aO (some aR)] [] rfl rfl rfl rfl (Nat.le_of_ble_eq_true rfl) (G0.cs.kd 6 (by omega) rfl) (p_tam (by omega) G0.ci (show TB h c aL L (20) from ⟨_, _, _, fL, (wLx.up (by omega)), (wLy.up (by omega)), (wLw.up (by omega))⟩) (show QB h c aR R (20) from ⟨_, _, _, _, fR, (wRk.up (by omega)), (wRa.up (by omega)), (wRb.up (by omega)), (wRe.up (by omega))⟩) (by omega)) ?_
  rintro _ h1 ⟨p1, rfl, g1, wp1⟩
  have G1 := G0.trans g1
  refine g_astore_n (l1 := [(3, aO (some p1)), (0, aO (some (c + 6))), (1, aO (some aL)), (2, aO (some aR))]) rfl rfl ?_
  refine g_aload_n rfl rfl ?_
  refine g_aload_n rfl rfl ?_
  refine g_callVO [aO (some aR)] [] rfl rfl rfl rfl (Nat.le_of_ble_eq_true rfl) (G1.cs.kd 6 (by omega) rfl) (p_spread (by omega) G1.ci (show QB h1 c aR R (20) from ⟨_, _, _, _, (g1.rf fR), ((g1.wb wRk).up (by omega)), ((g1.wb wRa).up (by omega)), ((g1.wb wRb).up (by omega)), ((g1.wb wRe).up (by omega))⟩)) ?_
  rintro _ h2 ⟨p2, rfl, g2, wp2⟩
  have G2 := G1.trans g2
  refine g_astore (l1 := [(4, aO (some p2)), (3, aO (some p1)), (0, aO (some (c + 6))), (1, aO (some aL)), (2, aO (some aR))]) rfl rfl ?_
  refine g_new rfl ?_
  obtain ⟨g3, ob3⟩ := Gr.mk (k := 19) (m := 3) G2.ci (by decide) (by decide)
  obtain ⟨t3, et3⟩ : ∃ t, t = hz h2 := ⟨_, rfl⟩
  obtain ⟨h3, eh3⟩ : ∃ hq9, hq9 = hnew h2 19 3 := ⟨_, rfl⟩
  rw [← eh3, ← et3] at ob3
  rw [← eh3] at g3
  refine g_hp (h2 := h3) eh3.symm ?_
  refine g_top (v2 := aO (some t3)) (by rw [et3]) ?_
  have G3 := G2.trans g3
  refine g_dup rfl rfl ?_
  refine g_aload_n rfl rfl ?_
  refine g_getR rfl (G3.cs.kd 6 (by omega) rfl) (G3.cs.rf 5 (by omega) rfl) ?_
  refine g_aload_n rfl rfl ?_
  refine g_getR rfl (G3.cs.kd 6 (by omega) rfl) (G3.cs.rf 5 (by omega) rfl) ?_
  refine g_aload_n rfl rfl ?_
  refine g_getR rfl (g3.rf (g2.rf (g1.rf fR))).1.2.2 (g3.rf (g2.rf (g1.rf fR))).2.2.1 ?_
  refine g_aload_n rfl rfl ?_
  refine g_aload rfl rfl ?_
  refine g_aload_n rfl rfl ?_
  refine g_getR rfl (g3.tf (g2.tf (g1.tf fL))).1.2.2 (g3.tf (g2.tf (g1.tf fL))).2.1 ?_
  refine g_callVO [aO (some Ra), aO (some p1), aO (some p2), aO (some Lx)] [aO (some (c + 1)), aO (some t3), aO (some t3)] rfl rfl rfl rfl (Nat.le_of_ble_eq_true rfl) (G3.cs.kd 1 (by omega) rfl) (s_added (by omega) G3.ci (g3.wb (g2.wb (g1.wb wRa))) (g3.wb (g2.wb wp1)) (g3.wb wp2) (g3.wb (g2.wb (g1.wb wLx))) (64) (by omega) (by omega) (by omega)) ?_
  rintro _ h4 ⟨p4, rfl, g4, wp4⟩
  have G4 := G3.trans g4
  refine g_callVO [aO (some p4)] [aO (some t3), aO (some t3)] rfl rfl rfl rfl (Nat.le_of_ble_eq_true rfl) (G4.cs.kd 1 (by omega) rfl) (s_neg (by omega) G4.ci wp4 (by omega)) ?_
  rintro _ h5 ⟨p5, rfl, g5, wp5⟩
  have G5 := G4.trans g5
  refine g_aload_n rfl rfl ?_
  refine g_getR rfl (G5.cs.kd 6 (by omega) rfl) (G5.cs.rf 5 (by omega) rfl) ?_
  refine g_aload_n rfl rfl ?_
  refine g_getR rfl (G5.cs.kd 6 (by omega) rfl) (G5.cs.rf 5 (by omega) rfl) ?_
  refine g_aload_n rfl rfl ?_
  refine g_getR rfl (g5.rf (g4.rf (g3.rf (g2.rf (g1.rf fR))))).1.2.2 (g5.rf (g4.rf (g3.rf (g2.rf (g1.rf fR))))).2.2.2.1 ?_
  refine g_aload_n rfl rfl ?_
  refine g_aload rfl rfl ?_
  refine g_aload_n rfl rfl ?_
  refine g_getR rfl (g5.tf (g4.tf (g3.tf (g2.tf (g1.tf fL))))).1.2.2 (g5.tf (g4.tf (g3.tf (g2.tf (g1.tf fL))))).2.2.1 ?_
  refine g_callVO [aO (some Rb), aO (some p1), aO (some p2), aO (some Ly)] [aO (some (c + 1)), aO (some p5), aO (some t3), aO (some t3)] rfl rfl rfl rfl (Nat.le_of_ble_eq_true rfl) (G5.cs.kd 1 (by omega) rfl) (s_added (by omega) G5.ci (g5.wb (g4.wb (g3.wb (g2.wb (g1.wb wRb))))) (g5.wb (g4.wb (g3.wb (g2.wb wp1)))) (g5.wb (g4.wb (g3.wb wp2))) (g5.wb (g4.wb (g3.wb (g2.wb (g1.wb wLy))))) (64) (by omega) (by omega) (by omega)) ?_
  rintro _ h6 ⟨p6, rfl, g6, wp6⟩
  have G6 := G5.trans g6
  refine g_callVO [aO (some p6)] [aO (some p5), aO (some t3), aO (some t3)] rfl rfl rfl rfl (Nat.le_of_ble_eq_true rfl) (G6.cs.kd 1 (by omega) rfl) (s_neg (by omega) G6.ci wp6 (by omega)) ?_
  rintro _ h7 ⟨p7, rfl, g7, wp7⟩
  have G7 := G6.trans g7
  refine g_aload_n rfl rfl ?_
  refine g_getR rfl (G7.cs.kd 6 (by omega) rfl) (G7.cs.rf 5 (by omega) rfl) ?_
  refine g_aload_n rfl rfl ?_
  refine g_getR rfl (G7.cs.kd 6 (by omega) rfl) (G7.cs.rf 5 (by omega) rfl) ?_
  refine g_aload_n rfl rfl ?_
  refine g_getR rfl (g7.rf (g6.rf (g5.rf (g4.rf (g3.rf (g2.rf (g1.rf fR))))))).1.2.2 (g7.rf (g6.rf (g5.rf (g4.rf (g3.rf (g2.rf (g1.rf fR))))))).2.1 ?_
  refine g_aload_n rfl rfl ?_
  refine g_callVO [aO (some Rk), aO (some p1)] [aO (some (c + 1)), aO (some p7), aO (some p5), aO (some t3), aO (some t3)] rfl rfl rfl rfl (Nat.le_of_ble_eq_true rfl) (G7.cs.kd 1 (by omega) rfl) (s_times (by omega) G7.ci (g7.wb (g6.wb (g5.wb (g4.wb (g3.wb (g2.wb (g1.wb wRk))))))) (g7.wb (g6.wb (g5.wb (g4.wb (g3.wb (g2.wb wp1)))))) (by omega)) ?_
  rintro _ h8 ⟨p8, rfl, g8, wp8⟩
  have G8 := G7.trans g8
  refine g_callVO [aO (some p8)] [aO (some p7), aO (some p5), aO (some t3), aO (some t3)] rfl rfl rfl rfl (Nat.le_of_ble_eq_true rfl) (G8.cs.kd 1 (by omega) rfl) (s_twice (by omega) G8.ci wp8 (by omega)) ?_
  rintro _ h9 ⟨p9, rfl, g9, wp9⟩
  have G9 := G8.trans g9
  refine g_callIN [aO (some p5), aO (some p7), aO (some p9)] [aO (some t3)] rfl (by decide) rfl rfl rfl (Nat.le_of_ble_eq_true rfl) (g9.ob (g8.ob (g7.ob (g6.ob (g5.ob (g4.ob ob3)))))).2.2 (k_Triple (by omega) (g9.ob (g8.ob (g7.ob (g6.ob (g5.ob (g4.ob ob3)))))).2.2 (g9.ob (g8.ob (g7.ob (g6.ob (g5.ob (g4.ob ob3)))))).1 p5 p7 p9) ?_
  rintro _ rfl
  have c10 := ct3 (P := (-(R.2.1 * (p_tam_S L R) + (p_spread_S R) * L.1), -(R.2.2.1 * (p_tam_S L R) + (p_spread_S R) * L.2.1), 2 * (R.1 * (p_tam_S L R)))) (k := 64) G9 (g9.ob (g8.ob (g7.ob (g6.ob (g5.ob (g4.ob ob3)))))) (by have := G2.2.1.1; omega) ((g9.wb (g8.wb (g7.wb (g6.wb wp5)))).up (by omega)) ((g9.wb (g8.wb wp7)).up (by omega)) (wp9.up (by omega))
  have faL_10 := c10.2.2.2.1 _ _ _ _ (by have := (g2.tf (g1.tf fL)).1.1; omega) (g9.tf (g8.tf (g7.tf (g6.tf (g5.tf (g4.tf (g3.tf (g2.tf (g1.tf fL)))))))))
  obtain ⟨h10, eh10⟩ : ∃ hq9, hq9 = pt3 h9 t3 p5 p7 p9 := ⟨_, rfl⟩
  refine g_hp (h2 := h10) (by rw [eh10]; rfl) ?_
  rw [← eh10] at c10 faL_10
  have G10 := c10.1
  obtain ⟨q10x, q10y, q10w, f10, wq10x, wq10y, wq10w⟩ := c10.2.1
  refine g_aret rfl ?_
  exact ⟨t3, rfl, G10.mono (by omega), _, _, _, f10, (wq10x.up (by omega)), (wq10y.up (by omega)), (wq10w.up (by omega))⟩
def p_power_S (R U : T4) : T3 := (U.1 * R.2.1 - R.1 * U.2.1, U.1 * R.2.2.1 - R.1 * U.2.2.1, U.1 * R.2.2.2 - R.1 * U.2.2.2)
def p_power_O (R U : T4) : Option T3 := if U.1 * R.2.1 - R.1 * U.2.1 = 0 ∧ U.1 * R.2.2.1 - R.1 * U.2.2.1 = 0 then none else some (p_power_S R U)
set_option maxHeartbeats 4000000 in
theorem p_power {w : aW} {d : Nat} (hd : 4 ≤ d) {h : aH} {c : Nat} (ci : CI h c) {aR : Nat} {R : T4} (tR : QB h c aR R (20)) {aU : Nat} {U : T4} (tU : QB h c aU U (20))  : WP w d 62 [aO (some (c + 6)), aO (some aR), aO (some aU)] h (RO (fun r h1 => Gr h h1 c 7 ∧ OT h1 c r (p_power_O R U) (41))) := by
  obtain ⟨d, rfl⟩ : ∃ d1, d = d1 + 1 := ⟨d - 1, by omega⟩
  refine WP.enter (cd := cd_X2_powerLine) rfl ?_
  have G0 := Gr.refl ci
  obtain ⟨Rk, Ra, Rb, Re, fR, wRk, wRa, wRb, wRe⟩ := tR
  obtain ⟨Uk, Ua, Ub, Ue, fU, wUk, wUa, wUb, wUe⟩ := tU
  have hls : largs 0 [aO (some (c + 6)), aO (some aR), aO (some aU)] = [(0, aO (some (c + 6))), (1, aO (some aR)), (2, aO (some aU))] := rfl
  rw [hls]
  clear hls
  refine g_new rfl ?_
  obtain ⟨g1, ob1⟩ := Gr.mk (k := 19) (m := 3) G0.ci (by decide) (by decide)
  obtain ⟨t1, et1⟩ : ∃ t, t = hz h := ⟨_, rfl⟩
  obtain ⟨h1, eh1⟩ : ∃ hq9, hq9 = hnew h 19 3 := ⟨_, rfl⟩
  rw [← eh1, ← et1] at ob1
  rw [← eh1] at g1
  refine g_hp (h2 := h1) eh1.symm ?_
  refine g_top (v2 := aO (some t1)) (by rw [et1]) ?_
  have G1 := G0.trans g1
  refine g_dup rfl rfl ?_
  refine g_aload_n rfl rfl ?_
  refine g_getR rfl (G1.cs.kd 6 (by omega) rfl) (G1.cs.rf 5 (by omega) rfl) ?_
  refine g_aload_n rfl rfl ?_
  refine g_getR rfl (g1.rf fU).1.2.2 (g1.rf fU).2.1 ?_
  refine g_aload_n rfl rfl ?_
  refine g_getR rfl (g1.rf fR).1.2.2 (g1.rf fR).2.2.1 ?_
  refine g_aload_n rfl rfl ?_
  refine g_getR rfl (g1.rf fR).1.2.2 (g1.rf fR).2.1 ?_
  refine g_aload_n rfl rfl ?_
  refine g_getR rfl (g1.rf fU).1.2.2 (g1.rf fU).2.2.1 ?_
  refine g_callVO [aO (some Uk), aO (some Ra), aO (some Rk), aO (some Ua)] [aO (some t1), aO (some t1)] rfl rfl rfl rfl (Nat.le_of_ble_eq_true rfl) (G1.cs.kd 1 (by omega) rfl) (s_diff (by omega) G1.ci (g1.wb wUk) (g1.wb wRa) (g1.wb wRk) (g1.wb wUa) (41) (by omega) (by omega) (by omega)) ?_
  rintro _ h2 ⟨p2, rfl, g2, wp2⟩
  have G2 := G1.trans g2
  refine g_aload_n rfl rfl ?_
  refine g_getR rfl (G2.cs.kd 6 (by omega) rfl) (G2.cs.rf 5 (by omega) rfl) ?_
  refine g_aload_n rfl rfl ?_
  refine g_getR rfl (g2.rf (g1.rf fU)).1.2.2 (g2.rf (g1.rf fU)).2.1 ?_
  refine g_aload_n rfl rfl ?_
  refine g_getR rfl (g2.rf (g1.rf fR)).1.2.2 (g2.rf (g1.rf fR)).2.2.2.1 ?_
  refine g_aload_n rfl rfl ?_
  refine g_getR rfl (g2.rf (g1.rf fR)).1.2.2 (g2.rf (g1.rf fR)).2.1 ?_
  refine g_aload_n rfl rfl ?_
  refine g_getR rfl (g2.rf (g1.rf fU)).1.2.2 (g2.rf (g1.rf fU)).2.2.2.1 ?_
  refine g_callVO [aO (some Uk), aO (some Rb), aO (some Rk), aO (some Ub)] [aO (some p2), aO (some t1), aO (some t1)] rfl rfl rfl rfl (Nat.le_of_ble_eq_true rfl) (G2.cs.kd 1 (by omega) rfl) (s_diff (by omega) G2.ci (g2.wb (g1.wb wUk)) (g2.wb (g1.wb wRb)) (g2.wb (g1.wb wRk)) (g2.wb (g1.wb wUb)) (41) (by omega) (by omega) (by omega)) ?_
  rintro _ h3 ⟨p3, rfl, g3, wp3⟩
  have G3 := G2.trans g3
  refine g_aload_n rfl rfl ?_
  refine g_getR rfl (G3.cs.kd 6 (by omega) rfl) (G3.cs.rf 5 (by omega) rfl) ?_
  refine g_aload_n rfl rfl ?_
  refine g_getR rfl (g3.rf (g2.rf (g1.rf fU))).1.2.2 (g3.rf (g2.rf (g1.rf fU))).2.1 ?_
  refine g_aload_n rfl rfl ?_
  refine g_getR rfl (g3.rf (g2.rf (g1.rf fR))).1.2.2 (g3.rf (g2.rf (g1.rf fR))).2.2.2.2 ?_
  refine g_aload_n rfl rfl ?_
  refine g_getR rfl (g3.rf (g2.rf (g1.rf fR))).1.2.2 (g3.rf (g2.rf (g1.rf fR))).2.1 ?_
  refine g_aload_n rfl rfl ?_
  refine g_getR rfl (g3.rf (g2.rf (g1.rf fU))).1.2.2 (g3.rf (g2.rf (g1.rf fU))).2.2.2.2 ?_
  refine g_callVO [aO (some Uk), aO (some Re), aO (some Rk), aO (some Ue)] [aO (some p3), aO (some p2), aO (some t1), aO (some t1)] rfl rfl rfl rfl (Nat.le_of_ble_eq_true rfl) (G3.cs.kd 1 (by omega) rfl) (s_diff (by omega) G3.ci (g3.wb (g2.wb (g1.wb wUk))) (g3.wb (g2.wb (g1.wb wRe))) (g3.wb (g2.wb (g1.wb wRk))) (g3.wb (g2.wb (g1.wb wUe))) (41) (by omega) (by omega) (by omega)) ?_
  rintro _ h4 ⟨p4, rfl, g4, wp4⟩
  have G4 := G3.trans g4
  refine g_callIN [aO (some p2), aO (some p3), aO (some p4)] [aO (some t1)] rfl (by decide) rfl rfl rfl (Nat.le_of_ble_eq_true rfl) (g4.ob (g3.ob (g2.ob ob1))).2.2 (k_Triple (by omega) (g4.ob (g3.ob (g2.ob ob1))).2.2 (g4.ob (g3.ob (g2.ob ob1))).1 p2 p3 p4) ?_
  rintro _ rfl
  have c5 := ct3 (P := (U.1 * R.2.1 - R.1 * U.2.1, U.1 * R.2.2.1 - R.1 * U.2.2.1, U.1 * R.2.2.2 - R.1 * U.2.2.2)) (k := 41) G4 (g4.ob (g3.ob (g2.ob ob1))) (by have := G0.2.1.1; omega) ((g4.wb (g3.wb wp2)).up (by omega)) ((g4.wb wp3).up (by omega)) (wp4.up (by omega))
  obtain ⟨h5, eh5⟩ : ∃ hq9, hq9 = pt3 h4 t1 p2 p3 p4 := ⟨_, rfl⟩
  refine g_hp (h2 := h5) (by rw [eh5]; rfl) ?_
  rw [← eh5] at c5
  have G5 := c5.1
  obtain ⟨q5x, q5y, q5w, f5, wq5x, wq5y, wq5w⟩ := c5.2.1
  refine g_astore_n (l1 := [(3, aO (some t1)), (0, aO (some (c + 6))), (1, aO (some aR)), (2, aO (some aU))]) rfl rfl ?_
  refine g_aload_n rfl rfl ?_
  refine g_aload_n rfl rfl ?_
  refine g_callVI [aO (some t1)] [] rfl rfl rfl rfl (Nat.le_of_ble_eq_true rfl) (G5.cs.kd 6 (by omega) rfl) (p_hasAllFar (by omega) G5.ci (show TB h5 c t1 ((U.1 * R.2.1 - R.1 * U.2.1, U.1 * R.2.2.1 - R.1 * U.2.2.1, U.1 * R.2.2.2 - R.1 * U.2.2.2)) (41) from ⟨_, _, _, f5, (wq5x.up (by omega)), (wq5y.up (by omega)), (wq5w.up (by omega))⟩)) ?_
  rintro _ hx6 ⟨ehx6, rfl⟩
  rw [ehx6]
  clear ehx6 hx6
  refine g_b_eq rfl (fun c82 => ?_) (fun c82 => ?_)
  · skip
    refine g_aload_n rfl rfl ?_
    refine g_aret rfl ?_
    refine ⟨G5.mono (by omega), ?_⟩
    unfold p_power_O
    rw [if_neg (by omega)]
    exact ⟨t1, rfl, _, _, _, f5, (wq5x.up (by omega)), (wq5y.up (by omega)), (wq5w.up (by omega))⟩
  · skip
    refine g_null rfl ?_
    refine g_goto rfl ?_
    refine g_aret rfl ?_
    refine ⟨G5.mono (by omega), ?_⟩
    unfold p_power_O
    rw [if_pos (by omega)]
    rfl
def p_depth_S (L : T3) (R : T4) : Int := (p_spread_S R) * (L.1 * L.1 + L.2.1 * L.2.1) - (p_tam_S L R) * (p_tam_S L R)
set_option maxHeartbeats 4000000 in
theorem p_depth {w : aW} {d : Nat} (hd : 5 ≤ d) {k : Nat} {h : aH} {c : Nat} (ci : CI h c) {aL : Nat} {L : T3} (tL : TB h c aL L (k)) {aR : Nat} {R : T4} (tR : QB h c aR R (20))  (hk : k ≤ 168) : WP w d 63 [aO (some (c + 6)), aO (some aL), aO (some aR)] h (RO (fun r h1 => ∃ p, r = some p ∧ Gr h h1 c 12 ∧ WB h1 c p (p_depth_S L R) (2 * k + 45))) := by
  obtain ⟨d, rfl⟩ : ∃ d1, d = d1 + 1 := ⟨d - 1, by omega⟩
  refine WP.enter (cd := cd_X2_depth) rfl ?_
  have G0 := Gr.refl ci
  obtain ⟨Lx, Ly, Lw, fL, wLx, wLy, wLw⟩ := tL
  obtain ⟨Rk, Ra, Rb, Re, fR, wRk, wRa, wRb, wRe⟩ := tR
  have hls : largs 0 [aO (some (c + 6)), aO (some aL), aO (some aR)] = [(0, aO (some (c + 6))), (1, aO (some aL)), (2, aO (some aR))] := rfl
  rw [hls]
  clear hls
  refine g_aload_n rfl rfl ?_
  refine g_aload_n rfl rfl ?_
  refine g_aload_n rfl rfl ?_
  refine g_callVO [aO (some aL), aO (some aR)] [] rfl rfl rfl rfl (Nat.le_of_ble_eq_true rfl) (G0.cs.kd 6 (by omega) rfl) (p_tam (by omega) G0.ci (show TB h c aL L (k) from ⟨_, _, _, fL, (wLx.up (by omega)), (wLy.up (by omega)), (wLw.up (by omega))⟩) (show QB h c aR R (20) from ⟨_, _, _, _, fR, (wRk.up (by omega)), (wRa.up (by omega)), (wRb.up (by omega)), (wRe.up (by omega))⟩) (by omega)) ?_
  rintro _ h1 ⟨p1, rfl, g1, wp1⟩
  have G1 := G0.trans g1
  refine g_astore_n (l1 := [(3, aO (some p1)), (0, aO (some (c + 6))), (1, aO (some aL)), (2, aO (some aR))]) rfl rfl ?_
  refine g_aload_n rfl rfl ?_
  refine g_getR rfl (G1.cs.kd 6 (by omega) rfl) (G1.cs.rf 5 (by omega) rfl) ?_
  refine g_aload_n rfl rfl ?_
  refine g_aload_n rfl rfl ?_
  refine g_callVO [aO (some aR)] [aO (some (c + 1))] rfl rfl rfl rfl (Nat.le_of_ble_eq_true rfl) (G1.cs.kd 6 (by omega) rfl) (p_spread (by omega) G1.ci (show QB h1 c aR R (20) from ⟨_, _, _, _, (g1.rf fR), ((g1.wb wRk).up (by omega)), ((g1.wb wRa).up (by omega)), ((g1.wb wRb).up (by omega)), ((g1.wb wRe).up (by omega))⟩)) ?_
  rintro _ h2 ⟨p2, rfl, g2, wp2⟩
  have G2 := G1.trans g2
  refine g_aload_n rfl rfl ?_
  refine g_getR rfl (G2.cs.kd 6 (by omega) rfl) (G2.cs.rf 5 (by omega) rfl) ?_
  refine g_aload_n rfl rfl ?_
  refine g_getR rfl (g2.tf (g1.tf fL)).1.2.2 (g2.tf (g1.tf fL)).2.1 ?_
  refine g_aload_n rfl rfl ?_
  refine g_getR rfl (g2.tf (g1.tf fL)).1.2.2 (g2.tf (g1.tf fL)).2.1 ?_
  refine g_aload_n rfl rfl ?_
  refine g_getR rfl (g2.tf (g1.tf fL)).1.2.2 (g2.tf (g1.tf fL)).2.2.1 ?_
  refine g_aload_n rfl rfl ?_
  refine g_getR rfl (g2.tf (g1.tf fL)).1.2.2 (g2.tf (g1.tf fL)).2.2.1 ?_
  refine g_callVO [aO (some Lx), aO (some Lx), aO (some Ly), aO (some Ly)] [aO (some p2), aO (some (c + 1))] rfl rfl rfl rfl (Nat.le_of_ble_eq_true rfl) (G2.cs.kd 1 (by omega) rfl) (s_added (by omega) G2.ci (g2.wb (g1.wb wLx)) (g2.wb (g1.wb wLx)) (g2.wb (g1.wb wLy)) (g2.wb (g1.wb wLy)) (2 * k + 1) (by omega) (by omega) (by omega)) ?_
  rintro _ h3 ⟨p3, rfl, g3, wp3⟩
  have G3 := G2.trans g3
  refine g_aload_n rfl rfl ?_
  refine g_aload_n rfl rfl ?_
  refine g_callVO [aO (some p2), aO (some p3), aO (some p1), aO (some p1)] [] rfl rfl rfl rfl (Nat.le_of_ble_eq_true rfl) (G3.cs.kd 1 (by omega) rfl) (s_diff (by omega) G3.ci (g3.wb wp2) wp3 (g3.wb (g2.wb wp1)) (g3.wb (g2.wb wp1)) (2 * k + 45) (by omega) (by omega) (by omega)) ?_
  rintro _ h4 ⟨p4, rfl, g4, wp4⟩
  have G4 := G3.trans g4
  refine g_aret rfl ?_
  exact ⟨p4, rfl, G4.mono (by omega), (wp4.up (by omega))⟩
/-- both crossings of a line, by the root of the depth -/
def p_fx (L : T3) (R : T4) : Int := -(R.2.1 * (L.1 * L.1 + L.2.1 * L.2.1) + p_tam_S L R * L.1)
def p_fy (L : T3) (R : T4) : Int := -(R.2.2.1 * (L.1 * L.1 + L.2.1 * L.2.1) + p_tam_S L R * L.2.1)
def p_fw (L : T3) (R : T4) : Int := 2 * (R.1 * (L.1 * L.1 + L.2.1 * L.2.1))
def p_ahead (L : T3) (R : T4) (s : Int) : T3 := (p_fx L R + s * L.2.1, p_fy L R + -(s * L.1), p_fw L R)
def p_back (L : T3) (R : T4) (s : Int) : T3 := (p_fx L R - s * L.2.1, p_fy L R - -(s * L.1), p_fw L R)
def p_fwd (L : T3) (s : Int) : Prop := 0 < lcmp (s * L.2.1) 0 ∨ (lcmp (s * L.2.1) 0 = 0 ∧ 0 < lcmp (-(s * L.1)) 0)
noncomputable def p_cro_O (b : Bool) (L : T3) (R : T4) : Option T3 := if L.1 = 0 ∧ L.2.1 = 0 then none else match rootO (p_depth_S L R) with
  | none => none
  | some s => some (match Classical.propDecidable (p_fwd L s) with
    | isTrue _ => if b then p_ahead L R s else p_back L R s
    | isFalse _ => if b then p_back L R s else p_ahead L R s)
theorem p_cro_no {b : Bool} {L : T3} {R : T4} (h : L.1 = 0 ∧ L.2.1 = 0) : p_cro_O b L R = none := by unfold p_cro_O; rw [if_pos h]
theorem p_cro_no2 {b : Bool} {L : T3} {R : T4} (h : ¬(L.1 = 0 ∧ L.2.1 = 0)) (e : rootO (p_depth_S L R) = none) : p_cro_O b L R = none := by unfold p_cro_O; rw [if_neg h, e]
theorem p_cro_t {b : Bool} {L : T3} {R : T4} {s : Int} (h : ¬(L.1 = 0 ∧ L.2.1 = 0)) (e : rootO (p_depth_S L R) = some s) (q : p_fwd L s) : p_cro_O b L R = some (if b then p_ahead L R s else p_back L R s) := by
  unfold p_cro_O
  rw [if_neg h, e]
  simp only []
  cases Classical.propDecidable (p_fwd L s) with
  | isTrue _ => rfl
  | isFalse q2 => exact absurd q q2
theorem p_cro_f {b : Bool} {L : T3} {R : T4} {s : Int} (h : ¬(L.1 = 0 ∧ L.2.1 = 0)) (e : rootO (p_depth_S L R) = some s) (q : ¬ p_fwd L s) : p_cro_O b L R = some (if b then p_back L R s else p_ahead L R s) := by
  unfold p_cro_O
  rw [if_neg h, e]
  simp only []
  cases Classical.propDecidable (p_fwd L s) with
  | isTrue q2 => exact absurd q2 q
  | isFalse _ => rfl
set_option maxHeartbeats 4000000 in
theorem p_cro0 {w : aW} {d : Nat} (hd : 5 ≤ d) {k : Nat} {h : aH} {c : Nat} (ci : CI h c) {aL : Nat} {L : T3} (tL : TB h c aL L (k)) {aR : Nat} {R : T4} (tR : QB h c aR R (20)) (ht : hV h (c + 1) 1 ≤ 300) (hk : k ≤ 96) : WP w d 64 [aO (some (c + 6)), aO (some aL), aO (some aR), aI 0] h (RO (fun r h1 => Gr h h1 c 32 ∧ OT h1 c r (p_cro_O false L R) (2 * k + 190))) := by
  obtain ⟨d, rfl⟩ : ∃ d1, d = d1 + 1 := ⟨d - 1, by omega⟩
  refine WP.enter (cd := cd_X2_crossing) rfl ?_
  have G0 := Gr.refl ci
  obtain ⟨Lx, Ly, Lw, fL, wLx, wLy, wLw⟩ := tL
  obtain ⟨Rk, Ra, Rb, Re, fR, wRk, wRa, wRb, wRe⟩ := tR
  have hls : largs 0 [aO (some (c + 6)), aO (some aL), aO (some aR), aI 0] = [(0, aO (some (c + 6))), (1, aO (some aL)), (2, aO (some aR)), (3, aI 0)] := rfl
  rw [hls]
  clear hls
  refine g_aload_n rfl rfl ?_
  refine g_aload_n rfl rfl ?_
  refine g_aload_n rfl rfl ?_
  refine g_callVO [aO (some aL), aO (some aR)] [] rfl rfl rfl rfl (Nat.le_of_ble_eq_true rfl) (G0.cs.kd 6 (by omega) rfl) (p_tam (by omega) G0.ci (show TB h c aL L (k) from ⟨_, _, _, fL, (wLx.up (by omega)), (wLy.up (by omega)), (wLw.up (by omega))⟩) (show QB h c aR R (20) from ⟨_, _, _, _, fR, (wRk.up (by omega)), (wRa.up (by omega)), (wRb.up (by omega)), (wRe.up (by omega))⟩) (by omega)) ?_
  rintro _ h1 ⟨p1, rfl, g1, wp1⟩
  have G1 := G0.trans g1
  refine g_astore (l1 := [(4, aO (some p1)), (0, aO (some (c + 6))), (1, aO (some aL)), (2, aO (some aR)), (3, aI 0)]) rfl rfl ?_
  refine g_aload_n rfl rfl ?_
  refine g_getR rfl (G1.cs.kd 6 (by omega) rfl) (G1.cs.rf 5 (by omega) rfl) ?_
  refine g_aload_n rfl rfl ?_
  refine g_getR rfl (g1.tf fL).1.2.2 (g1.tf fL).2.1 ?_
  refine g_aload_n rfl rfl ?_
  refine g_getR rfl (g1.tf fL).1.2.2 (g1.tf fL).2.1 ?_
  refine g_aload_n rfl rfl ?_
  refine g_getR rfl (g1.tf fL).1.2.2 (g1.tf fL).2.2.1 ?_
  refine g_aload_n rfl rfl ?_
  refine g_getR rfl (g1.tf fL).1.2.2 (g1.tf fL).2.2.1 ?_
  refine g_callVO [aO (some Lx), aO (some Lx), aO (some Ly), aO (some Ly)] [] rfl rfl rfl rfl (Nat.le_of_ble_eq_true rfl) (G1.cs.kd 1 (by omega) rfl) (s_added (by omega) G1.ci (g1.wb wLx) (g1.wb wLx) (g1.wb wLy) (g1.wb wLy) (2 * k + 1) (by omega) (by omega) (by omega)) ?_
  rintro _ h2 ⟨p2, rfl, g2, wp2⟩
  have G2 := G1.trans g2
  refine g_astore (l1 := [(5, aO (some p2)), (4, aO (some p1)), (0, aO (some (c + 6))), (1, aO (some aL)), (2, aO (some aR)), (3, aI 0)]) rfl rfl ?_
  refine g_aload_n rfl rfl ?_
  refine g_getR rfl (G2.cs.kd 6 (by omega) rfl) (G2.cs.rf 5 (by omega) rfl) ?_
  refine g_aload_n rfl rfl ?_
  refine g_aload_n rfl rfl ?_
  refine g_callVO [aO (some aR)] [aO (some (c + 1))] rfl rfl rfl rfl (Nat.le_of_ble_eq_true rfl) (G2.cs.kd 6 (by omega) rfl) (p_spread (by omega) G2.ci (show QB h2 c aR R (20) from ⟨_, _, _, _, (g2.rf (g1.rf fR)), ((g2.wb (g1.wb wRk)).up (by omega)), ((g2.wb (g1.wb wRa)).up (by omega)), ((g2.wb (g1.wb wRb)).up (by omega)), ((g2.wb (g1.wb wRe)).up (by omega))⟩)) ?_
  rintro _ h3 ⟨p3, rfl, g3, wp3⟩
  have G3 := G2.trans g3
  refine g_aload rfl rfl ?_
  refine g_aload rfl rfl ?_
  refine g_aload rfl rfl ?_
  refine g_callVO [aO (some p3), aO (some p2), aO (some p1), aO (some p1)] [] rfl rfl rfl rfl (Nat.le_of_ble_eq_true rfl) (G3.cs.kd 1 (by omega) rfl) (s_diff (by omega) G3.ci wp3 (g3.wb wp2) (g3.wb (g2.wb wp1)) (g3.wb (g2.wb wp1)) (2 * k + 45) (by omega) (by omega) (by omega)) ?_
  rintro _ h4 ⟨p4, rfl, g4, wp4⟩
  have G4 := G3.trans g4
  refine g_astore (l1 := [(6, aO (some p4)), (5, aO (some p2)), (4, aO (some p1)), (0, aO (some (c + 6))), (1, aO (some aL)), (2, aO (some aR)), (3, aI 0)]) rfl rfl ?_
  refine g_aload_n rfl rfl ?_
  refine g_aload_n rfl rfl ?_
  refine g_callVI [aO (some aL)] [] rfl rfl rfl rfl (Nat.le_of_ble_eq_true rfl) (G4.cs.kd 6 (by omega) rfl) (p_hasAllFar (by omega) G4.ci (show TB h4 c aL L (k) from ⟨_, _, _, (g4.tf (g3.tf (g2.tf (g1.tf fL)))), ((g4.wb (g3.wb (g2.wb (g1.wb wLx)))).up (by omega)), ((g4.wb (g3.wb (g2.wb (g1.wb wLy)))).up (by omega)), ((g4.wb (g3.wb (g2.wb (g1.wb wLw)))).up (by omega))⟩)) ?_
  rintro _ hx5 ⟨ehx5, rfl⟩
  rw [ehx5]
  clear ehx5 hx5
  refine g_b_eq rfl (fun c58 => ?_) (fun c58 => ?_)
  · skip
    refine g_aload_n rfl rfl ?_
    refine g_getR rfl (G4.cs.kd 6 (by omega) rfl) (G4.cs.rf 5 (by omega) rfl) ?_
    refine g_aload rfl rfl ?_
    refine g_callVO [aO (some p4)] [] rfl rfl rfl rfl (Nat.le_of_ble_eq_true rfl) (G4.cs.kd 1 (by omega) rfl) (s_rootO (by omega) G4.ci wp4 (by omega) (by have := G4.2.2.2.2.2.2.1; omega)) ?_
    rintro r6 h6 ⟨g6, q6⟩
    have G6 := G4.trans g6
    cases eS6 : rootO ((p_spread_S R) * (L.1 * L.1 + L.2.1 * L.2.1) - (p_tam_S L R) * (p_tam_S L R)) with
    | none =>
      rw [eS6] at q6
      obtain rfl : r6 = none := q6
      refine g_astore (l1 := [(7, aO none), (6, aO (some p4)), (5, aO (some p2)), (4, aO (some p1)), (0, aO (some (c + 6))), (1, aO (some aL)), (2, aO (some aR)), (3, aI 0)]) rfl rfl ?_
      refine g_aload rfl rfl ?_
      refine g_ifnonnull_f rfl ?_
      refine g_null rfl ?_
      refine g_aret rfl ?_
      refine ⟨G6.mono (by omega), ?_⟩
      first
        | (rw [p_cro_no (by omega)]; rfl)
        | (rw [p_cro_no2 (by omega) eS6]; rfl)
    | some P6 =>
      rw [eS6] at q6
      obtain ⟨p6, rfl, wp6⟩ := q6
      refine g_astore (l1 := [(7, aO (some p6)), (6, aO (some p4)), (5, aO (some p2)), (4, aO (some p1)), (0, aO (some (c + 6))), (1, aO (some aL)), (2, aO (some aR)), (3, aI 0)]) rfl rfl ?_
      refine g_aload rfl rfl ?_
      refine g_ifnonnull_t rfl ?_
      refine g_aload_n rfl rfl ?_
      refine g_getR rfl (G6.cs.kd 6 (by omega) rfl) (G6.cs.rf 5 (by omega) rfl) ?_
      refine g_aload_n rfl rfl ?_
      refine g_getR rfl (G6.cs.kd 6 (by omega) rfl) (G6.cs.rf 5 (by omega) rfl) ?_
      refine g_aload_n rfl rfl ?_
      refine g_getR rfl (g6.rf (g4.rf (g3.rf (g2.rf (g1.rf fR))))).1.2.2 (g6.rf (g4.rf (g3.rf (g2.rf (g1.rf fR))))).2.2.1 ?_
      refine g_aload rfl rfl ?_
      refine g_aload rfl rfl ?_
      refine g_aload_n rfl rfl ?_
      refine g_getR rfl (g6.tf (g4.tf (g3.tf (g2.tf (g1.tf fL))))).1.2.2 (g6.tf (g4.tf (g3.tf (g2.tf (g1.tf fL))))).2.1 ?_
      refine g_callVO [aO (some Ra), aO (some p2), aO (some p1), aO (some Lx)] [aO (some (c + 1))] rfl rfl rfl rfl (Nat.le_of_ble_eq_true rfl) (G6.cs.kd 1 (by omega) rfl) (s_added (by omega) G6.ci (g6.wb (g4.wb (g3.wb (g2.wb (g1.wb wRa))))) (g6.wb (g4.wb (g3.wb wp2))) (g6.wb (g4.wb (g3.wb (g2.wb wp1)))) (g6.wb (g4.wb (g3.wb (g2.wb (g1.wb wLx))))) (2 * k + 23) (by omega) (by omega) (by omega)) ?_
      rintro _ h7 ⟨p7, rfl, g7, wp7⟩
      have G7 := G6.trans g7
      refine g_callVO [aO (some p7)] [] rfl rfl rfl rfl (Nat.le_of_ble_eq_true rfl) (G7.cs.kd 1 (by omega) rfl) (s_neg (by omega) G7.ci wp7 (by omega)) ?_
      rintro _ h8 ⟨p8, rfl, g8, wp8⟩
      have G8 := G7.trans g8
      refine g_astore (l1 := [(8, aO (some p8)), (7, aO (some p6)), (6, aO (some p4)), (5, aO (some p2)), (4, aO (some p1)), (0, aO (some (c + 6))), (1, aO (some aL)), (2, aO (some aR)), (3, aI 0)]) rfl rfl ?_
      refine g_aload_n rfl rfl ?_
      refine g_getR rfl (G8.cs.kd 6 (by omega) rfl) (G8.cs.rf 5 (by omega) rfl) ?_
      refine g_aload_n rfl rfl ?_
      refine g_getR rfl (G8.cs.kd 6 (by omega) rfl) (G8.cs.rf 5 (by omega) rfl) ?_
      refine g_aload_n rfl rfl ?_
      refine g_getR rfl (g8.rf (g7.rf (g6.rf (g4.rf (g3.rf (g2.rf (g1.rf fR))))))).1.2.2 (g8.rf (g7.rf (g6.rf (g4.rf (g3.rf (g2.rf (g1.rf fR))))))).2.2.2.1 ?_
      refine g_aload rfl rfl ?_
      refine g_aload rfl rfl ?_
      refine g_aload_n rfl rfl ?_
      refine g_getR rfl (g8.tf (g7.tf (g6.tf (g4.tf (g3.tf (g2.tf (g1.tf fL))))))).1.2.2 (g8.tf (g7.tf (g6.tf (g4.tf (g3.tf (g2.tf (g1.tf fL))))))).2.2.1 ?_
      refine g_callVO [aO (some Rb), aO (some p2), aO (some p1), aO (some Ly)] [aO (some (c + 1))] rfl rfl rfl rfl (Nat.le_of_ble_eq_true rfl) (G8.cs.kd 1 (by omega) rfl) (s_added (by omega) G8.ci (g8.wb (g7.wb (g6.wb (g4.wb (g3.wb (g2.wb (g1.wb wRb))))))) (g8.wb (g7.wb (g6.wb (g4.wb (g3.wb wp2))))) (g8.wb (g7.wb (g6.wb (g4.wb (g3.wb (g2.wb wp1)))))) (g8.wb (g7.wb (g6.wb (g4.wb (g3.wb (g2.wb (g1.wb wLy))))))) (2 * k + 23) (by omega) (by omega) (by omega)) ?_
      rintro _ h9 ⟨p9, rfl, g9, wp9⟩
      have G9 := G8.trans g9
      refine g_callVO [aO (some p9)] [] rfl rfl rfl rfl (Nat.le_of_ble_eq_true rfl) (G9.cs.kd 1 (by omega) rfl) (s_neg (by omega) G9.ci wp9 (by omega)) ?_
      rintro _ h10 ⟨p10, rfl, g10, wp10⟩
      have G10 := G9.trans g10
      refine g_astore (l1 := [(9, aO (some p10)), (8, aO (some p8)), (7, aO (some p6)), (6, aO (some p4)), (5, aO (some p2)), (4, aO (some p1)), (0, aO (some (c + 6))), (1, aO (some aL)), (2, aO (some aR)), (3, aI 0)]) rfl rfl ?_
      refine g_aload_n rfl rfl ?_
      refine g_getR rfl (G10.cs.kd 6 (by omega) rfl) (G10.cs.rf 5 (by omega) rfl) ?_
      refine g_aload rfl rfl ?_
      refine g_aload_n rfl rfl ?_
      refine g_getR rfl (g10.tf (g9.tf (g8.tf (g7.tf (g6.tf (g4.tf (g3.tf (g2.tf (g1.tf fL))))))))).1.2.2 (g10.tf (g9.tf (g8.tf (g7.tf (g6.tf (g4.tf (g3.tf (g2.tf (g1.tf fL))))))))).2.2.1 ?_
      refine g_callVO [aO (some p6), aO (some Ly)] [] rfl rfl rfl rfl (Nat.le_of_ble_eq_true rfl) (G10.cs.kd 1 (by omega) rfl) (s_times (by omega) G10.ci (g10.wb (g9.wb (g8.wb (g7.wb wp6)))) (g10.wb (g9.wb (g8.wb (g7.wb (g6.wb (g4.wb (g3.wb (g2.wb (g1.wb wLy))))))))) (by omega)) ?_
      rintro _ h11 ⟨p11, rfl, g11, wp11⟩
      have G11 := G10.trans g11
      refine g_astore (l1 := [(10, aO (some p11)), (9, aO (some p10)), (8, aO (some p8)), (7, aO (some p6)), (6, aO (some p4)), (5, aO (some p2)), (4, aO (some p1)), (0, aO (some (c + 6))), (1, aO (some aL)), (2, aO (some aR)), (3, aI 0)]) rfl rfl ?_
      refine g_aload_n rfl rfl ?_
      refine g_getR rfl (G11.cs.kd 6 (by omega) rfl) (G11.cs.rf 5 (by omega) rfl) ?_
      refine g_aload_n rfl rfl ?_
      refine g_getR rfl (G11.cs.kd 6 (by omega) rfl) (G11.cs.rf 5 (by omega) rfl) ?_
      refine g_aload rfl rfl ?_
      refine g_aload_n rfl rfl ?_
      refine g_getR rfl (g11.tf (g10.tf (g9.tf (g8.tf (g7.tf (g6.tf (g4.tf (g3.tf (g2.tf (g1.tf fL)))))))))).1.2.2 (g11.tf (g10.tf (g9.tf (g8.tf (g7.tf (g6.tf (g4.tf (g3.tf (g2.tf (g1.tf fL)))))))))).2.1 ?_
      refine g_callVO [aO (some p6), aO (some Lx)] [aO (some (c + 1))] rfl rfl rfl rfl (Nat.le_of_ble_eq_true rfl) (G11.cs.kd 1 (by omega) rfl) (s_times (by omega) G11.ci (g11.wb (g10.wb (g9.wb (g8.wb (g7.wb wp6))))) (g11.wb (g10.wb (g9.wb (g8.wb (g7.wb (g6.wb (g4.wb (g3.wb (g2.wb (g1.wb wLx)))))))))) (by omega)) ?_
      rintro _ h12 ⟨p12, rfl, g12, wp12⟩
      have G12 := G11.trans g12
      refine g_callVO [aO (some p12)] [] rfl rfl rfl rfl (Nat.le_of_ble_eq_true rfl) (G12.cs.kd 1 (by omega) rfl) (s_neg (by omega) G12.ci wp12 (by omega)) ?_
      rintro _ h13 ⟨p13, rfl, g13, wp13⟩
      have G13 := G12.trans g13
      refine g_astore (l1 := [(11, aO (some p13)), (10, aO (some p11)), (9, aO (some p10)), (8, aO (some p8)), (7, aO (some p6)), (6, aO (some p4)), (5, aO (some p2)), (4, aO (some p1)), (0, aO (some (c + 6))), (1, aO (some aL)), (2, aO (some aR)), (3, aI 0)]) rfl rfl ?_
      refine g_aload_n rfl rfl ?_
      refine g_getR rfl (G13.cs.kd 6 (by omega) rfl) (G13.cs.rf 5 (by omega) rfl) ?_
      refine g_aload rfl rfl ?_
      refine g_callVI [aO (some p11)] [] rfl rfl rfl rfl (Nat.le_of_ble_eq_true rfl) (G13.cs.kd 1 (by omega) rfl) (s_sign (by omega) G13.ci (g13.wb (g12.wb wp11))) ?_
      rintro _ hx14 ⟨ehx14, rfl⟩
      rw [ehx14]
      clear ehx14 hx14
      refine g_if_eq rfl (fun c185 => ?_) (fun c185 => ?_)
      · skip
        refine g_aload_n rfl rfl ?_
        refine g_getR rfl (G13.cs.kd 6 (by omega) rfl) (G13.cs.rf 5 (by omega) rfl) ?_
        refine g_aload rfl rfl ?_
        refine g_callVI [aO (some p13)] [] rfl rfl rfl rfl (Nat.le_of_ble_eq_true rfl) (G13.cs.kd 1 (by omega) rfl) (s_sign (by omega) G13.ci wp13) ?_
        rintro _ hx15 ⟨ehx15, rfl⟩
        rw [ehx15]
        clear ehx15 hx15
        refine g_istore (l1 := [(12, aI (lcmp (-(P6 * L.1)) 0)), (11, aO (some p13)), (10, aO (some p11)), (9, aO (some p10)), (8, aO (some p8)), (7, aO (some p6)), (6, aO (some p4)), (5, aO (some p2)), (4, aO (some p1)), (0, aO (some (c + 6))), (1, aO (some aL)), (2, aO (some aR)), (3, aI 0)]) rfl rfl ?_
        refine g_iload_n rfl rfl ?_
        refine g_iload rfl rfl ?_
        refine g_if_le rfl (fun c214 => ?_) (fun c214 => ?_)
        · skip
          refine g_iconst rfl ?_
          refine g_icmp_ne_f rfl (by omega) ?_
          refine g_iconst rfl ?_
          refine g_goto rfl ?_
          refine g_istore (l1 := [(13, aI 1), (12, aI (lcmp (-(P6 * L.1)) 0)), (11, aO (some p13)), (10, aO (some p11)), (9, aO (some p10)), (8, aO (some p8)), (7, aO (some p6)), (6, aO (some p4)), (5, aO (some p2)), (4, aO (some p1)), (0, aO (some (c + 6))), (1, aO (some aL)), (2, aO (some aR)), (3, aI 0)]) rfl rfl ?_
          refine g_aload_n rfl rfl ?_
          refine g_getR rfl (G13.cs.kd 6 (by omega) rfl) (G13.cs.rf 5 (by omega) rfl) ?_
          refine g_aload_n rfl rfl ?_
          refine g_getR rfl (G13.cs.kd 6 (by omega) rfl) (G13.cs.rf 5 (by omega) rfl) ?_
          refine g_aload_n rfl rfl ?_
          refine g_getR rfl (g13.rf (g12.rf (g11.rf (g10.rf (g9.rf (g8.rf (g7.rf (g6.rf (g4.rf (g3.rf (g2.rf (g1.rf fR)))))))))))).1.2.2 (g13.rf (g12.rf (g11.rf (g10.rf (g9.rf (g8.rf (g7.rf (g6.rf (g4.rf (g3.rf (g2.rf (g1.rf fR)))))))))))).2.1 ?_
          refine g_aload rfl rfl ?_
          refine g_callVO [aO (some Rk), aO (some p2)] [aO (some (c + 1))] rfl rfl rfl rfl (Nat.le_of_ble_eq_true rfl) (G13.cs.kd 1 (by omega) rfl) (s_times (by omega) G13.ci (g13.wb (g12.wb (g11.wb (g10.wb (g9.wb (g8.wb (g7.wb (g6.wb (g4.wb (g3.wb (g2.wb (g1.wb wRk)))))))))))) (g13.wb (g12.wb (g11.wb (g10.wb (g9.wb (g8.wb (g7.wb (g6.wb (g4.wb (g3.wb wp2)))))))))) (by omega)) ?_
          rintro _ h16 ⟨p16, rfl, g16, wp16⟩
          have G16 := G13.trans g16
          refine g_callVO [aO (some p16)] [] rfl rfl rfl rfl (Nat.le_of_ble_eq_true rfl) (G16.cs.kd 1 (by omega) rfl) (s_twice (by omega) G16.ci wp16 (by omega)) ?_
          rintro _ h17 ⟨p17, rfl, g17, wp17⟩
          have G17 := G16.trans g17
          refine g_astore (l1 := [(14, aO (some p17)), (13, aI 1), (12, aI (lcmp (-(P6 * L.1)) 0)), (11, aO (some p13)), (10, aO (some p11)), (9, aO (some p10)), (8, aO (some p8)), (7, aO (some p6)), (6, aO (some p4)), (5, aO (some p2)), (4, aO (some p1)), (0, aO (some (c + 6))), (1, aO (some aL)), (2, aO (some aR)), (3, aI 0)]) rfl rfl ?_
          refine g_new rfl ?_
          obtain ⟨g18, ob18⟩ := Gr.mk (k := 19) (m := 3) G17.ci (by decide) (by decide)
          obtain ⟨t18, et18⟩ : ∃ t, t = hz h17 := ⟨_, rfl⟩
          obtain ⟨h18, eh18⟩ : ∃ hq9, hq9 = hnew h17 19 3 := ⟨_, rfl⟩
          rw [← eh18, ← et18] at ob18
          rw [← eh18] at g18
          refine g_hp (h2 := h18) eh18.symm ?_
          refine g_top (v2 := aO (some t18)) (by rw [et18]) ?_
          have G18 := G17.trans g18
          refine g_dup rfl rfl ?_
          refine g_iload rfl rfl ?_
          refine g_if_eq_f rfl (by omega) ?_
          refine g_aload_n rfl rfl ?_
          refine g_getR rfl (G18.cs.kd 6 (by omega) rfl) (G18.cs.rf 5 (by omega) rfl) ?_
          refine g_aload rfl rfl ?_
          refine g_aload rfl rfl ?_
          refine g_callVO [aO (some p8), aO (some p11)] [aO (some t18), aO (some t18)] rfl rfl rfl rfl (Nat.le_of_ble_eq_true rfl) (G18.cs.kd 1 (by omega) rfl) (s_plus (by omega) G18.ci (g18.wb (g17.wb (g16.wb (g13.wb (g12.wb (g11.wb (g10.wb (g9.wb wp8)))))))) (g18.wb (g17.wb (g16.wb (g13.wb (g12.wb wp11))))) (2 * k + 190) (by omega) (by omega) (by omega)) ?_
          rintro _ h19 ⟨p19, rfl, g19, wp19⟩
          have G19 := G18.trans g19
          refine g_goto rfl ?_
          refine g_iload rfl rfl ?_
          refine g_if_eq_f rfl (by omega) ?_
          refine g_aload_n rfl rfl ?_
          refine g_getR rfl (G19.cs.kd 6 (by omega) rfl) (G19.cs.rf 5 (by omega) rfl) ?_
          refine g_aload rfl rfl ?_
          refine g_aload rfl rfl ?_
          refine g_callVO [aO (some p10), aO (some p13)] [aO (some p19), aO (some t18), aO (some t18)] rfl rfl rfl rfl (Nat.le_of_ble_eq_true rfl) (G19.cs.kd 1 (by omega) rfl) (s_plus (by omega) G19.ci (g19.wb (g18.wb (g17.wb (g16.wb (g13.wb (g12.wb (g11.wb wp10))))))) (g19.wb (g18.wb (g17.wb (g16.wb wp13)))) (2 * k + 190) (by omega) (by omega) (by omega)) ?_
          rintro _ h20 ⟨p20, rfl, g20, wp20⟩
          have G20 := G19.trans g20
          refine g_goto rfl ?_
          refine g_aload rfl rfl ?_
          refine g_callIN [aO (some p19), aO (some p20), aO (some p17)] [aO (some t18)] rfl (by decide) rfl rfl rfl (Nat.le_of_ble_eq_true rfl) (g20.ob (g19.ob ob18)).2.2 (k_Triple (by omega) (g20.ob (g19.ob ob18)).2.2 (g20.ob (g19.ob ob18)).1 p19 p20 p17) ?_
          rintro _ rfl
          have c21 := ct3 (P := ((-(R.2.1 * (L.1 * L.1 + L.2.1 * L.2.1) + (p_tam_S L R) * L.1)) + (P6 * L.2.1), (-(R.2.2.1 * (L.1 * L.1 + L.2.1 * L.2.1) + (p_tam_S L R) * L.2.1)) + (-(P6 * L.1)), 2 * (R.1 * (L.1 * L.1 + L.2.1 * L.2.1)))) (k := 2 * k + 190) G20 (g20.ob (g19.ob ob18)) (by have := G17.2.1.1; omega) ((g20.wb wp19).up (by omega)) (wp20.up (by omega)) ((g20.wb (g19.wb (g18.wb wp17))).up (by omega))
          have faL_21 := c21.2.2.2.1 _ _ _ _ (by have := (g17.tf (g16.tf (g13.tf (g12.tf (g11.tf (g10.tf (g9.tf (g8.tf (g7.tf (g6.tf (g4.tf (g3.tf (g2.tf (g1.tf fL)))))))))))))).1.1; omega) (g20.tf (g19.tf (g18.tf (g17.tf (g16.tf (g13.tf (g12.tf (g11.tf (g10.tf (g9.tf (g8.tf (g7.tf (g6.tf (g4.tf (g3.tf (g2.tf (g1.tf fL)))))))))))))))))
          obtain ⟨h21, eh21⟩ : ∃ hq9, hq9 = pt3 h20 t18 p19 p20 p17 := ⟨_, rfl⟩
          refine g_hp (h2 := h21) (by rw [eh21]; rfl) ?_
          rw [← eh21] at c21 faL_21
          have G21 := c21.1
          obtain ⟨q21x, q21y, q21w, f21, wq21x, wq21y, wq21w⟩ := c21.2.1
          refine g_aret rfl ?_
          refine ⟨G21.mono (by omega), ?_⟩
          first
            | rw [p_cro_t (by omega) eS6 (by unfold p_fwd; omega)]
            | rw [p_cro_f (by omega) eS6 (by unfold p_fwd; omega)]
          exact ⟨t18, rfl, _, _, _, f21, (wq21x.up (by omega)), (wq21y.up (by omega)), (wq21w.up (by omega))⟩
        · skip
          refine g_iconst rfl ?_
          refine g_goto rfl ?_
          refine g_icmp_ne_t rfl (by omega) ?_
          refine g_iconst rfl ?_
          refine g_istore (l1 := [(13, aI 0), (12, aI (lcmp (-(P6 * L.1)) 0)), (11, aO (some p13)), (10, aO (some p11)), (9, aO (some p10)), (8, aO (some p8)), (7, aO (some p6)), (6, aO (some p4)), (5, aO (some p2)), (4, aO (some p1)), (0, aO (some (c + 6))), (1, aO (some aL)), (2, aO (some aR)), (3, aI 0)]) rfl rfl ?_
          refine g_aload_n rfl rfl ?_
          refine g_getR rfl (G13.cs.kd 6 (by omega) rfl) (G13.cs.rf 5 (by omega) rfl) ?_
          refine g_aload_n rfl rfl ?_
          refine g_getR rfl (G13.cs.kd 6 (by omega) rfl) (G13.cs.rf 5 (by omega) rfl) ?_
          refine g_aload_n rfl rfl ?_
          refine g_getR rfl (g13.rf (g12.rf (g11.rf (g10.rf (g9.rf (g8.rf (g7.rf (g6.rf (g4.rf (g3.rf (g2.rf (g1.rf fR)))))))))))).1.2.2 (g13.rf (g12.rf (g11.rf (g10.rf (g9.rf (g8.rf (g7.rf (g6.rf (g4.rf (g3.rf (g2.rf (g1.rf fR)))))))))))).2.1 ?_
          refine g_aload rfl rfl ?_
          refine g_callVO [aO (some Rk), aO (some p2)] [aO (some (c + 1))] rfl rfl rfl rfl (Nat.le_of_ble_eq_true rfl) (G13.cs.kd 1 (by omega) rfl) (s_times (by omega) G13.ci (g13.wb (g12.wb (g11.wb (g10.wb (g9.wb (g8.wb (g7.wb (g6.wb (g4.wb (g3.wb (g2.wb (g1.wb wRk)))))))))))) (g13.wb (g12.wb (g11.wb (g10.wb (g9.wb (g8.wb (g7.wb (g6.wb (g4.wb (g3.wb wp2)))))))))) (by omega)) ?_
          rintro _ h22 ⟨p22, rfl, g22, wp22⟩
          have G22 := G13.trans g22
          refine g_callVO [aO (some p22)] [] rfl rfl rfl rfl (Nat.le_of_ble_eq_true rfl) (G22.cs.kd 1 (by omega) rfl) (s_twice (by omega) G22.ci wp22 (by omega)) ?_
          rintro _ h23 ⟨p23, rfl, g23, wp23⟩
          have G23 := G22.trans g23
          refine g_astore (l1 := [(14, aO (some p23)), (13, aI 0), (12, aI (lcmp (-(P6 * L.1)) 0)), (11, aO (some p13)), (10, aO (some p11)), (9, aO (some p10)), (8, aO (some p8)), (7, aO (some p6)), (6, aO (some p4)), (5, aO (some p2)), (4, aO (some p1)), (0, aO (some (c + 6))), (1, aO (some aL)), (2, aO (some aR)), (3, aI 0)]) rfl rfl ?_
          refine g_new rfl ?_
          obtain ⟨g24, ob24⟩ := Gr.mk (k := 19) (m := 3) G23.ci (by decide) (by decide)
          obtain ⟨t24, et24⟩ : ∃ t, t = hz h23 := ⟨_, rfl⟩
          obtain ⟨h24, eh24⟩ : ∃ hq9, hq9 = hnew h23 19 3 := ⟨_, rfl⟩
          rw [← eh24, ← et24] at ob24
          rw [← eh24] at g24
          refine g_hp (h2 := h24) eh24.symm ?_
          refine g_top (v2 := aO (some t24)) (by rw [et24]) ?_
          have G24 := G23.trans g24
          refine g_dup rfl rfl ?_
          refine g_iload rfl rfl ?_
          refine g_if_eq_t rfl (by omega) ?_
          refine g_aload_n rfl rfl ?_
          refine g_getR rfl (G24.cs.kd 6 (by omega) rfl) (G24.cs.rf 5 (by omega) rfl) ?_
          refine g_aload rfl rfl ?_
          refine g_aload rfl rfl ?_
          refine g_callVO [aO (some p8), aO (some p11)] [aO (some t24), aO (some t24)] rfl rfl rfl rfl (Nat.le_of_ble_eq_true rfl) (G24.cs.kd 1 (by omega) rfl) (s_minus (by omega) G24.ci (g24.wb (g23.wb (g22.wb (g13.wb (g12.wb (g11.wb (g10.wb (g9.wb wp8)))))))) (g24.wb (g23.wb (g22.wb (g13.wb (g12.wb wp11))))) (2 * k + 190) (by omega) (by omega) (by omega)) ?_
          rintro _ h25 ⟨p25, rfl, g25, wp25⟩
          have G25 := G24.trans g25
          refine g_iload rfl rfl ?_
          refine g_if_eq_t rfl (by omega) ?_
          refine g_aload_n rfl rfl ?_
          refine g_getR rfl (G25.cs.kd 6 (by omega) rfl) (G25.cs.rf 5 (by omega) rfl) ?_
          refine g_aload rfl rfl ?_
          refine g_aload rfl rfl ?_
          refine g_callVO [aO (some p10), aO (some p13)] [aO (some p25), aO (some t24), aO (some t24)] rfl rfl rfl rfl (Nat.le_of_ble_eq_true rfl) (G25.cs.kd 1 (by omega) rfl) (s_minus (by omega) G25.ci (g25.wb (g24.wb (g23.wb (g22.wb (g13.wb (g12.wb (g11.wb wp10))))))) (g25.wb (g24.wb (g23.wb (g22.wb wp13)))) (2 * k + 190) (by omega) (by omega) (by omega)) ?_
          rintro _ h26 ⟨p26, rfl, g26, wp26⟩
          have G26 := G25.trans g26
          refine g_aload rfl rfl ?_
          refine g_callIN [aO (some p25), aO (some p26), aO (some p23)] [aO (some t24)] rfl (by decide) rfl rfl rfl (Nat.le_of_ble_eq_true rfl) (g26.ob (g25.ob ob24)).2.2 (k_Triple (by omega) (g26.ob (g25.ob ob24)).2.2 (g26.ob (g25.ob ob24)).1 p25 p26 p23) ?_
          rintro _ rfl
          have c27 := ct3 (P := ((-(R.2.1 * (L.1 * L.1 + L.2.1 * L.2.1) + (p_tam_S L R) * L.1)) - (P6 * L.2.1), (-(R.2.2.1 * (L.1 * L.1 + L.2.1 * L.2.1) + (p_tam_S L R) * L.2.1)) - (-(P6 * L.1)), 2 * (R.1 * (L.1 * L.1 + L.2.1 * L.2.1)))) (k := 2 * k + 190) G26 (g26.ob (g25.ob ob24)) (by have := G23.2.1.1; omega) ((g26.wb wp25).up (by omega)) (wp26.up (by omega)) ((g26.wb (g25.wb (g24.wb wp23))).up (by omega))
          have faL_27 := c27.2.2.2.1 _ _ _ _ (by have := (g23.tf (g22.tf (g13.tf (g12.tf (g11.tf (g10.tf (g9.tf (g8.tf (g7.tf (g6.tf (g4.tf (g3.tf (g2.tf (g1.tf fL)))))))))))))).1.1; omega) (g26.tf (g25.tf (g24.tf (g23.tf (g22.tf (g13.tf (g12.tf (g11.tf (g10.tf (g9.tf (g8.tf (g7.tf (g6.tf (g4.tf (g3.tf (g2.tf (g1.tf fL)))))))))))))))))
          obtain ⟨h27, eh27⟩ : ∃ hq9, hq9 = pt3 h26 t24 p25 p26 p23 := ⟨_, rfl⟩
          refine g_hp (h2 := h27) (by rw [eh27]; rfl) ?_
          rw [← eh27] at c27 faL_27
          have G27 := c27.1
          obtain ⟨q27x, q27y, q27w, f27, wq27x, wq27y, wq27w⟩ := c27.2.1
          refine g_aret rfl ?_
          refine ⟨G27.mono (by omega), ?_⟩
          first
            | rw [p_cro_t (by omega) eS6 (by unfold p_fwd; omega)]
            | rw [p_cro_f (by omega) eS6 (by unfold p_fwd; omega)]
          exact ⟨t24, rfl, _, _, _, f27, (wq27x.up (by omega)), (wq27y.up (by omega)), (wq27w.up (by omega))⟩
      · skip
        refine g_aload_n rfl rfl ?_
        refine g_getR rfl (G13.cs.kd 6 (by omega) rfl) (G13.cs.rf 5 (by omega) rfl) ?_
        refine g_aload rfl rfl ?_
        refine g_callVI [aO (some p11)] [] rfl rfl rfl rfl (Nat.le_of_ble_eq_true rfl) (G13.cs.kd 1 (by omega) rfl) (s_sign (by omega) G13.ci (g13.wb (g12.wb wp11))) ?_
        rintro _ hx28 ⟨ehx28, rfl⟩
        rw [ehx28]
        clear ehx28 hx28
        refine g_goto rfl ?_
        refine g_istore (l1 := [(12, aI (lcmp (P6 * L.2.1) 0)), (11, aO (some p13)), (10, aO (some p11)), (9, aO (some p10)), (8, aO (some p8)), (7, aO (some p6)), (6, aO (some p4)), (5, aO (some p2)), (4, aO (some p1)), (0, aO (some (c + 6))), (1, aO (some aL)), (2, aO (some aR)), (3, aI 0)]) rfl rfl ?_
        refine g_iload_n rfl rfl ?_
        refine g_iload rfl rfl ?_
        refine g_if_le rfl (fun c214 => ?_) (fun c214 => ?_)
        · skip
          refine g_iconst rfl ?_
          refine g_icmp_ne_f rfl (by omega) ?_
          refine g_iconst rfl ?_
          refine g_goto rfl ?_
          refine g_istore (l1 := [(13, aI 1), (12, aI (lcmp (P6 * L.2.1) 0)), (11, aO (some p13)), (10, aO (some p11)), (9, aO (some p10)), (8, aO (some p8)), (7, aO (some p6)), (6, aO (some p4)), (5, aO (some p2)), (4, aO (some p1)), (0, aO (some (c + 6))), (1, aO (some aL)), (2, aO (some aR)), (3, aI 0)]) rfl rfl ?_
          refine g_aload_n rfl rfl ?_
          refine g_getR rfl (G13.cs.kd 6 (by omega) rfl) (G13.cs.rf 5 (by omega) rfl) ?_
          refine g_aload_n rfl rfl ?_
          refine g_getR rfl (G13.cs.kd 6 (by omega) rfl) (G13.cs.rf 5 (by omega) rfl) ?_
          refine g_aload_n rfl rfl ?_
          refine g_getR rfl (g13.rf (g12.rf (g11.rf (g10.rf (g9.rf (g8.rf (g7.rf (g6.rf (g4.rf (g3.rf (g2.rf (g1.rf fR)))))))))))).1.2.2 (g13.rf (g12.rf (g11.rf (g10.rf (g9.rf (g8.rf (g7.rf (g6.rf (g4.rf (g3.rf (g2.rf (g1.rf fR)))))))))))).2.1 ?_
          refine g_aload rfl rfl ?_
          refine g_callVO [aO (some Rk), aO (some p2)] [aO (some (c + 1))] rfl rfl rfl rfl (Nat.le_of_ble_eq_true rfl) (G13.cs.kd 1 (by omega) rfl) (s_times (by omega) G13.ci (g13.wb (g12.wb (g11.wb (g10.wb (g9.wb (g8.wb (g7.wb (g6.wb (g4.wb (g3.wb (g2.wb (g1.wb wRk)))))))))))) (g13.wb (g12.wb (g11.wb (g10.wb (g9.wb (g8.wb (g7.wb (g6.wb (g4.wb (g3.wb wp2)))))))))) (by omega)) ?_
          rintro _ h29 ⟨p29, rfl, g29, wp29⟩
          have G29 := G13.trans g29
          refine g_callVO [aO (some p29)] [] rfl rfl rfl rfl (Nat.le_of_ble_eq_true rfl) (G29.cs.kd 1 (by omega) rfl) (s_twice (by omega) G29.ci wp29 (by omega)) ?_
          rintro _ h30 ⟨p30, rfl, g30, wp30⟩
          have G30 := G29.trans g30
          refine g_astore (l1 := [(14, aO (some p30)), (13, aI 1), (12, aI (lcmp (P6 * L.2.1) 0)), (11, aO (some p13)), (10, aO (some p11)), (9, aO (some p10)), (8, aO (some p8)), (7, aO (some p6)), (6, aO (some p4)), (5, aO (some p2)), (4, aO (some p1)), (0, aO (some (c + 6))), (1, aO (some aL)), (2, aO (some aR)), (3, aI 0)]) rfl rfl ?_
          refine g_new rfl ?_
          obtain ⟨g31, ob31⟩ := Gr.mk (k := 19) (m := 3) G30.ci (by decide) (by decide)
          obtain ⟨t31, et31⟩ : ∃ t, t = hz h30 := ⟨_, rfl⟩
          obtain ⟨h31, eh31⟩ : ∃ hq9, hq9 = hnew h30 19 3 := ⟨_, rfl⟩
          rw [← eh31, ← et31] at ob31
          rw [← eh31] at g31
          refine g_hp (h2 := h31) eh31.symm ?_
          refine g_top (v2 := aO (some t31)) (by rw [et31]) ?_
          have G31 := G30.trans g31
          refine g_dup rfl rfl ?_
          refine g_iload rfl rfl ?_
          refine g_if_eq_f rfl (by omega) ?_
          refine g_aload_n rfl rfl ?_
          refine g_getR rfl (G31.cs.kd 6 (by omega) rfl) (G31.cs.rf 5 (by omega) rfl) ?_
          refine g_aload rfl rfl ?_
          refine g_aload rfl rfl ?_
          refine g_callVO [aO (some p8), aO (some p11)] [aO (some t31), aO (some t31)] rfl rfl rfl rfl (Nat.le_of_ble_eq_true rfl) (G31.cs.kd 1 (by omega) rfl) (s_plus (by omega) G31.ci (g31.wb (g30.wb (g29.wb (g13.wb (g12.wb (g11.wb (g10.wb (g9.wb wp8)))))))) (g31.wb (g30.wb (g29.wb (g13.wb (g12.wb wp11))))) (2 * k + 190) (by omega) (by omega) (by omega)) ?_
          rintro _ h32 ⟨p32, rfl, g32, wp32⟩
          have G32 := G31.trans g32
          refine g_goto rfl ?_
          refine g_iload rfl rfl ?_
          refine g_if_eq_f rfl (by omega) ?_
          refine g_aload_n rfl rfl ?_
          refine g_getR rfl (G32.cs.kd 6 (by omega) rfl) (G32.cs.rf 5 (by omega) rfl) ?_
          refine g_aload rfl rfl ?_
          refine g_aload rfl rfl ?_
          refine g_callVO [aO (some p10), aO (some p13)] [aO (some p32), aO (some t31), aO (some t31)] rfl rfl rfl rfl (Nat.le_of_ble_eq_true rfl) (G32.cs.kd 1 (by omega) rfl) (s_plus (by omega) G32.ci (g32.wb (g31.wb (g30.wb (g29.wb (g13.wb (g12.wb (g11.wb wp10))))))) (g32.wb (g31.wb (g30.wb (g29.wb wp13)))) (2 * k + 190) (by omega) (by omega) (by omega)) ?_
          rintro _ h33 ⟨p33, rfl, g33, wp33⟩
          have G33 := G32.trans g33
          refine g_goto rfl ?_
          refine g_aload rfl rfl ?_
          refine g_callIN [aO (some p32), aO (some p33), aO (some p30)] [aO (some t31)] rfl (by decide) rfl rfl rfl (Nat.le_of_ble_eq_true rfl) (g33.ob (g32.ob ob31)).2.2 (k_Triple (by omega) (g33.ob (g32.ob ob31)).2.2 (g33.ob (g32.ob ob31)).1 p32 p33 p30) ?_
          rintro _ rfl
          have c34 := ct3 (P := ((-(R.2.1 * (L.1 * L.1 + L.2.1 * L.2.1) + (p_tam_S L R) * L.1)) + (P6 * L.2.1), (-(R.2.2.1 * (L.1 * L.1 + L.2.1 * L.2.1) + (p_tam_S L R) * L.2.1)) + (-(P6 * L.1)), 2 * (R.1 * (L.1 * L.1 + L.2.1 * L.2.1)))) (k := 2 * k + 190) G33 (g33.ob (g32.ob ob31)) (by have := G30.2.1.1; omega) ((g33.wb wp32).up (by omega)) (wp33.up (by omega)) ((g33.wb (g32.wb (g31.wb wp30))).up (by omega))
          have faL_34 := c34.2.2.2.1 _ _ _ _ (by have := (g30.tf (g29.tf (g13.tf (g12.tf (g11.tf (g10.tf (g9.tf (g8.tf (g7.tf (g6.tf (g4.tf (g3.tf (g2.tf (g1.tf fL)))))))))))))).1.1; omega) (g33.tf (g32.tf (g31.tf (g30.tf (g29.tf (g13.tf (g12.tf (g11.tf (g10.tf (g9.tf (g8.tf (g7.tf (g6.tf (g4.tf (g3.tf (g2.tf (g1.tf fL)))))))))))))))))
          obtain ⟨h34, eh34⟩ : ∃ hq9, hq9 = pt3 h33 t31 p32 p33 p30 := ⟨_, rfl⟩
          refine g_hp (h2 := h34) (by rw [eh34]; rfl) ?_
          rw [← eh34] at c34 faL_34
          have G34 := c34.1
          obtain ⟨q34x, q34y, q34w, f34, wq34x, wq34y, wq34w⟩ := c34.2.1
          refine g_aret rfl ?_
          refine ⟨G34.mono (by omega), ?_⟩
          first
            | rw [p_cro_t (by omega) eS6 (by unfold p_fwd; omega)]
            | rw [p_cro_f (by omega) eS6 (by unfold p_fwd; omega)]
          exact ⟨t31, rfl, _, _, _, f34, (wq34x.up (by omega)), (wq34y.up (by omega)), (wq34w.up (by omega))⟩
        · skip
          refine g_iconst rfl ?_
          refine g_goto rfl ?_
          refine g_icmp_ne_t rfl (by omega) ?_
          refine g_iconst rfl ?_
          refine g_istore (l1 := [(13, aI 0), (12, aI (lcmp (P6 * L.2.1) 0)), (11, aO (some p13)), (10, aO (some p11)), (9, aO (some p10)), (8, aO (some p8)), (7, aO (some p6)), (6, aO (some p4)), (5, aO (some p2)), (4, aO (some p1)), (0, aO (some (c + 6))), (1, aO (some aL)), (2, aO (some aR)), (3, aI 0)]) rfl rfl ?_
          refine g_aload_n rfl rfl ?_
          refine g_getR rfl (G13.cs.kd 6 (by omega) rfl) (G13.cs.rf 5 (by omega) rfl) ?_
          refine g_aload_n rfl rfl ?_
          refine g_getR rfl (G13.cs.kd 6 (by omega) rfl) (G13.cs.rf 5 (by omega) rfl) ?_
          refine g_aload_n rfl rfl ?_
          refine g_getR rfl (g13.rf (g12.rf (g11.rf (g10.rf (g9.rf (g8.rf (g7.rf (g6.rf (g4.rf (g3.rf (g2.rf (g1.rf fR)))))))))))).1.2.2 (g13.rf (g12.rf (g11.rf (g10.rf (g9.rf (g8.rf (g7.rf (g6.rf (g4.rf (g3.rf (g2.rf (g1.rf fR)))))))))))).2.1 ?_
          refine g_aload rfl rfl ?_
          refine g_callVO [aO (some Rk), aO (some p2)] [aO (some (c + 1))] rfl rfl rfl rfl (Nat.le_of_ble_eq_true rfl) (G13.cs.kd 1 (by omega) rfl) (s_times (by omega) G13.ci (g13.wb (g12.wb (g11.wb (g10.wb (g9.wb (g8.wb (g7.wb (g6.wb (g4.wb (g3.wb (g2.wb (g1.wb wRk)))))))))))) (g13.wb (g12.wb (g11.wb (g10.wb (g9.wb (g8.wb (g7.wb (g6.wb (g4.wb (g3.wb wp2)))))))))) (by omega)) ?_
          rintro _ h35 ⟨p35, rfl, g35, wp35⟩
          have G35 := G13.trans g35
          refine g_callVO [aO (some p35)] [] rfl rfl rfl rfl (Nat.le_of_ble_eq_true rfl) (G35.cs.kd 1 (by omega) rfl) (s_twice (by omega) G35.ci wp35 (by omega)) ?_
          rintro _ h36 ⟨p36, rfl, g36, wp36⟩
          have G36 := G35.trans g36
          refine g_astore (l1 := [(14, aO (some p36)), (13, aI 0), (12, aI (lcmp (P6 * L.2.1) 0)), (11, aO (some p13)), (10, aO (some p11)), (9, aO (some p10)), (8, aO (some p8)), (7, aO (some p6)), (6, aO (some p4)), (5, aO (some p2)), (4, aO (some p1)), (0, aO (some (c + 6))), (1, aO (some aL)), (2, aO (some aR)), (3, aI 0)]) rfl rfl ?_
          refine g_new rfl ?_
          obtain ⟨g37, ob37⟩ := Gr.mk (k := 19) (m := 3) G36.ci (by decide) (by decide)
          obtain ⟨t37, et37⟩ : ∃ t, t = hz h36 := ⟨_, rfl⟩
          obtain ⟨h37, eh37⟩ : ∃ hq9, hq9 = hnew h36 19 3 := ⟨_, rfl⟩
          rw [← eh37, ← et37] at ob37
          rw [← eh37] at g37
          refine g_hp (h2 := h37) eh37.symm ?_
          refine g_top (v2 := aO (some t37)) (by rw [et37]) ?_
          have G37 := G36.trans g37
          refine g_dup rfl rfl ?_
          refine g_iload rfl rfl ?_
          refine g_if_eq_t rfl (by omega) ?_
          refine g_aload_n rfl rfl ?_
          refine g_getR rfl (G37.cs.kd 6 (by omega) rfl) (G37.cs.rf 5 (by omega) rfl) ?_
          refine g_aload rfl rfl ?_
          refine g_aload rfl rfl ?_
          refine g_callVO [aO (some p8), aO (some p11)] [aO (some t37), aO (some t37)] rfl rfl rfl rfl (Nat.le_of_ble_eq_true rfl) (G37.cs.kd 1 (by omega) rfl) (s_minus (by omega) G37.ci (g37.wb (g36.wb (g35.wb (g13.wb (g12.wb (g11.wb (g10.wb (g9.wb wp8)))))))) (g37.wb (g36.wb (g35.wb (g13.wb (g12.wb wp11))))) (2 * k + 190) (by omega) (by omega) (by omega)) ?_
          rintro _ h38 ⟨p38, rfl, g38, wp38⟩
          have G38 := G37.trans g38
          refine g_iload rfl rfl ?_
          refine g_if_eq_t rfl (by omega) ?_
          refine g_aload_n rfl rfl ?_
          refine g_getR rfl (G38.cs.kd 6 (by omega) rfl) (G38.cs.rf 5 (by omega) rfl) ?_
          refine g_aload rfl rfl ?_
          refine g_aload rfl rfl ?_
          refine g_callVO [aO (some p10), aO (some p13)] [aO (some p38), aO (some t37), aO (some t37)] rfl rfl rfl rfl (Nat.le_of_ble_eq_true rfl) (G38.cs.kd 1 (by omega) rfl) (s_minus (by omega) G38.ci (g38.wb (g37.wb (g36.wb (g35.wb (g13.wb (g12.wb (g11.wb wp10))))))) (g38.wb (g37.wb (g36.wb (g35.wb wp13)))) (2 * k + 190) (by omega) (by omega) (by omega)) ?_
          rintro _ h39 ⟨p39, rfl, g39, wp39⟩
          have G39 := G38.trans g39
          refine g_aload rfl rfl ?_
          refine g_callIN [aO (some p38), aO (some p39), aO (some p36)] [aO (some t37)] rfl (by decide) rfl rfl rfl (Nat.le_of_ble_eq_true rfl) (g39.ob (g38.ob ob37)).2.2 (k_Triple (by omega) (g39.ob (g38.ob ob37)).2.2 (g39.ob (g38.ob ob37)).1 p38 p39 p36) ?_
          rintro _ rfl
          have c40 := ct3 (P := ((-(R.2.1 * (L.1 * L.1 + L.2.1 * L.2.1) + (p_tam_S L R) * L.1)) - (P6 * L.2.1), (-(R.2.2.1 * (L.1 * L.1 + L.2.1 * L.2.1) + (p_tam_S L R) * L.2.1)) - (-(P6 * L.1)), 2 * (R.1 * (L.1 * L.1 + L.2.1 * L.2.1)))) (k := 2 * k + 190) G39 (g39.ob (g38.ob ob37)) (by have := G36.2.1.1; omega) ((g39.wb wp38).up (by omega)) (wp39.up (by omega)) ((g39.wb (g38.wb (g37.wb wp36))).up (by omega))
          have faL_40 := c40.2.2.2.1 _ _ _ _ (by have := (g36.tf (g35.tf (g13.tf (g12.tf (g11.tf (g10.tf (g9.tf (g8.tf (g7.tf (g6.tf (g4.tf (g3.tf (g2.tf (g1.tf fL)))))))))))))).1.1; omega) (g39.tf (g38.tf (g37.tf (g36.tf (g35.tf (g13.tf (g12.tf (g11.tf (g10.tf (g9.tf (g8.tf (g7.tf (g6.tf (g4.tf (g3.tf (g2.tf (g1.tf fL)))))))))))))))))
          obtain ⟨h40, eh40⟩ : ∃ hq9, hq9 = pt3 h39 t37 p38 p39 p36 := ⟨_, rfl⟩
          refine g_hp (h2 := h40) (by rw [eh40]; rfl) ?_
          rw [← eh40] at c40 faL_40
          have G40 := c40.1
          obtain ⟨q40x, q40y, q40w, f40, wq40x, wq40y, wq40w⟩ := c40.2.1
          refine g_aret rfl ?_
          refine ⟨G40.mono (by omega), ?_⟩
          first
            | rw [p_cro_t (by omega) eS6 (by unfold p_fwd; omega)]
            | rw [p_cro_f (by omega) eS6 (by unfold p_fwd; omega)]
          exact ⟨t37, rfl, _, _, _, f40, (wq40x.up (by omega)), (wq40y.up (by omega)), (wq40w.up (by omega))⟩
  · skip
    refine g_null rfl ?_
    refine g_goto rfl ?_
    refine g_astore (l1 := [(7, aO none), (6, aO (some p4)), (5, aO (some p2)), (4, aO (some p1)), (0, aO (some (c + 6))), (1, aO (some aL)), (2, aO (some aR)), (3, aI 0)]) rfl rfl ?_
    refine g_aload rfl rfl ?_
    refine g_ifnonnull_f rfl ?_
    refine g_null rfl ?_
    refine g_aret rfl ?_
    refine ⟨G4.mono (by omega), ?_⟩
    first
      | (rw [p_cro_no (by omega)]; rfl)
      | (rw [p_cro_no2 (by omega) rfl]; rfl)
set_option maxHeartbeats 4000000 in
theorem p_cro1 {w : aW} {d : Nat} (hd : 5 ≤ d) {k : Nat} {h : aH} {c : Nat} (ci : CI h c) {aL : Nat} {L : T3} (tL : TB h c aL L (k)) {aR : Nat} {R : T4} (tR : QB h c aR R (20)) (ht : hV h (c + 1) 1 ≤ 300) (hk : k ≤ 96) : WP w d 64 [aO (some (c + 6)), aO (some aL), aO (some aR), aI 1] h (RO (fun r h1 => Gr h h1 c 32 ∧ OT h1 c r (p_cro_O true L R) (2 * k + 190))) := by
  obtain ⟨d, rfl⟩ : ∃ d1, d = d1 + 1 := ⟨d - 1, by omega⟩
  refine WP.enter (cd := cd_X2_crossing) rfl ?_
  have G0 := Gr.refl ci
  obtain ⟨Lx, Ly, Lw, fL, wLx, wLy, wLw⟩ := tL
  obtain ⟨Rk, Ra, Rb, Re, fR, wRk, wRa, wRb, wRe⟩ := tR
  have hls : largs 0 [aO (some (c + 6)), aO (some aL), aO (some aR), aI 1] = [(0, aO (some (c + 6))), (1, aO (some aL)), (2, aO (some aR)), (3, aI 1)] := rfl
  rw [hls]
  clear hls
  refine g_aload_n rfl rfl ?_
  refine g_aload_n rfl rfl ?_
  refine g_aload_n rfl rfl ?_
  refine g_callVO [aO (some aL), aO (some aR)] [] rfl rfl rfl rfl (Nat.le_of_ble_eq_true rfl) (G0.cs.kd 6 (by omega) rfl) (p_tam (by omega) G0.ci (show TB h c aL L (k) from ⟨_, _, _, fL, (wLx.up (by omega)), (wLy.up (by omega)), (wLw.up (by omega))⟩) (show QB h c aR R (20) from ⟨_, _, _, _, fR, (wRk.up (by omega)), (wRa.up (by omega)), (wRb.up (by omega)), (wRe.up (by omega))⟩) (by omega)) ?_
  rintro _ h1 ⟨p1, rfl, g1, wp1⟩
  have G1 := G0.trans g1
  refine g_astore (l1 := [(4, aO (some p1)), (0, aO (some (c + 6))), (1, aO (some aL)), (2, aO (some aR)), (3, aI 1)]) rfl rfl ?_
  refine g_aload_n rfl rfl ?_
  refine g_getR rfl (G1.cs.kd 6 (by omega) rfl) (G1.cs.rf 5 (by omega) rfl) ?_
  refine g_aload_n rfl rfl ?_
  refine g_getR rfl (g1.tf fL).1.2.2 (g1.tf fL).2.1 ?_
  refine g_aload_n rfl rfl ?_
  refine g_getR rfl (g1.tf fL).1.2.2 (g1.tf fL).2.1 ?_
  refine g_aload_n rfl rfl ?_
  refine g_getR rfl (g1.tf fL).1.2.2 (g1.tf fL).2.2.1 ?_
  refine g_aload_n rfl rfl ?_
  refine g_getR rfl (g1.tf fL).1.2.2 (g1.tf fL).2.2.1 ?_
  refine g_callVO [aO (some Lx), aO (some Lx), aO (some Ly), aO (some Ly)] [] rfl rfl rfl rfl (Nat.le_of_ble_eq_true rfl) (G1.cs.kd 1 (by omega) rfl) (s_added (by omega) G1.ci (g1.wb wLx) (g1.wb wLx) (g1.wb wLy) (g1.wb wLy) (2 * k + 1) (by omega) (by omega) (by omega)) ?_
  rintro _ h2 ⟨p2, rfl, g2, wp2⟩
  have G2 := G1.trans g2
  refine g_astore (l1 := [(5, aO (some p2)), (4, aO (some p1)), (0, aO (some (c + 6))), (1, aO (some aL)), (2, aO (some aR)), (3, aI 1)]) rfl rfl ?_
  refine g_aload_n rfl rfl ?_
  refine g_getR rfl (G2.cs.kd 6 (by omega) rfl) (G2.cs.rf 5 (by omega) rfl) ?_
  refine g_aload_n rfl rfl ?_
  refine g_aload_n rfl rfl ?_
  refine g_callVO [aO (some aR)] [aO (some (c + 1))] rfl rfl rfl rfl (Nat.le_of_ble_eq_true rfl) (G2.cs.kd 6 (by omega) rfl) (p_spread (by omega) G2.ci (show QB h2 c aR R (20) from ⟨_, _, _, _, (g2.rf (g1.rf fR)), ((g2.wb (g1.wb wRk)).up (by omega)), ((g2.wb (g1.wb wRa)).up (by omega)), ((g2.wb (g1.wb wRb)).up (by omega)), ((g2.wb (g1.wb wRe)).up (by omega))⟩)) ?_
  rintro _ h3 ⟨p3, rfl, g3, wp3⟩
  have G3 := G2.trans g3
  refine g_aload rfl rfl ?_
  refine g_aload rfl rfl ?_
  refine g_aload rfl rfl ?_
  refine g_callVO [aO (some p3), aO (some p2), aO (some p1), aO (some p1)] [] rfl rfl rfl rfl (Nat.le_of_ble_eq_true rfl) (G3.cs.kd 1 (by omega) rfl) (s_diff (by omega) G3.ci wp3 (g3.wb wp2) (g3.wb (g2.wb wp1)) (g3.wb (g2.wb wp1)) (2 * k + 45) (by omega) (by omega) (by omega)) ?_
  rintro _ h4 ⟨p4, rfl, g4, wp4⟩
  have G4 := G3.trans g4
  refine g_astore (l1 := [(6, aO (some p4)), (5, aO (some p2)), (4, aO (some p1)), (0, aO (some (c + 6))), (1, aO (some aL)), (2, aO (some aR)), (3, aI 1)]) rfl rfl ?_
  refine g_aload_n rfl rfl ?_
  refine g_aload_n rfl rfl ?_
  refine g_callVI [aO (some aL)] [] rfl rfl rfl rfl (Nat.le_of_ble_eq_true rfl) (G4.cs.kd 6 (by omega) rfl) (p_hasAllFar (by omega) G4.ci (show TB h4 c aL L (k) from ⟨_, _, _, (g4.tf (g3.tf (g2.tf (g1.tf fL)))), ((g4.wb (g3.wb (g2.wb (g1.wb wLx)))).up (by omega)), ((g4.wb (g3.wb (g2.wb (g1.wb wLy)))).up (by omega)), ((g4.wb (g3.wb (g2.wb (g1.wb wLw)))).up (by omega))⟩)) ?_
  rintro _ hx5 ⟨ehx5, rfl⟩
  rw [ehx5]
  clear ehx5 hx5
  refine g_b_eq rfl (fun c58 => ?_) (fun c58 => ?_)
  · skip
    refine g_aload_n rfl rfl ?_
    refine g_getR rfl (G4.cs.kd 6 (by omega) rfl) (G4.cs.rf 5 (by omega) rfl) ?_
    refine g_aload rfl rfl ?_
    refine g_callVO [aO (some p4)] [] rfl rfl rfl rfl (Nat.le_of_ble_eq_true rfl) (G4.cs.kd 1 (by omega) rfl) (s_rootO (by omega) G4.ci wp4 (by omega) (by have := G4.2.2.2.2.2.2.1; omega)) ?_
    rintro r6 h6 ⟨g6, q6⟩
    have G6 := G4.trans g6
    cases eS6 : rootO ((p_spread_S R) * (L.1 * L.1 + L.2.1 * L.2.1) - (p_tam_S L R) * (p_tam_S L R)) with
    | none =>
      rw [eS6] at q6
      obtain rfl : r6 = none := q6
      refine g_astore (l1 := [(7, aO none), (6, aO (some p4)), (5, aO (some p2)), (4, aO (some p1)), (0, aO (some (c + 6))), (1, aO (some aL)), (2, aO (some aR)), (3, aI 1)]) rfl rfl ?_
      refine g_aload rfl rfl ?_
      refine g_ifnonnull_f rfl ?_
      refine g_null rfl ?_
      refine g_aret rfl ?_
      refine ⟨G6.mono (by omega), ?_⟩
      first
        | (rw [p_cro_no (by omega)]; rfl)
        | (rw [p_cro_no2 (by omega) eS6]; rfl)
    | some P6 =>
      rw [eS6] at q6
      obtain ⟨p6, rfl, wp6⟩ := q6
      refine g_astore (l1 := [(7, aO (some p6)), (6, aO (some p4)), (5, aO (some p2)), (4, aO (some p1)), (0, aO (some (c + 6))), (1, aO (some aL)), (2, aO (some aR)), (3, aI 1)]) rfl rfl ?_
      refine g_aload rfl rfl ?_
      refine g_ifnonnull_t rfl ?_
      refine g_aload_n rfl rfl ?_
      refine g_getR rfl (G6.cs.kd 6 (by omega) rfl) (G6.cs.rf 5 (by omega) rfl) ?_
      refine g_aload_n rfl rfl ?_
      refine g_getR rfl (G6.cs.kd 6 (by omega) rfl) (G6.cs.rf 5 (by omega) rfl) ?_
      refine g_aload_n rfl rfl ?_
      refine g_getR rfl (g6.rf (g4.rf (g3.rf (g2.rf (g1.rf fR))))).1.2.2 (g6.rf (g4.rf (g3.rf (g2.rf (g1.rf fR))))).2.2.1 ?_
      refine g_aload rfl rfl ?_
      refine g_aload rfl rfl ?_
      refine g_aload_n rfl rfl ?_
      refine g_getR rfl (g6.tf (g4.tf (g3.tf (g2.tf (g1.tf fL))))).1.2.2 (g6.tf (g4.tf (g3.tf (g2.tf (g1.tf fL))))).2.1 ?_
      refine g_callVO [aO (some Ra), aO (some p2), aO (some p1), aO (some Lx)] [aO (some (c + 1))] rfl rfl rfl rfl (Nat.le_of_ble_eq_true rfl) (G6.cs.kd 1 (by omega) rfl) (s_added (by omega) G6.ci (g6.wb (g4.wb (g3.wb (g2.wb (g1.wb wRa))))) (g6.wb (g4.wb (g3.wb wp2))) (g6.wb (g4.wb (g3.wb (g2.wb wp1)))) (g6.wb (g4.wb (g3.wb (g2.wb (g1.wb wLx))))) (2 * k + 23) (by omega) (by omega) (by omega)) ?_
      rintro _ h7 ⟨p7, rfl, g7, wp7⟩
      have G7 := G6.trans g7
      refine g_callVO [aO (some p7)] [] rfl rfl rfl rfl (Nat.le_of_ble_eq_true rfl) (G7.cs.kd 1 (by omega) rfl) (s_neg (by omega) G7.ci wp7 (by omega)) ?_
      rintro _ h8 ⟨p8, rfl, g8, wp8⟩
      have G8 := G7.trans g8
      refine g_astore (l1 := [(8, aO (some p8)), (7, aO (some p6)), (6, aO (some p4)), (5, aO (some p2)), (4, aO (some p1)), (0, aO (some (c + 6))), (1, aO (some aL)), (2, aO (some aR)), (3, aI 1)]) rfl rfl ?_
      refine g_aload_n rfl rfl ?_
      refine g_getR rfl (G8.cs.kd 6 (by omega) rfl) (G8.cs.rf 5 (by omega) rfl) ?_
      refine g_aload_n rfl rfl ?_
      refine g_getR rfl (G8.cs.kd 6 (by omega) rfl) (G8.cs.rf 5 (by omega) rfl) ?_
      refine g_aload_n rfl rfl ?_
      refine g_getR rfl (g8.rf (g7.rf (g6.rf (g4.rf (g3.rf (g2.rf (g1.rf fR))))))).1.2.2 (g8.rf (g7.rf (g6.rf (g4.rf (g3.rf (g2.rf (g1.rf fR))))))).2.2.2.1 ?_
      refine g_aload rfl rfl ?_
      refine g_aload rfl rfl ?_
      refine g_aload_n rfl rfl ?_
      refine g_getR rfl (g8.tf (g7.tf (g6.tf (g4.tf (g3.tf (g2.tf (g1.tf fL))))))).1.2.2 (g8.tf (g7.tf (g6.tf (g4.tf (g3.tf (g2.tf (g1.tf fL))))))).2.2.1 ?_
      refine g_callVO [aO (some Rb), aO (some p2), aO (some p1), aO (some Ly)] [aO (some (c + 1))] rfl rfl rfl rfl (Nat.le_of_ble_eq_true rfl) (G8.cs.kd 1 (by omega) rfl) (s_added (by omega) G8.ci (g8.wb (g7.wb (g6.wb (g4.wb (g3.wb (g2.wb (g1.wb wRb))))))) (g8.wb (g7.wb (g6.wb (g4.wb (g3.wb wp2))))) (g8.wb (g7.wb (g6.wb (g4.wb (g3.wb (g2.wb wp1)))))) (g8.wb (g7.wb (g6.wb (g4.wb (g3.wb (g2.wb (g1.wb wLy))))))) (2 * k + 23) (by omega) (by omega) (by omega)) ?_
      rintro _ h9 ⟨p9, rfl, g9, wp9⟩
      have G9 := G8.trans g9
      refine g_callVO [aO (some p9)] [] rfl rfl rfl rfl (Nat.le_of_ble_eq_true rfl) (G9.cs.kd 1 (by omega) rfl) (s_neg (by omega) G9.ci wp9 (by omega)) ?_
      rintro _ h10 ⟨p10, rfl, g10, wp10⟩
      have G10 := G9.trans g10
      refine g_astore (l1 := [(9, aO (some p10)), (8, aO (some p8)), (7, aO (some p6)), (6, aO (some p4)), (5, aO (some p2)), (4, aO (some p1)), (0, aO (some (c + 6))), (1, aO (some aL)), (2, aO (some aR)), (3, aI 1)]) rfl rfl ?_
      refine g_aload_n rfl rfl ?_
      refine g_getR rfl (G10.cs.kd 6 (by omega) rfl) (G10.cs.rf 5 (by omega) rfl) ?_
      refine g_aload rfl rfl ?_
      refine g_aload_n rfl rfl ?_
      refine g_getR rfl (g10.tf (g9.tf (g8.tf (g7.tf (g6.tf (g4.tf (g3.tf (g2.tf (g1.tf fL))))))))).1.2.2 (g10.tf (g9.tf (g8.tf (g7.tf (g6.tf (g4.tf (g3.tf (g2.tf (g1.tf fL))))))))).2.2.1 ?_
      refine g_callVO [aO (some p6), aO (some Ly)] [] rfl rfl rfl rfl (Nat.le_of_ble_eq_true rfl) (G10.cs.kd 1 (by omega) rfl) (s_times (by omega) G10.ci (g10.wb (g9.wb (g8.wb (g7.wb wp6)))) (g10.wb (g9.wb (g8.wb (g7.wb (g6.wb (g4.wb (g3.wb (g2.wb (g1.wb wLy))))))))) (by omega)) ?_
      rintro _ h11 ⟨p11, rfl, g11, wp11⟩
      have G11 := G10.trans g11
      refine g_astore (l1 := [(10, aO (some p11)), (9, aO (some p10)), (8, aO (some p8)), (7, aO (some p6)), (6, aO (some p4)), (5, aO (some p2)), (4, aO (some p1)), (0, aO (some (c + 6))), (1, aO (some aL)), (2, aO (some aR)), (3, aI 1)]) rfl rfl ?_
      refine g_aload_n rfl rfl ?_
      refine g_getR rfl (G11.cs.kd 6 (by omega) rfl) (G11.cs.rf 5 (by omega) rfl) ?_
      refine g_aload_n rfl rfl ?_
      refine g_getR rfl (G11.cs.kd 6 (by omega) rfl) (G11.cs.rf 5 (by omega) rfl) ?_
      refine g_aload rfl rfl ?_
      refine g_aload_n rfl rfl ?_
      refine g_getR rfl (g11.tf (g10.tf (g9.tf (g8.tf (g7.tf (g6.tf (g4.tf (g3.tf (g2.tf (g1.tf fL)))))))))).1.2.2 (g11.tf (g10.tf (g9.tf (g8.tf (g7.tf (g6.tf (g4.tf (g3.tf (g2.tf (g1.tf fL)))))))))).2.1 ?_
      refine g_callVO [aO (some p6), aO (some Lx)] [aO (some (c + 1))] rfl rfl rfl rfl (Nat.le_of_ble_eq_true rfl) (G11.cs.kd 1 (by omega) rfl) (s_times (by omega) G11.ci (g11.wb (g10.wb (g9.wb (g8.wb (g7.wb wp6))))) (g11.wb (g10.wb (g9.wb (g8.wb (g7.wb (g6.wb (g4.wb (g3.wb (g2.wb (g1.wb wLx)))))))))) (by omega)) ?_
      rintro _ h12 ⟨p12, rfl, g12, wp12⟩
      have G12 := G11.trans g12
      refine g_callVO [aO (some p12)] [] rfl rfl rfl rfl (Nat.le_of_ble_eq_true rfl) (G12.cs.kd 1 (by omega) rfl) (s_neg (by omega) G12.ci wp12 (by omega)) ?_
      rintro _ h13 ⟨p13, rfl, g13, wp13⟩
      have G13 := G12.trans g13
      refine g_astore (l1 := [(11, aO (some p13)), (10, aO (some p11)), (9, aO (some p10)), (8, aO (some p8)), (7, aO (some p6)), (6, aO (some p4)), (5, aO (some p2)), (4, aO (some p1)), (0, aO (some (c + 6))), (1, aO (some aL)), (2, aO (some aR)), (3, aI 1)]) rfl rfl ?_
      refine g_aload_n rfl rfl ?_
      refine g_getR rfl (G13.cs.kd 6 (by omega) rfl) (G13.cs.rf 5 (by omega) rfl) ?_
      refine g_aload rfl rfl ?_
      refine g_callVI [aO (some p11)] [] rfl rfl rfl rfl (Nat.le_of_ble_eq_true rfl) (G13.cs.kd 1 (by omega) rfl) (s_sign (by omega) G13.ci (g13.wb (g12.wb wp11))) ?_
      rintro _ hx14 ⟨ehx14, rfl⟩
      rw [ehx14]
      clear ehx14 hx14
      refine g_if_eq rfl (fun c185 => ?_) (fun c185 => ?_)
      · skip
        refine g_aload_n rfl rfl ?_
        refine g_getR rfl (G13.cs.kd 6 (by omega) rfl) (G13.cs.rf 5 (by omega) rfl) ?_
        refine g_aload rfl rfl ?_
        refine g_callVI [aO (some p13)] [] rfl rfl rfl rfl (Nat.le_of_ble_eq_true rfl) (G13.cs.kd 1 (by omega) rfl) (s_sign (by omega) G13.ci wp13) ?_
        rintro _ hx15 ⟨ehx15, rfl⟩
        rw [ehx15]
        clear ehx15 hx15
        refine g_istore (l1 := [(12, aI (lcmp (-(P6 * L.1)) 0)), (11, aO (some p13)), (10, aO (some p11)), (9, aO (some p10)), (8, aO (some p8)), (7, aO (some p6)), (6, aO (some p4)), (5, aO (some p2)), (4, aO (some p1)), (0, aO (some (c + 6))), (1, aO (some aL)), (2, aO (some aR)), (3, aI 1)]) rfl rfl ?_
        refine g_iload_n rfl rfl ?_
        refine g_iload rfl rfl ?_
        refine g_if_le rfl (fun c214 => ?_) (fun c214 => ?_)
        · skip
          refine g_iconst rfl ?_
          refine g_icmp_ne_t rfl (by omega) ?_
          refine g_iconst rfl ?_
          refine g_istore (l1 := [(13, aI 0), (12, aI (lcmp (-(P6 * L.1)) 0)), (11, aO (some p13)), (10, aO (some p11)), (9, aO (some p10)), (8, aO (some p8)), (7, aO (some p6)), (6, aO (some p4)), (5, aO (some p2)), (4, aO (some p1)), (0, aO (some (c + 6))), (1, aO (some aL)), (2, aO (some aR)), (3, aI 1)]) rfl rfl ?_
          refine g_aload_n rfl rfl ?_
          refine g_getR rfl (G13.cs.kd 6 (by omega) rfl) (G13.cs.rf 5 (by omega) rfl) ?_
          refine g_aload_n rfl rfl ?_
          refine g_getR rfl (G13.cs.kd 6 (by omega) rfl) (G13.cs.rf 5 (by omega) rfl) ?_
          refine g_aload_n rfl rfl ?_
          refine g_getR rfl (g13.rf (g12.rf (g11.rf (g10.rf (g9.rf (g8.rf (g7.rf (g6.rf (g4.rf (g3.rf (g2.rf (g1.rf fR)))))))))))).1.2.2 (g13.rf (g12.rf (g11.rf (g10.rf (g9.rf (g8.rf (g7.rf (g6.rf (g4.rf (g3.rf (g2.rf (g1.rf fR)))))))))))).2.1 ?_
          refine g_aload rfl rfl ?_
          refine g_callVO [aO (some Rk), aO (some p2)] [aO (some (c + 1))] rfl rfl rfl rfl (Nat.le_of_ble_eq_true rfl) (G13.cs.kd 1 (by omega) rfl) (s_times (by omega) G13.ci (g13.wb (g12.wb (g11.wb (g10.wb (g9.wb (g8.wb (g7.wb (g6.wb (g4.wb (g3.wb (g2.wb (g1.wb wRk)))))))))))) (g13.wb (g12.wb (g11.wb (g10.wb (g9.wb (g8.wb (g7.wb (g6.wb (g4.wb (g3.wb wp2)))))))))) (by omega)) ?_
          rintro _ h16 ⟨p16, rfl, g16, wp16⟩
          have G16 := G13.trans g16
          refine g_callVO [aO (some p16)] [] rfl rfl rfl rfl (Nat.le_of_ble_eq_true rfl) (G16.cs.kd 1 (by omega) rfl) (s_twice (by omega) G16.ci wp16 (by omega)) ?_
          rintro _ h17 ⟨p17, rfl, g17, wp17⟩
          have G17 := G16.trans g17
          refine g_astore (l1 := [(14, aO (some p17)), (13, aI 0), (12, aI (lcmp (-(P6 * L.1)) 0)), (11, aO (some p13)), (10, aO (some p11)), (9, aO (some p10)), (8, aO (some p8)), (7, aO (some p6)), (6, aO (some p4)), (5, aO (some p2)), (4, aO (some p1)), (0, aO (some (c + 6))), (1, aO (some aL)), (2, aO (some aR)), (3, aI 1)]) rfl rfl ?_
          refine g_new rfl ?_
          obtain ⟨g18, ob18⟩ := Gr.mk (k := 19) (m := 3) G17.ci (by decide) (by decide)
          obtain ⟨t18, et18⟩ : ∃ t, t = hz h17 := ⟨_, rfl⟩
          obtain ⟨h18, eh18⟩ : ∃ hq9, hq9 = hnew h17 19 3 := ⟨_, rfl⟩
          rw [← eh18, ← et18] at ob18
          rw [← eh18] at g18
          refine g_hp (h2 := h18) eh18.symm ?_
          refine g_top (v2 := aO (some t18)) (by rw [et18]) ?_
          have G18 := G17.trans g18
          refine g_dup rfl rfl ?_
          refine g_iload rfl rfl ?_
          refine g_if_eq_t rfl (by omega) ?_
          refine g_aload_n rfl rfl ?_
          refine g_getR rfl (G18.cs.kd 6 (by omega) rfl) (G18.cs.rf 5 (by omega) rfl) ?_
          refine g_aload rfl rfl ?_
          refine g_aload rfl rfl ?_
          refine g_callVO [aO (some p8), aO (some p11)] [aO (some t18), aO (some t18)] rfl rfl rfl rfl (Nat.le_of_ble_eq_true rfl) (G18.cs.kd 1 (by omega) rfl) (s_minus (by omega) G18.ci (g18.wb (g17.wb (g16.wb (g13.wb (g12.wb (g11.wb (g10.wb (g9.wb wp8)))))))) (g18.wb (g17.wb (g16.wb (g13.wb (g12.wb wp11))))) (2 * k + 190) (by omega) (by omega) (by omega)) ?_
          rintro _ h19 ⟨p19, rfl, g19, wp19⟩
          have G19 := G18.trans g19
          refine g_iload rfl rfl ?_
          refine g_if_eq_t rfl (by omega) ?_
          refine g_aload_n rfl rfl ?_
          refine g_getR rfl (G19.cs.kd 6 (by omega) rfl) (G19.cs.rf 5 (by omega) rfl) ?_
          refine g_aload rfl rfl ?_
          refine g_aload rfl rfl ?_
          refine g_callVO [aO (some p10), aO (some p13)] [aO (some p19), aO (some t18), aO (some t18)] rfl rfl rfl rfl (Nat.le_of_ble_eq_true rfl) (G19.cs.kd 1 (by omega) rfl) (s_minus (by omega) G19.ci (g19.wb (g18.wb (g17.wb (g16.wb (g13.wb (g12.wb (g11.wb wp10))))))) (g19.wb (g18.wb (g17.wb (g16.wb wp13)))) (2 * k + 190) (by omega) (by omega) (by omega)) ?_
          rintro _ h20 ⟨p20, rfl, g20, wp20⟩
          have G20 := G19.trans g20
          refine g_aload rfl rfl ?_
          refine g_callIN [aO (some p19), aO (some p20), aO (some p17)] [aO (some t18)] rfl (by decide) rfl rfl rfl (Nat.le_of_ble_eq_true rfl) (g20.ob (g19.ob ob18)).2.2 (k_Triple (by omega) (g20.ob (g19.ob ob18)).2.2 (g20.ob (g19.ob ob18)).1 p19 p20 p17) ?_
          rintro _ rfl
          have c21 := ct3 (P := ((-(R.2.1 * (L.1 * L.1 + L.2.1 * L.2.1) + (p_tam_S L R) * L.1)) - (P6 * L.2.1), (-(R.2.2.1 * (L.1 * L.1 + L.2.1 * L.2.1) + (p_tam_S L R) * L.2.1)) - (-(P6 * L.1)), 2 * (R.1 * (L.1 * L.1 + L.2.1 * L.2.1)))) (k := 2 * k + 190) G20 (g20.ob (g19.ob ob18)) (by have := G17.2.1.1; omega) ((g20.wb wp19).up (by omega)) (wp20.up (by omega)) ((g20.wb (g19.wb (g18.wb wp17))).up (by omega))
          have faL_21 := c21.2.2.2.1 _ _ _ _ (by have := (g17.tf (g16.tf (g13.tf (g12.tf (g11.tf (g10.tf (g9.tf (g8.tf (g7.tf (g6.tf (g4.tf (g3.tf (g2.tf (g1.tf fL)))))))))))))).1.1; omega) (g20.tf (g19.tf (g18.tf (g17.tf (g16.tf (g13.tf (g12.tf (g11.tf (g10.tf (g9.tf (g8.tf (g7.tf (g6.tf (g4.tf (g3.tf (g2.tf (g1.tf fL)))))))))))))))))
          obtain ⟨h21, eh21⟩ : ∃ hq9, hq9 = pt3 h20 t18 p19 p20 p17 := ⟨_, rfl⟩
          refine g_hp (h2 := h21) (by rw [eh21]; rfl) ?_
          rw [← eh21] at c21 faL_21
          have G21 := c21.1
          obtain ⟨q21x, q21y, q21w, f21, wq21x, wq21y, wq21w⟩ := c21.2.1
          refine g_aret rfl ?_
          refine ⟨G21.mono (by omega), ?_⟩
          first
            | rw [p_cro_t (by omega) eS6 (by unfold p_fwd; omega)]
            | rw [p_cro_f (by omega) eS6 (by unfold p_fwd; omega)]
          exact ⟨t18, rfl, _, _, _, f21, (wq21x.up (by omega)), (wq21y.up (by omega)), (wq21w.up (by omega))⟩
        · skip
          refine g_iconst rfl ?_
          refine g_goto rfl ?_
          refine g_icmp_ne_f rfl (by omega) ?_
          refine g_iconst rfl ?_
          refine g_goto rfl ?_
          refine g_istore (l1 := [(13, aI 1), (12, aI (lcmp (-(P6 * L.1)) 0)), (11, aO (some p13)), (10, aO (some p11)), (9, aO (some p10)), (8, aO (some p8)), (7, aO (some p6)), (6, aO (some p4)), (5, aO (some p2)), (4, aO (some p1)), (0, aO (some (c + 6))), (1, aO (some aL)), (2, aO (some aR)), (3, aI 1)]) rfl rfl ?_
          refine g_aload_n rfl rfl ?_
          refine g_getR rfl (G13.cs.kd 6 (by omega) rfl) (G13.cs.rf 5 (by omega) rfl) ?_
          refine g_aload_n rfl rfl ?_
          refine g_getR rfl (G13.cs.kd 6 (by omega) rfl) (G13.cs.rf 5 (by omega) rfl) ?_
          refine g_aload_n rfl rfl ?_
          refine g_getR rfl (g13.rf (g12.rf (g11.rf (g10.rf (g9.rf (g8.rf (g7.rf (g6.rf (g4.rf (g3.rf (g2.rf (g1.rf fR)))))))))))).1.2.2 (g13.rf (g12.rf (g11.rf (g10.rf (g9.rf (g8.rf (g7.rf (g6.rf (g4.rf (g3.rf (g2.rf (g1.rf fR)))))))))))).2.1 ?_
          refine g_aload rfl rfl ?_
          refine g_callVO [aO (some Rk), aO (some p2)] [aO (some (c + 1))] rfl rfl rfl rfl (Nat.le_of_ble_eq_true rfl) (G13.cs.kd 1 (by omega) rfl) (s_times (by omega) G13.ci (g13.wb (g12.wb (g11.wb (g10.wb (g9.wb (g8.wb (g7.wb (g6.wb (g4.wb (g3.wb (g2.wb (g1.wb wRk)))))))))))) (g13.wb (g12.wb (g11.wb (g10.wb (g9.wb (g8.wb (g7.wb (g6.wb (g4.wb (g3.wb wp2)))))))))) (by omega)) ?_
          rintro _ h22 ⟨p22, rfl, g22, wp22⟩
          have G22 := G13.trans g22
          refine g_callVO [aO (some p22)] [] rfl rfl rfl rfl (Nat.le_of_ble_eq_true rfl) (G22.cs.kd 1 (by omega) rfl) (s_twice (by omega) G22.ci wp22 (by omega)) ?_
          rintro _ h23 ⟨p23, rfl, g23, wp23⟩
          have G23 := G22.trans g23
          refine g_astore (l1 := [(14, aO (some p23)), (13, aI 1), (12, aI (lcmp (-(P6 * L.1)) 0)), (11, aO (some p13)), (10, aO (some p11)), (9, aO (some p10)), (8, aO (some p8)), (7, aO (some p6)), (6, aO (some p4)), (5, aO (some p2)), (4, aO (some p1)), (0, aO (some (c + 6))), (1, aO (some aL)), (2, aO (some aR)), (3, aI 1)]) rfl rfl ?_
          refine g_new rfl ?_
          obtain ⟨g24, ob24⟩ := Gr.mk (k := 19) (m := 3) G23.ci (by decide) (by decide)
          obtain ⟨t24, et24⟩ : ∃ t, t = hz h23 := ⟨_, rfl⟩
          obtain ⟨h24, eh24⟩ : ∃ hq9, hq9 = hnew h23 19 3 := ⟨_, rfl⟩
          rw [← eh24, ← et24] at ob24
          rw [← eh24] at g24
          refine g_hp (h2 := h24) eh24.symm ?_
          refine g_top (v2 := aO (some t24)) (by rw [et24]) ?_
          have G24 := G23.trans g24
          refine g_dup rfl rfl ?_
          refine g_iload rfl rfl ?_
          refine g_if_eq_f rfl (by omega) ?_
          refine g_aload_n rfl rfl ?_
          refine g_getR rfl (G24.cs.kd 6 (by omega) rfl) (G24.cs.rf 5 (by omega) rfl) ?_
          refine g_aload rfl rfl ?_
          refine g_aload rfl rfl ?_
          refine g_callVO [aO (some p8), aO (some p11)] [aO (some t24), aO (some t24)] rfl rfl rfl rfl (Nat.le_of_ble_eq_true rfl) (G24.cs.kd 1 (by omega) rfl) (s_plus (by omega) G24.ci (g24.wb (g23.wb (g22.wb (g13.wb (g12.wb (g11.wb (g10.wb (g9.wb wp8)))))))) (g24.wb (g23.wb (g22.wb (g13.wb (g12.wb wp11))))) (2 * k + 190) (by omega) (by omega) (by omega)) ?_
          rintro _ h25 ⟨p25, rfl, g25, wp25⟩
          have G25 := G24.trans g25
          refine g_goto rfl ?_
          refine g_iload rfl rfl ?_
          refine g_if_eq_f rfl (by omega) ?_
          refine g_aload_n rfl rfl ?_
          refine g_getR rfl (G25.cs.kd 6 (by omega) rfl) (G25.cs.rf 5 (by omega) rfl) ?_
          refine g_aload rfl rfl ?_
          refine g_aload rfl rfl ?_
          refine g_callVO [aO (some p10), aO (some p13)] [aO (some p25), aO (some t24), aO (some t24)] rfl rfl rfl rfl (Nat.le_of_ble_eq_true rfl) (G25.cs.kd 1 (by omega) rfl) (s_plus (by omega) G25.ci (g25.wb (g24.wb (g23.wb (g22.wb (g13.wb (g12.wb (g11.wb wp10))))))) (g25.wb (g24.wb (g23.wb (g22.wb wp13)))) (2 * k + 190) (by omega) (by omega) (by omega)) ?_
          rintro _ h26 ⟨p26, rfl, g26, wp26⟩
          have G26 := G25.trans g26
          refine g_goto rfl ?_
          refine g_aload rfl rfl ?_
          refine g_callIN [aO (some p25), aO (some p26), aO (some p23)] [aO (some t24)] rfl (by decide) rfl rfl rfl (Nat.le_of_ble_eq_true rfl) (g26.ob (g25.ob ob24)).2.2 (k_Triple (by omega) (g26.ob (g25.ob ob24)).2.2 (g26.ob (g25.ob ob24)).1 p25 p26 p23) ?_
          rintro _ rfl
          have c27 := ct3 (P := ((-(R.2.1 * (L.1 * L.1 + L.2.1 * L.2.1) + (p_tam_S L R) * L.1)) + (P6 * L.2.1), (-(R.2.2.1 * (L.1 * L.1 + L.2.1 * L.2.1) + (p_tam_S L R) * L.2.1)) + (-(P6 * L.1)), 2 * (R.1 * (L.1 * L.1 + L.2.1 * L.2.1)))) (k := 2 * k + 190) G26 (g26.ob (g25.ob ob24)) (by have := G23.2.1.1; omega) ((g26.wb wp25).up (by omega)) (wp26.up (by omega)) ((g26.wb (g25.wb (g24.wb wp23))).up (by omega))
          have faL_27 := c27.2.2.2.1 _ _ _ _ (by have := (g23.tf (g22.tf (g13.tf (g12.tf (g11.tf (g10.tf (g9.tf (g8.tf (g7.tf (g6.tf (g4.tf (g3.tf (g2.tf (g1.tf fL)))))))))))))).1.1; omega) (g26.tf (g25.tf (g24.tf (g23.tf (g22.tf (g13.tf (g12.tf (g11.tf (g10.tf (g9.tf (g8.tf (g7.tf (g6.tf (g4.tf (g3.tf (g2.tf (g1.tf fL)))))))))))))))))
          obtain ⟨h27, eh27⟩ : ∃ hq9, hq9 = pt3 h26 t24 p25 p26 p23 := ⟨_, rfl⟩
          refine g_hp (h2 := h27) (by rw [eh27]; rfl) ?_
          rw [← eh27] at c27 faL_27
          have G27 := c27.1
          obtain ⟨q27x, q27y, q27w, f27, wq27x, wq27y, wq27w⟩ := c27.2.1
          refine g_aret rfl ?_
          refine ⟨G27.mono (by omega), ?_⟩
          first
            | rw [p_cro_t (by omega) eS6 (by unfold p_fwd; omega)]
            | rw [p_cro_f (by omega) eS6 (by unfold p_fwd; omega)]
          exact ⟨t24, rfl, _, _, _, f27, (wq27x.up (by omega)), (wq27y.up (by omega)), (wq27w.up (by omega))⟩
      · skip
        refine g_aload_n rfl rfl ?_
        refine g_getR rfl (G13.cs.kd 6 (by omega) rfl) (G13.cs.rf 5 (by omega) rfl) ?_
        refine g_aload rfl rfl ?_
        refine g_callVI [aO (some p11)] [] rfl rfl rfl rfl (Nat.le_of_ble_eq_true rfl) (G13.cs.kd 1 (by omega) rfl) (s_sign (by omega) G13.ci (g13.wb (g12.wb wp11))) ?_
        rintro _ hx28 ⟨ehx28, rfl⟩
        rw [ehx28]
        clear ehx28 hx28
        refine g_goto rfl ?_
        refine g_istore (l1 := [(12, aI (lcmp (P6 * L.2.1) 0)), (11, aO (some p13)), (10, aO (some p11)), (9, aO (some p10)), (8, aO (some p8)), (7, aO (some p6)), (6, aO (some p4)), (5, aO (some p2)), (4, aO (some p1)), (0, aO (some (c + 6))), (1, aO (some aL)), (2, aO (some aR)), (3, aI 1)]) rfl rfl ?_
        refine g_iload_n rfl rfl ?_
        refine g_iload rfl rfl ?_
        refine g_if_le rfl (fun c214 => ?_) (fun c214 => ?_)
        · skip
          refine g_iconst rfl ?_
          refine g_icmp_ne_t rfl (by omega) ?_
          refine g_iconst rfl ?_
          refine g_istore (l1 := [(13, aI 0), (12, aI (lcmp (P6 * L.2.1) 0)), (11, aO (some p13)), (10, aO (some p11)), (9, aO (some p10)), (8, aO (some p8)), (7, aO (some p6)), (6, aO (some p4)), (5, aO (some p2)), (4, aO (some p1)), (0, aO (some (c + 6))), (1, aO (some aL)), (2, aO (some aR)), (3, aI 1)]) rfl rfl ?_
          refine g_aload_n rfl rfl ?_
          refine g_getR rfl (G13.cs.kd 6 (by omega) rfl) (G13.cs.rf 5 (by omega) rfl) ?_
          refine g_aload_n rfl rfl ?_
          refine g_getR rfl (G13.cs.kd 6 (by omega) rfl) (G13.cs.rf 5 (by omega) rfl) ?_
          refine g_aload_n rfl rfl ?_
          refine g_getR rfl (g13.rf (g12.rf (g11.rf (g10.rf (g9.rf (g8.rf (g7.rf (g6.rf (g4.rf (g3.rf (g2.rf (g1.rf fR)))))))))))).1.2.2 (g13.rf (g12.rf (g11.rf (g10.rf (g9.rf (g8.rf (g7.rf (g6.rf (g4.rf (g3.rf (g2.rf (g1.rf fR)))))))))))).2.1 ?_
          refine g_aload rfl rfl ?_
          refine g_callVO [aO (some Rk), aO (some p2)] [aO (some (c + 1))] rfl rfl rfl rfl (Nat.le_of_ble_eq_true rfl) (G13.cs.kd 1 (by omega) rfl) (s_times (by omega) G13.ci (g13.wb (g12.wb (g11.wb (g10.wb (g9.wb (g8.wb (g7.wb (g6.wb (g4.wb (g3.wb (g2.wb (g1.wb wRk)))))))))))) (g13.wb (g12.wb (g11.wb (g10.wb (g9.wb (g8.wb (g7.wb (g6.wb (g4.wb (g3.wb wp2)))))))))) (by omega)) ?_
          rintro _ h29 ⟨p29, rfl, g29, wp29⟩
          have G29 := G13.trans g29
          refine g_callVO [aO (some p29)] [] rfl rfl rfl rfl (Nat.le_of_ble_eq_true rfl) (G29.cs.kd 1 (by omega) rfl) (s_twice (by omega) G29.ci wp29 (by omega)) ?_
          rintro _ h30 ⟨p30, rfl, g30, wp30⟩
          have G30 := G29.trans g30
          refine g_astore (l1 := [(14, aO (some p30)), (13, aI 0), (12, aI (lcmp (P6 * L.2.1) 0)), (11, aO (some p13)), (10, aO (some p11)), (9, aO (some p10)), (8, aO (some p8)), (7, aO (some p6)), (6, aO (some p4)), (5, aO (some p2)), (4, aO (some p1)), (0, aO (some (c + 6))), (1, aO (some aL)), (2, aO (some aR)), (3, aI 1)]) rfl rfl ?_
          refine g_new rfl ?_
          obtain ⟨g31, ob31⟩ := Gr.mk (k := 19) (m := 3) G30.ci (by decide) (by decide)
          obtain ⟨t31, et31⟩ : ∃ t, t = hz h30 := ⟨_, rfl⟩
          obtain ⟨h31, eh31⟩ : ∃ hq9, hq9 = hnew h30 19 3 := ⟨_, rfl⟩
          rw [← eh31, ← et31] at ob31
          rw [← eh31] at g31
          refine g_hp (h2 := h31) eh31.symm ?_
          refine g_top (v2 := aO (some t31)) (by rw [et31]) ?_
          have G31 := G30.trans g31
          refine g_dup rfl rfl ?_
          refine g_iload rfl rfl ?_
          refine g_if_eq_t rfl (by omega) ?_
          refine g_aload_n rfl rfl ?_
          refine g_getR rfl (G31.cs.kd 6 (by omega) rfl) (G31.cs.rf 5 (by omega) rfl) ?_
          refine g_aload rfl rfl ?_
          refine g_aload rfl rfl ?_
          refine g_callVO [aO (some p8), aO (some p11)] [aO (some t31), aO (some t31)] rfl rfl rfl rfl (Nat.le_of_ble_eq_true rfl) (G31.cs.kd 1 (by omega) rfl) (s_minus (by omega) G31.ci (g31.wb (g30.wb (g29.wb (g13.wb (g12.wb (g11.wb (g10.wb (g9.wb wp8)))))))) (g31.wb (g30.wb (g29.wb (g13.wb (g12.wb wp11))))) (2 * k + 190) (by omega) (by omega) (by omega)) ?_
          rintro _ h32 ⟨p32, rfl, g32, wp32⟩
          have G32 := G31.trans g32
          refine g_iload rfl rfl ?_
          refine g_if_eq_t rfl (by omega) ?_
          refine g_aload_n rfl rfl ?_
          refine g_getR rfl (G32.cs.kd 6 (by omega) rfl) (G32.cs.rf 5 (by omega) rfl) ?_
          refine g_aload rfl rfl ?_
          refine g_aload rfl rfl ?_
          refine g_callVO [aO (some p10), aO (some p13)] [aO (some p32), aO (some t31), aO (some t31)] rfl rfl rfl rfl (Nat.le_of_ble_eq_true rfl) (G32.cs.kd 1 (by omega) rfl) (s_minus (by omega) G32.ci (g32.wb (g31.wb (g30.wb (g29.wb (g13.wb (g12.wb (g11.wb wp10))))))) (g32.wb (g31.wb (g30.wb (g29.wb wp13)))) (2 * k + 190) (by omega) (by omega) (by omega)) ?_
          rintro _ h33 ⟨p33, rfl, g33, wp33⟩
          have G33 := G32.trans g33
          refine g_aload rfl rfl ?_
          refine g_callIN [aO (some p32), aO (some p33), aO (some p30)] [aO (some t31)] rfl (by decide) rfl rfl rfl (Nat.le_of_ble_eq_true rfl) (g33.ob (g32.ob ob31)).2.2 (k_Triple (by omega) (g33.ob (g32.ob ob31)).2.2 (g33.ob (g32.ob ob31)).1 p32 p33 p30) ?_
          rintro _ rfl
          have c34 := ct3 (P := ((-(R.2.1 * (L.1 * L.1 + L.2.1 * L.2.1) + (p_tam_S L R) * L.1)) - (P6 * L.2.1), (-(R.2.2.1 * (L.1 * L.1 + L.2.1 * L.2.1) + (p_tam_S L R) * L.2.1)) - (-(P6 * L.1)), 2 * (R.1 * (L.1 * L.1 + L.2.1 * L.2.1)))) (k := 2 * k + 190) G33 (g33.ob (g32.ob ob31)) (by have := G30.2.1.1; omega) ((g33.wb wp32).up (by omega)) (wp33.up (by omega)) ((g33.wb (g32.wb (g31.wb wp30))).up (by omega))
          have faL_34 := c34.2.2.2.1 _ _ _ _ (by have := (g30.tf (g29.tf (g13.tf (g12.tf (g11.tf (g10.tf (g9.tf (g8.tf (g7.tf (g6.tf (g4.tf (g3.tf (g2.tf (g1.tf fL)))))))))))))).1.1; omega) (g33.tf (g32.tf (g31.tf (g30.tf (g29.tf (g13.tf (g12.tf (g11.tf (g10.tf (g9.tf (g8.tf (g7.tf (g6.tf (g4.tf (g3.tf (g2.tf (g1.tf fL)))))))))))))))))
          obtain ⟨h34, eh34⟩ : ∃ hq9, hq9 = pt3 h33 t31 p32 p33 p30 := ⟨_, rfl⟩
          refine g_hp (h2 := h34) (by rw [eh34]; rfl) ?_
          rw [← eh34] at c34 faL_34
          have G34 := c34.1
          obtain ⟨q34x, q34y, q34w, f34, wq34x, wq34y, wq34w⟩ := c34.2.1
          refine g_aret rfl ?_
          refine ⟨G34.mono (by omega), ?_⟩
          first
            | rw [p_cro_t (by omega) eS6 (by unfold p_fwd; omega)]
            | rw [p_cro_f (by omega) eS6 (by unfold p_fwd; omega)]
          exact ⟨t31, rfl, _, _, _, f34, (wq34x.up (by omega)), (wq34y.up (by omega)), (wq34w.up (by omega))⟩
        · skip
          refine g_iconst rfl ?_
          refine g_goto rfl ?_
          refine g_icmp_ne_f rfl (by omega) ?_
          refine g_iconst rfl ?_
          refine g_goto rfl ?_
          refine g_istore (l1 := [(13, aI 1), (12, aI (lcmp (P6 * L.2.1) 0)), (11, aO (some p13)), (10, aO (some p11)), (9, aO (some p10)), (8, aO (some p8)), (7, aO (some p6)), (6, aO (some p4)), (5, aO (some p2)), (4, aO (some p1)), (0, aO (some (c + 6))), (1, aO (some aL)), (2, aO (some aR)), (3, aI 1)]) rfl rfl ?_
          refine g_aload_n rfl rfl ?_
          refine g_getR rfl (G13.cs.kd 6 (by omega) rfl) (G13.cs.rf 5 (by omega) rfl) ?_
          refine g_aload_n rfl rfl ?_
          refine g_getR rfl (G13.cs.kd 6 (by omega) rfl) (G13.cs.rf 5 (by omega) rfl) ?_
          refine g_aload_n rfl rfl ?_
          refine g_getR rfl (g13.rf (g12.rf (g11.rf (g10.rf (g9.rf (g8.rf (g7.rf (g6.rf (g4.rf (g3.rf (g2.rf (g1.rf fR)))))))))))).1.2.2 (g13.rf (g12.rf (g11.rf (g10.rf (g9.rf (g8.rf (g7.rf (g6.rf (g4.rf (g3.rf (g2.rf (g1.rf fR)))))))))))).2.1 ?_
          refine g_aload rfl rfl ?_
          refine g_callVO [aO (some Rk), aO (some p2)] [aO (some (c + 1))] rfl rfl rfl rfl (Nat.le_of_ble_eq_true rfl) (G13.cs.kd 1 (by omega) rfl) (s_times (by omega) G13.ci (g13.wb (g12.wb (g11.wb (g10.wb (g9.wb (g8.wb (g7.wb (g6.wb (g4.wb (g3.wb (g2.wb (g1.wb wRk)))))))))))) (g13.wb (g12.wb (g11.wb (g10.wb (g9.wb (g8.wb (g7.wb (g6.wb (g4.wb (g3.wb wp2)))))))))) (by omega)) ?_
          rintro _ h35 ⟨p35, rfl, g35, wp35⟩
          have G35 := G13.trans g35
          refine g_callVO [aO (some p35)] [] rfl rfl rfl rfl (Nat.le_of_ble_eq_true rfl) (G35.cs.kd 1 (by omega) rfl) (s_twice (by omega) G35.ci wp35 (by omega)) ?_
          rintro _ h36 ⟨p36, rfl, g36, wp36⟩
          have G36 := G35.trans g36
          refine g_astore (l1 := [(14, aO (some p36)), (13, aI 1), (12, aI (lcmp (P6 * L.2.1) 0)), (11, aO (some p13)), (10, aO (some p11)), (9, aO (some p10)), (8, aO (some p8)), (7, aO (some p6)), (6, aO (some p4)), (5, aO (some p2)), (4, aO (some p1)), (0, aO (some (c + 6))), (1, aO (some aL)), (2, aO (some aR)), (3, aI 1)]) rfl rfl ?_
          refine g_new rfl ?_
          obtain ⟨g37, ob37⟩ := Gr.mk (k := 19) (m := 3) G36.ci (by decide) (by decide)
          obtain ⟨t37, et37⟩ : ∃ t, t = hz h36 := ⟨_, rfl⟩
          obtain ⟨h37, eh37⟩ : ∃ hq9, hq9 = hnew h36 19 3 := ⟨_, rfl⟩
          rw [← eh37, ← et37] at ob37
          rw [← eh37] at g37
          refine g_hp (h2 := h37) eh37.symm ?_
          refine g_top (v2 := aO (some t37)) (by rw [et37]) ?_
          have G37 := G36.trans g37
          refine g_dup rfl rfl ?_
          refine g_iload rfl rfl ?_
          refine g_if_eq_f rfl (by omega) ?_
          refine g_aload_n rfl rfl ?_
          refine g_getR rfl (G37.cs.kd 6 (by omega) rfl) (G37.cs.rf 5 (by omega) rfl) ?_
          refine g_aload rfl rfl ?_
          refine g_aload rfl rfl ?_
          refine g_callVO [aO (some p8), aO (some p11)] [aO (some t37), aO (some t37)] rfl rfl rfl rfl (Nat.le_of_ble_eq_true rfl) (G37.cs.kd 1 (by omega) rfl) (s_plus (by omega) G37.ci (g37.wb (g36.wb (g35.wb (g13.wb (g12.wb (g11.wb (g10.wb (g9.wb wp8)))))))) (g37.wb (g36.wb (g35.wb (g13.wb (g12.wb wp11))))) (2 * k + 190) (by omega) (by omega) (by omega)) ?_
          rintro _ h38 ⟨p38, rfl, g38, wp38⟩
          have G38 := G37.trans g38
          refine g_goto rfl ?_
          refine g_iload rfl rfl ?_
          refine g_if_eq_f rfl (by omega) ?_
          refine g_aload_n rfl rfl ?_
          refine g_getR rfl (G38.cs.kd 6 (by omega) rfl) (G38.cs.rf 5 (by omega) rfl) ?_
          refine g_aload rfl rfl ?_
          refine g_aload rfl rfl ?_
          refine g_callVO [aO (some p10), aO (some p13)] [aO (some p38), aO (some t37), aO (some t37)] rfl rfl rfl rfl (Nat.le_of_ble_eq_true rfl) (G38.cs.kd 1 (by omega) rfl) (s_plus (by omega) G38.ci (g38.wb (g37.wb (g36.wb (g35.wb (g13.wb (g12.wb (g11.wb wp10))))))) (g38.wb (g37.wb (g36.wb (g35.wb wp13)))) (2 * k + 190) (by omega) (by omega) (by omega)) ?_
          rintro _ h39 ⟨p39, rfl, g39, wp39⟩
          have G39 := G38.trans g39
          refine g_goto rfl ?_
          refine g_aload rfl rfl ?_
          refine g_callIN [aO (some p38), aO (some p39), aO (some p36)] [aO (some t37)] rfl (by decide) rfl rfl rfl (Nat.le_of_ble_eq_true rfl) (g39.ob (g38.ob ob37)).2.2 (k_Triple (by omega) (g39.ob (g38.ob ob37)).2.2 (g39.ob (g38.ob ob37)).1 p38 p39 p36) ?_
          rintro _ rfl
          have c40 := ct3 (P := ((-(R.2.1 * (L.1 * L.1 + L.2.1 * L.2.1) + (p_tam_S L R) * L.1)) + (P6 * L.2.1), (-(R.2.2.1 * (L.1 * L.1 + L.2.1 * L.2.1) + (p_tam_S L R) * L.2.1)) + (-(P6 * L.1)), 2 * (R.1 * (L.1 * L.1 + L.2.1 * L.2.1)))) (k := 2 * k + 190) G39 (g39.ob (g38.ob ob37)) (by have := G36.2.1.1; omega) ((g39.wb wp38).up (by omega)) (wp39.up (by omega)) ((g39.wb (g38.wb (g37.wb wp36))).up (by omega))
          have faL_40 := c40.2.2.2.1 _ _ _ _ (by have := (g36.tf (g35.tf (g13.tf (g12.tf (g11.tf (g10.tf (g9.tf (g8.tf (g7.tf (g6.tf (g4.tf (g3.tf (g2.tf (g1.tf fL)))))))))))))).1.1; omega) (g39.tf (g38.tf (g37.tf (g36.tf (g35.tf (g13.tf (g12.tf (g11.tf (g10.tf (g9.tf (g8.tf (g7.tf (g6.tf (g4.tf (g3.tf (g2.tf (g1.tf fL)))))))))))))))))
          obtain ⟨h40, eh40⟩ : ∃ hq9, hq9 = pt3 h39 t37 p38 p39 p36 := ⟨_, rfl⟩
          refine g_hp (h2 := h40) (by rw [eh40]; rfl) ?_
          rw [← eh40] at c40 faL_40
          have G40 := c40.1
          obtain ⟨q40x, q40y, q40w, f40, wq40x, wq40y, wq40w⟩ := c40.2.1
          refine g_aret rfl ?_
          refine ⟨G40.mono (by omega), ?_⟩
          first
            | rw [p_cro_t (by omega) eS6 (by unfold p_fwd; omega)]
            | rw [p_cro_f (by omega) eS6 (by unfold p_fwd; omega)]
          exact ⟨t37, rfl, _, _, _, f40, (wq40x.up (by omega)), (wq40y.up (by omega)), (wq40w.up (by omega))⟩
  · skip
    refine g_null rfl ?_
    refine g_goto rfl ?_
    refine g_astore (l1 := [(7, aO none), (6, aO (some p4)), (5, aO (some p2)), (4, aO (some p1)), (0, aO (some (c + 6))), (1, aO (some aL)), (2, aO (some aR)), (3, aI 1)]) rfl rfl ?_
    refine g_aload rfl rfl ?_
    refine g_ifnonnull_f rfl ?_
    refine g_null rfl ?_
    refine g_aret rfl ?_
    refine ⟨G4.mono (by omega), ?_⟩
    first
      | (rw [p_cro_no (by omega)]; rfl)
      | (rw [p_cro_no2 (by omega) rfl]; rfl)
