/-! the class's plane, on: circles around, over, through; ways, measures: printed by wip/whole/d5.py -/
def p_around_S (P : T3) (Q : T3) : T4 := (P.2.2 * (Q.2.2 * Q.2.2), -(2 * (P.1 * (Q.2.2 * Q.2.2))), -(2 * (P.2.1 * (Q.2.2 * Q.2.2))), (2 * Q.2.2) * (P.1 * Q.1 + P.2.1 * Q.2.1) - P.2.2 * (Q.1 * Q.1 + Q.2.1 * Q.2.1))
def p_around_O (P : T3) (Q : T3) : Option T4 := if P.2.2 = 0 ∨ Q.2.2 = 0 ∨ ((p_cross_S P Q).1 = 0 ∧ (p_cross_S P Q).2.1 = 0 ∧ (p_cross_S P Q).2.2 = 0) then none else some (p_around_S P Q)
set_option maxHeartbeats 4000000 in
theorem p_around {w : aW} {d : Nat} (hd : 5 ≤ d) {h : aH} {c : Nat} (ci : CI h c) {aP : Nat} {P : T3} (tP : TB h c aP P (20)) {aQ : Nat} {Q : T3} (tQ : TB h c aQ Q (20))  : WP w d 68 [aO (some (c + 6)), aO (some aP), aO (some aQ)] h (RO (fun r h1 => Gr h h1 c 21 ∧ OQ h1 c r (p_around_O P Q) (63))) := by
  obtain ⟨d, rfl⟩ : ∃ d1, d = d1 + 1 := ⟨d - 1, by omega⟩
  refine WP.enter (cd := cd_X2_ringAround) rfl ?_
  have G0 := Gr.refl ci
  obtain ⟨Px, Py, Pw, fP, wPx, wPy, wPw⟩ := tP
  obtain ⟨Qx, Qy, Qw, fQ, wQx, wQy, wQw⟩ := tQ
  have hls : largs 0 [aO (some (c + 6)), aO (some aP), aO (some aQ)] = [(0, aO (some (c + 6))), (1, aO (some aP)), (2, aO (some aQ))] := rfl
  rw [hls]
  clear hls
  refine g_aload_n rfl rfl ?_
  refine g_aload_n rfl rfl ?_
  refine g_callVI [aO (some aP)] [] rfl rfl rfl rfl (Nat.le_of_ble_eq_true rfl) (G0.cs.kd 6 (by omega) rfl) (p_isFar (by omega) G0.ci (show TB h c aP P (20) from ⟨_, _, _, fP, (wPx.up (by omega)), (wPy.up (by omega)), (wPw.up (by omega))⟩)) ?_
  rintro _ hx1 ⟨ehx1, rfl⟩
  rw [ehx1]
  clear ehx1 hx1
  refine g_b_ne rfl (fun c5 => ?_) (fun c5 => ?_)
  · skip
    refine g_null rfl ?_
    refine g_aret rfl ?_
    refine ⟨G0.mono (by omega), ?_⟩
    unfold p_around_O
    rw [if_pos (by omega)]
    rfl
  · skip
    refine g_aload_n rfl rfl ?_
    refine g_aload_n rfl rfl ?_
    refine g_callVI [aO (some aQ)] [] rfl rfl rfl rfl (Nat.le_of_ble_eq_true rfl) (G0.cs.kd 6 (by omega) rfl) (p_isFar (by omega) G0.ci (show TB h c aQ Q (20) from ⟨_, _, _, fQ, (wQx.up (by omega)), (wQy.up (by omega)), (wQw.up (by omega))⟩)) ?_
    rintro _ hx2 ⟨ehx2, rfl⟩
    rw [ehx2]
    clear ehx2 hx2
    refine g_b_ne rfl (fun c13 => ?_) (fun c13 => ?_)
    · skip
      refine g_null rfl ?_
      refine g_aret rfl ?_
      refine ⟨G0.mono (by omega), ?_⟩
      unfold p_around_O
      rw [if_pos (by omega)]
      rfl
    · skip
      refine g_aload_n rfl rfl ?_
      refine g_aload_n rfl rfl ?_
      refine g_aload_n rfl rfl ?_
      refine g_callVI [aO (some aP), aO (some aQ)] [] rfl rfl rfl rfl (Nat.le_of_ble_eq_true rfl) (G0.cs.kd 6 (by omega) rfl) (p_areSame (by omega) G0.ci (show TB h c aP P (20) from ⟨_, _, _, fP, (wPx.up (by omega)), (wPy.up (by omega)), (wPw.up (by omega))⟩) (show TB h c aQ Q (20) from ⟨_, _, _, fQ, (wQx.up (by omega)), (wQy.up (by omega)), (wQw.up (by omega))⟩) (by omega)) ?_
      rintro _ h3 ⟨g3, rfl⟩
      have G3 := G0.trans g3
      refine g_b_eq rfl (fun c22 => ?_) (fun c22 => ?_)
      · skip
        refine g_aload_n rfl rfl ?_
        refine g_getR rfl (G3.cs.kd 6 (by omega) rfl) (G3.cs.rf 5 (by omega) rfl) ?_
        refine g_aload_n rfl rfl ?_
        refine g_getR rfl (g3.tf fQ).1.2.2 (g3.tf fQ).2.2.2 ?_
        refine g_aload_n rfl rfl ?_
        refine g_getR rfl (g3.tf fQ).1.2.2 (g3.tf fQ).2.2.2 ?_
        refine g_callVO [aO (some Qw), aO (some Qw)] [] rfl rfl rfl rfl (Nat.le_of_ble_eq_true rfl) (G3.cs.kd 1 (by omega) rfl) (s_times (by omega) G3.ci (g3.wb wQw) (g3.wb wQw) (by omega)) ?_
        rintro _ h4 ⟨p4, rfl, g4, wp4⟩
        have G4 := G3.trans g4
        refine g_astore_n (l1 := [(3, aO (some p4)), (0, aO (some (c + 6))), (1, aO (some aP)), (2, aO (some aQ))]) rfl rfl ?_
        refine g_aload_n rfl rfl ?_
        refine g_getR rfl (G4.cs.kd 6 (by omega) rfl) (G4.cs.rf 5 (by omega) rfl) ?_
        refine g_aload_n rfl rfl ?_
        refine g_getR rfl (g4.tf (g3.tf fP)).1.2.2 (g4.tf (g3.tf fP)).2.1 ?_
        refine g_aload_n rfl rfl ?_
        refine g_getR rfl (g4.tf (g3.tf fQ)).1.2.2 (g4.tf (g3.tf fQ)).2.1 ?_
        refine g_aload_n rfl rfl ?_
        refine g_getR rfl (g4.tf (g3.tf fP)).1.2.2 (g4.tf (g3.tf fP)).2.2.1 ?_
        refine g_aload_n rfl rfl ?_
        refine g_getR rfl (g4.tf (g3.tf fQ)).1.2.2 (g4.tf (g3.tf fQ)).2.2.1 ?_
        refine g_callVO [aO (some Px), aO (some Qx), aO (some Py), aO (some Qy)] [] rfl rfl rfl rfl (Nat.le_of_ble_eq_true rfl) (G4.cs.kd 1 (by omega) rfl) (s_added (by omega) G4.ci (g4.wb (g3.wb wPx)) (g4.wb (g3.wb wQx)) (g4.wb (g3.wb wPy)) (g4.wb (g3.wb wQy)) (41) (by omega) (by omega) (by omega)) ?_
        rintro _ h5 ⟨p5, rfl, g5, wp5⟩
        have G5 := G4.trans g5
        refine g_astore (l1 := [(4, aO (some p5)), (3, aO (some p4)), (0, aO (some (c + 6))), (1, aO (some aP)), (2, aO (some aQ))]) rfl rfl ?_
        refine g_aload_n rfl rfl ?_
        refine g_getR rfl (G5.cs.kd 6 (by omega) rfl) (G5.cs.rf 5 (by omega) rfl) ?_
        refine g_aload_n rfl rfl ?_
        refine g_getR rfl (g5.tf (g4.tf (g3.tf fQ))).1.2.2 (g5.tf (g4.tf (g3.tf fQ))).2.1 ?_
        refine g_aload_n rfl rfl ?_
        refine g_getR rfl (g5.tf (g4.tf (g3.tf fQ))).1.2.2 (g5.tf (g4.tf (g3.tf fQ))).2.1 ?_
        refine g_aload_n rfl rfl ?_
        refine g_getR rfl (g5.tf (g4.tf (g3.tf fQ))).1.2.2 (g5.tf (g4.tf (g3.tf fQ))).2.2.1 ?_
        refine g_aload_n rfl rfl ?_
        refine g_getR rfl (g5.tf (g4.tf (g3.tf fQ))).1.2.2 (g5.tf (g4.tf (g3.tf fQ))).2.2.1 ?_
        refine g_callVO [aO (some Qx), aO (some Qx), aO (some Qy), aO (some Qy)] [] rfl rfl rfl rfl (Nat.le_of_ble_eq_true rfl) (G5.cs.kd 1 (by omega) rfl) (s_added (by omega) G5.ci (g5.wb (g4.wb (g3.wb wQx))) (g5.wb (g4.wb (g3.wb wQx))) (g5.wb (g4.wb (g3.wb wQy))) (g5.wb (g4.wb (g3.wb wQy))) (41) (by omega) (by omega) (by omega)) ?_
        rintro _ h6 ⟨p6, rfl, g6, wp6⟩
        have G6 := G5.trans g6
        refine g_astore (l1 := [(5, aO (some p6)), (4, aO (some p5)), (3, aO (some p4)), (0, aO (some (c + 6))), (1, aO (some aP)), (2, aO (some aQ))]) rfl rfl ?_
        refine g_new rfl ?_
        obtain ⟨g7, ob7⟩ := Gr.mk (k := 15) (m := 4) G6.ci (by decide) (by decide)
        obtain ⟨t7, et7⟩ : ∃ t, t = hz h6 := ⟨_, rfl⟩
        obtain ⟨h7, eh7⟩ : ∃ hq9, hq9 = hnew h6 15 4 := ⟨_, rfl⟩
        rw [← eh7, ← et7] at ob7
        rw [← eh7] at g7
        refine g_hp (h2 := h7) eh7.symm ?_
        refine g_top (v2 := aO (some t7)) (by rw [et7]) ?_
        have G7 := G6.trans g7
        refine g_dup rfl rfl ?_
        refine g_aload_n rfl rfl ?_
        refine g_getR rfl (G7.cs.kd 6 (by omega) rfl) (G7.cs.rf 5 (by omega) rfl) ?_
        refine g_aload_n rfl rfl ?_
        refine g_getR rfl (g7.tf (g6.tf (g5.tf (g4.tf (g3.tf fP))))).1.2.2 (g7.tf (g6.tf (g5.tf (g4.tf (g3.tf fP))))).2.2.2 ?_
        refine g_aload_n rfl rfl ?_
        refine g_callVO [aO (some Pw), aO (some p4)] [aO (some t7), aO (some t7)] rfl rfl rfl rfl (Nat.le_of_ble_eq_true rfl) (G7.cs.kd 1 (by omega) rfl) (s_times (by omega) G7.ci (g7.wb (g6.wb (g5.wb (g4.wb (g3.wb wPw))))) (g7.wb (g6.wb (g5.wb wp4))) (by omega)) ?_
        rintro _ h8 ⟨p8, rfl, g8, wp8⟩
        have G8 := G7.trans g8
        refine g_aload_n rfl rfl ?_
        refine g_getR rfl (G8.cs.kd 6 (by omega) rfl) (G8.cs.rf 5 (by omega) rfl) ?_
        refine g_aload_n rfl rfl ?_
        refine g_getR rfl (G8.cs.kd 6 (by omega) rfl) (G8.cs.rf 5 (by omega) rfl) ?_
        refine g_aload_n rfl rfl ?_
        refine g_getR rfl (G8.cs.kd 6 (by omega) rfl) (G8.cs.rf 5 (by omega) rfl) ?_
        refine g_aload_n rfl rfl ?_
        refine g_getR rfl (g8.tf (g7.tf (g6.tf (g5.tf (g4.tf (g3.tf fP)))))).1.2.2 (g8.tf (g7.tf (g6.tf (g5.tf (g4.tf (g3.tf fP)))))).2.1 ?_
        refine g_aload_n rfl rfl ?_
        refine g_callVO [aO (some Px), aO (some p4)] [aO (some (c + 1)), aO (some (c + 1)), aO (some p8), aO (some t7), aO (some t7)] rfl rfl rfl rfl (Nat.le_of_ble_eq_true rfl) (G8.cs.kd 1 (by omega) rfl) (s_times (by omega) G8.ci (g8.wb (g7.wb (g6.wb (g5.wb (g4.wb (g3.wb wPx)))))) (g8.wb (g7.wb (g6.wb (g5.wb wp4)))) (by omega)) ?_
        rintro _ h9 ⟨p9, rfl, g9, wp9⟩
        have G9 := G8.trans g9
        refine g_callVO [aO (some p9)] [aO (some (c + 1)), aO (some p8), aO (some t7), aO (some t7)] rfl rfl rfl rfl (Nat.le_of_ble_eq_true rfl) (G9.cs.kd 1 (by omega) rfl) (s_twice (by omega) G9.ci wp9 (by omega)) ?_
        rintro _ h10 ⟨p10, rfl, g10, wp10⟩
        have G10 := G9.trans g10
        refine g_callVO [aO (some p10)] [aO (some p8), aO (some t7), aO (some t7)] rfl rfl rfl rfl (Nat.le_of_ble_eq_true rfl) (G10.cs.kd 1 (by omega) rfl) (s_neg (by omega) G10.ci wp10 (by omega)) ?_
        rintro _ h11 ⟨p11, rfl, g11, wp11⟩
        have G11 := G10.trans g11
        refine g_aload_n rfl rfl ?_
        refine g_getR rfl (G11.cs.kd 6 (by omega) rfl) (G11.cs.rf 5 (by omega) rfl) ?_
        refine g_aload_n rfl rfl ?_
        refine g_getR rfl (G11.cs.kd 6 (by omega) rfl) (G11.cs.rf 5 (by omega) rfl) ?_
        refine g_aload_n rfl rfl ?_
        refine g_getR rfl (G11.cs.kd 6 (by omega) rfl) (G11.cs.rf 5 (by omega) rfl) ?_
        refine g_aload_n rfl rfl ?_
        refine g_getR rfl (g11.tf (g10.tf (g9.tf (g8.tf (g7.tf (g6.tf (g5.tf (g4.tf (g3.tf fP))))))))).1.2.2 (g11.tf (g10.tf (g9.tf (g8.tf (g7.tf (g6.tf (g5.tf (g4.tf (g3.tf fP))))))))).2.2.1 ?_
        refine g_aload_n rfl rfl ?_
        refine g_callVO [aO (some Py), aO (some p4)] [aO (some (c + 1)), aO (some (c + 1)), aO (some p11), aO (some p8), aO (some t7), aO (some t7)] rfl rfl rfl rfl (Nat.le_of_ble_eq_true rfl) (G11.cs.kd 1 (by omega) rfl) (s_times (by omega) G11.ci (g11.wb (g10.wb (g9.wb (g8.wb (g7.wb (g6.wb (g5.wb (g4.wb (g3.wb wPy))))))))) (g11.wb (g10.wb (g9.wb (g8.wb (g7.wb (g6.wb (g5.wb wp4))))))) (by omega)) ?_
        rintro _ h12 ⟨p12, rfl, g12, wp12⟩
        have G12 := G11.trans g12
        refine g_callVO [aO (some p12)] [aO (some (c + 1)), aO (some p11), aO (some p8), aO (some t7), aO (some t7)] rfl rfl rfl rfl (Nat.le_of_ble_eq_true rfl) (G12.cs.kd 1 (by omega) rfl) (s_twice (by omega) G12.ci wp12 (by omega)) ?_
        rintro _ h13 ⟨p13, rfl, g13, wp13⟩
        have G13 := G12.trans g13
        refine g_callVO [aO (some p13)] [aO (some p11), aO (some p8), aO (some t7), aO (some t7)] rfl rfl rfl rfl (Nat.le_of_ble_eq_true rfl) (G13.cs.kd 1 (by omega) rfl) (s_neg (by omega) G13.ci wp13 (by omega)) ?_
        rintro _ h14 ⟨p14, rfl, g14, wp14⟩
        have G14 := G13.trans g14
        refine g_aload_n rfl rfl ?_
        refine g_getR rfl (G14.cs.kd 6 (by omega) rfl) (G14.cs.rf 5 (by omega) rfl) ?_
        refine g_aload_n rfl rfl ?_
        refine g_getR rfl (G14.cs.kd 6 (by omega) rfl) (G14.cs.rf 5 (by omega) rfl) ?_
        refine g_aload_n rfl rfl ?_
        refine g_getR rfl (g14.tf (g13.tf (g12.tf (g11.tf (g10.tf (g9.tf (g8.tf (g7.tf (g6.tf (g5.tf (g4.tf (g3.tf fQ)))))))))))).1.2.2 (g14.tf (g13.tf (g12.tf (g11.tf (g10.tf (g9.tf (g8.tf (g7.tf (g6.tf (g5.tf (g4.tf (g3.tf fQ)))))))))))).2.2.2 ?_
        refine g_callVO [aO (some Qw)] [aO (some (c + 1)), aO (some p14), aO (some p11), aO (some p8), aO (some t7), aO (some t7)] rfl rfl rfl rfl (Nat.le_of_ble_eq_true rfl) (G14.cs.kd 1 (by omega) rfl) (s_twice (by omega) G14.ci (g14.wb (g13.wb (g12.wb (g11.wb (g10.wb (g9.wb (g8.wb (g7.wb (g6.wb (g5.wb (g4.wb (g3.wb wQw)))))))))))) (by omega)) ?_
        rintro _ h15 ⟨p15, rfl, g15, wp15⟩
        have G15 := G14.trans g15
        refine g_aload rfl rfl ?_
        refine g_aload_n rfl rfl ?_
        refine g_getR rfl (g15.tf (g14.tf (g13.tf (g12.tf (g11.tf (g10.tf (g9.tf (g8.tf (g7.tf (g6.tf (g5.tf (g4.tf (g3.tf fP))))))))))))).1.2.2 (g15.tf (g14.tf (g13.tf (g12.tf (g11.tf (g10.tf (g9.tf (g8.tf (g7.tf (g6.tf (g5.tf (g4.tf (g3.tf fP))))))))))))).2.2.2 ?_
        refine g_aload rfl rfl ?_
        refine g_callVO [aO (some p15), aO (some p5), aO (some Pw), aO (some p6)] [aO (some p14), aO (some p11), aO (some p8), aO (some t7), aO (some t7)] rfl rfl rfl rfl (Nat.le_of_ble_eq_true rfl) (G15.cs.kd 1 (by omega) rfl) (s_diff (by omega) G15.ci wp15 (g15.wb (g14.wb (g13.wb (g12.wb (g11.wb (g10.wb (g9.wb (g8.wb (g7.wb (g6.wb wp5)))))))))) (g15.wb (g14.wb (g13.wb (g12.wb (g11.wb (g10.wb (g9.wb (g8.wb (g7.wb (g6.wb (g5.wb (g4.wb (g3.wb wPw))))))))))))) (g15.wb (g14.wb (g13.wb (g12.wb (g11.wb (g10.wb (g9.wb (g8.wb (g7.wb wp6))))))))) (63) (by omega) (by omega) (by omega)) ?_
        rintro _ h16 ⟨p16, rfl, g16, wp16⟩
        have G16 := G15.trans g16
        refine g_callIN [aO (some p8), aO (some p11), aO (some p14), aO (some p16)] [aO (some t7)] rfl (by decide) rfl rfl rfl (Nat.le_of_ble_eq_true rfl) (g16.ob (g15.ob (g14.ob (g13.ob (g12.ob (g11.ob (g10.ob (g9.ob (g8.ob ob7))))))))).2.2 (k_Ring (by omega) (g16.ob (g15.ob (g14.ob (g13.ob (g12.ob (g11.ob (g10.ob (g9.ob (g8.ob ob7))))))))).2.2 (g16.ob (g15.ob (g14.ob (g13.ob (g12.ob (g11.ob (g10.ob (g9.ob (g8.ob ob7))))))))).1 p8 p11 p14 p16) ?_
        rintro _ rfl
        have c17 := ct4 (R := (P.2.2 * (Q.2.2 * Q.2.2), -(2 * (P.1 * (Q.2.2 * Q.2.2))), -(2 * (P.2.1 * (Q.2.2 * Q.2.2))), (2 * Q.2.2) * (P.1 * Q.1 + P.2.1 * Q.2.1) - P.2.2 * (Q.1 * Q.1 + Q.2.1 * Q.2.1))) (k := 63) G16 (g16.ob (g15.ob (g14.ob (g13.ob (g12.ob (g11.ob (g10.ob (g9.ob (g8.ob ob7))))))))) (by have := G6.2.1.1; omega) ((g16.wb (g15.wb (g14.wb (g13.wb (g12.wb (g11.wb (g10.wb (g9.wb wp8)))))))).up (by omega)) ((g16.wb (g15.wb (g14.wb (g13.wb (g12.wb wp11))))).up (by omega)) ((g16.wb (g15.wb wp14)).up (by omega)) (wp16.up (by omega))
        obtain ⟨h17, eh17⟩ : ∃ hq9, hq9 = pt4 h16 t7 p8 p11 p14 p16 := ⟨_, rfl⟩
        refine g_hp (h2 := h17) (by rw [eh17]; rfl) ?_
        rw [← eh17] at c17
        have G17 := c17.1
        obtain ⟨q17k, q17a, q17b, q17e, f17, wq17k, wq17a, wq17b, wq17e⟩ := c17.2.1
        refine g_aret rfl ?_
        refine ⟨G17.mono (by omega), ?_⟩
        unfold p_around_O
        rw [if_neg (by omega)]
        exact ⟨t7, rfl, _, _, _, _, f17, (wq17k.up (by omega)), (wq17a.up (by omega)), (wq17b.up (by omega)), (wq17e.up (by omega))⟩
      · skip
        refine g_null rfl ?_
        refine g_aret rfl ?_
        refine ⟨G3.mono (by omega), ?_⟩
        unfold p_around_O
        rw [if_pos (by omega)]
        rfl
def p_over_S (P : T3) (Q : T3) : T4 := (P.2.2 * Q.2.2, -(P.1 * Q.2.2 + Q.1 * P.2.2), -(P.2.1 * Q.2.2 + Q.2.1 * P.2.2), P.1 * Q.1 + P.2.1 * Q.2.1)
def p_over_O (P : T3) (Q : T3) : Option T4 := if P.2.2 = 0 ∨ Q.2.2 = 0 ∨ ((p_cross_S P Q).1 = 0 ∧ (p_cross_S P Q).2.1 = 0 ∧ (p_cross_S P Q).2.2 = 0) then none else some (p_over_S P Q)
set_option maxHeartbeats 4000000 in
theorem p_over {w : aW} {d : Nat} (hd : 5 ≤ d) {h : aH} {c : Nat} (ci : CI h c) {aP : Nat} {P : T3} (tP : TB h c aP P (20)) {aQ : Nat} {Q : T3} (tQ : TB h c aQ Q (20))  : WP w d 69 [aO (some (c + 6)), aO (some aP), aO (some aQ)] h (RO (fun r h1 => Gr h h1 c 14 ∧ OQ h1 c r (p_over_O P Q) (41))) := by
  obtain ⟨d, rfl⟩ : ∃ d1, d = d1 + 1 := ⟨d - 1, by omega⟩
  refine WP.enter (cd := cd_X2_ringOver) rfl ?_
  have G0 := Gr.refl ci
  obtain ⟨Px, Py, Pw, fP, wPx, wPy, wPw⟩ := tP
  obtain ⟨Qx, Qy, Qw, fQ, wQx, wQy, wQw⟩ := tQ
  have hls : largs 0 [aO (some (c + 6)), aO (some aP), aO (some aQ)] = [(0, aO (some (c + 6))), (1, aO (some aP)), (2, aO (some aQ))] := rfl
  rw [hls]
  clear hls
  refine g_aload_n rfl rfl ?_
  refine g_aload_n rfl rfl ?_
  refine g_callVI [aO (some aP)] [] rfl rfl rfl rfl (Nat.le_of_ble_eq_true rfl) (G0.cs.kd 6 (by omega) rfl) (p_isFar (by omega) G0.ci (show TB h c aP P (20) from ⟨_, _, _, fP, (wPx.up (by omega)), (wPy.up (by omega)), (wPw.up (by omega))⟩)) ?_
  rintro _ hx1 ⟨ehx1, rfl⟩
  rw [ehx1]
  clear ehx1 hx1
  refine g_b_ne rfl (fun c5 => ?_) (fun c5 => ?_)
  · skip
    refine g_null rfl ?_
    refine g_aret rfl ?_
    refine ⟨G0.mono (by omega), ?_⟩
    unfold p_over_O
    rw [if_pos (by omega)]
    rfl
  · skip
    refine g_aload_n rfl rfl ?_
    refine g_aload_n rfl rfl ?_
    refine g_callVI [aO (some aQ)] [] rfl rfl rfl rfl (Nat.le_of_ble_eq_true rfl) (G0.cs.kd 6 (by omega) rfl) (p_isFar (by omega) G0.ci (show TB h c aQ Q (20) from ⟨_, _, _, fQ, (wQx.up (by omega)), (wQy.up (by omega)), (wQw.up (by omega))⟩)) ?_
    rintro _ hx2 ⟨ehx2, rfl⟩
    rw [ehx2]
    clear ehx2 hx2
    refine g_b_ne rfl (fun c13 => ?_) (fun c13 => ?_)
    · skip
      refine g_null rfl ?_
      refine g_aret rfl ?_
      refine ⟨G0.mono (by omega), ?_⟩
      unfold p_over_O
      rw [if_pos (by omega)]
      rfl
    · skip
      refine g_aload_n rfl rfl ?_
      refine g_aload_n rfl rfl ?_
      refine g_aload_n rfl rfl ?_
      refine g_callVI [aO (some aP), aO (some aQ)] [] rfl rfl rfl rfl (Nat.le_of_ble_eq_true rfl) (G0.cs.kd 6 (by omega) rfl) (p_areSame (by omega) G0.ci (show TB h c aP P (20) from ⟨_, _, _, fP, (wPx.up (by omega)), (wPy.up (by omega)), (wPw.up (by omega))⟩) (show TB h c aQ Q (20) from ⟨_, _, _, fQ, (wQx.up (by omega)), (wQy.up (by omega)), (wQw.up (by omega))⟩) (by omega)) ?_
      rintro _ h3 ⟨g3, rfl⟩
      have G3 := G0.trans g3
      refine g_b_eq rfl (fun c22 => ?_) (fun c22 => ?_)
      · skip
        refine g_new rfl ?_
        obtain ⟨g4, ob4⟩ := Gr.mk (k := 15) (m := 4) G3.ci (by decide) (by decide)
        obtain ⟨t4, et4⟩ : ∃ t, t = hz h3 := ⟨_, rfl⟩
        obtain ⟨h4, eh4⟩ : ∃ hq9, hq9 = hnew h3 15 4 := ⟨_, rfl⟩
        rw [← eh4, ← et4] at ob4
        rw [← eh4] at g4
        refine g_hp (h2 := h4) eh4.symm ?_
        refine g_top (v2 := aO (some t4)) (by rw [et4]) ?_
        have G4 := G3.trans g4
        refine g_dup rfl rfl ?_
        refine g_aload_n rfl rfl ?_
        refine g_getR rfl (G4.cs.kd 6 (by omega) rfl) (G4.cs.rf 5 (by omega) rfl) ?_
        refine g_aload_n rfl rfl ?_
        refine g_getR rfl (g4.tf (g3.tf fP)).1.2.2 (g4.tf (g3.tf fP)).2.2.2 ?_
        refine g_aload_n rfl rfl ?_
        refine g_getR rfl (g4.tf (g3.tf fQ)).1.2.2 (g4.tf (g3.tf fQ)).2.2.2 ?_
        refine g_callVO [aO (some Pw), aO (some Qw)] [aO (some t4), aO (some t4)] rfl rfl rfl rfl (Nat.le_of_ble_eq_true rfl) (G4.cs.kd 1 (by omega) rfl) (s_times (by omega) G4.ci (g4.wb (g3.wb wPw)) (g4.wb (g3.wb wQw)) (by omega)) ?_
        rintro _ h5 ⟨p5, rfl, g5, wp5⟩
        have G5 := G4.trans g5
        refine g_aload_n rfl rfl ?_
        refine g_getR rfl (G5.cs.kd 6 (by omega) rfl) (G5.cs.rf 5 (by omega) rfl) ?_
        refine g_aload_n rfl rfl ?_
        refine g_getR rfl (G5.cs.kd 6 (by omega) rfl) (G5.cs.rf 5 (by omega) rfl) ?_
        refine g_aload_n rfl rfl ?_
        refine g_getR rfl (g5.tf (g4.tf (g3.tf fP))).1.2.2 (g5.tf (g4.tf (g3.tf fP))).2.1 ?_
        refine g_aload_n rfl rfl ?_
        refine g_getR rfl (g5.tf (g4.tf (g3.tf fQ))).1.2.2 (g5.tf (g4.tf (g3.tf fQ))).2.2.2 ?_
        refine g_aload_n rfl rfl ?_
        refine g_getR rfl (g5.tf (g4.tf (g3.tf fQ))).1.2.2 (g5.tf (g4.tf (g3.tf fQ))).2.1 ?_
        refine g_aload_n rfl rfl ?_
        refine g_getR rfl (g5.tf (g4.tf (g3.tf fP))).1.2.2 (g5.tf (g4.tf (g3.tf fP))).2.2.2 ?_
        refine g_callVO [aO (some Px), aO (some Qw), aO (some Qx), aO (some Pw)] [aO (some (c + 1)), aO (some p5), aO (some t4), aO (some t4)] rfl rfl rfl rfl (Nat.le_of_ble_eq_true rfl) (G5.cs.kd 1 (by omega) rfl) (s_added (by omega) G5.ci (g5.wb (g4.wb (g3.wb wPx))) (g5.wb (g4.wb (g3.wb wQw))) (g5.wb (g4.wb (g3.wb wQx))) (g5.wb (g4.wb (g3.wb wPw))) (41) (by omega) (by omega) (by omega)) ?_
        rintro _ h6 ⟨p6, rfl, g6, wp6⟩
        have G6 := G5.trans g6
        refine g_callVO [aO (some p6)] [aO (some p5), aO (some t4), aO (some t4)] rfl rfl rfl rfl (Nat.le_of_ble_eq_true rfl) (G6.cs.kd 1 (by omega) rfl) (s_neg (by omega) G6.ci wp6 (by omega)) ?_
        rintro _ h7 ⟨p7, rfl, g7, wp7⟩
        have G7 := G6.trans g7
        refine g_aload_n rfl rfl ?_
        refine g_getR rfl (G7.cs.kd 6 (by omega) rfl) (G7.cs.rf 5 (by omega) rfl) ?_
        refine g_aload_n rfl rfl ?_
        refine g_getR rfl (G7.cs.kd 6 (by omega) rfl) (G7.cs.rf 5 (by omega) rfl) ?_
        refine g_aload_n rfl rfl ?_
        refine g_getR rfl (g7.tf (g6.tf (g5.tf (g4.tf (g3.tf fP))))).1.2.2 (g7.tf (g6.tf (g5.tf (g4.tf (g3.tf fP))))).2.2.1 ?_
        refine g_aload_n rfl rfl ?_
        refine g_getR rfl (g7.tf (g6.tf (g5.tf (g4.tf (g3.tf fQ))))).1.2.2 (g7.tf (g6.tf (g5.tf (g4.tf (g3.tf fQ))))).2.2.2 ?_
        refine g_aload_n rfl rfl ?_
        refine g_getR rfl (g7.tf (g6.tf (g5.tf (g4.tf (g3.tf fQ))))).1.2.2 (g7.tf (g6.tf (g5.tf (g4.tf (g3.tf fQ))))).2.2.1 ?_
        refine g_aload_n rfl rfl ?_
        refine g_getR rfl (g7.tf (g6.tf (g5.tf (g4.tf (g3.tf fP))))).1.2.2 (g7.tf (g6.tf (g5.tf (g4.tf (g3.tf fP))))).2.2.2 ?_
        refine g_callVO [aO (some Py), aO (some Qw), aO (some Qy), aO (some Pw)] [aO (some (c + 1)), aO (some p7), aO (some p5), aO (some t4), aO (some t4)] rfl rfl rfl rfl (Nat.le_of_ble_eq_true rfl) (G7.cs.kd 1 (by omega) rfl) (s_added (by omega) G7.ci (g7.wb (g6.wb (g5.wb (g4.wb (g3.wb wPy))))) (g7.wb (g6.wb (g5.wb (g4.wb (g3.wb wQw))))) (g7.wb (g6.wb (g5.wb (g4.wb (g3.wb wQy))))) (g7.wb (g6.wb (g5.wb (g4.wb (g3.wb wPw))))) (41) (by omega) (by omega) (by omega)) ?_
        rintro _ h8 ⟨p8, rfl, g8, wp8⟩
        have G8 := G7.trans g8
        refine g_callVO [aO (some p8)] [aO (some p7), aO (some p5), aO (some t4), aO (some t4)] rfl rfl rfl rfl (Nat.le_of_ble_eq_true rfl) (G8.cs.kd 1 (by omega) rfl) (s_neg (by omega) G8.ci wp8 (by omega)) ?_
        rintro _ h9 ⟨p9, rfl, g9, wp9⟩
        have G9 := G8.trans g9
        refine g_aload_n rfl rfl ?_
        refine g_getR rfl (G9.cs.kd 6 (by omega) rfl) (G9.cs.rf 5 (by omega) rfl) ?_
        refine g_aload_n rfl rfl ?_
        refine g_getR rfl (g9.tf (g8.tf (g7.tf (g6.tf (g5.tf (g4.tf (g3.tf fP))))))).1.2.2 (g9.tf (g8.tf (g7.tf (g6.tf (g5.tf (g4.tf (g3.tf fP))))))).2.1 ?_
        refine g_aload_n rfl rfl ?_
        refine g_getR rfl (g9.tf (g8.tf (g7.tf (g6.tf (g5.tf (g4.tf (g3.tf fQ))))))).1.2.2 (g9.tf (g8.tf (g7.tf (g6.tf (g5.tf (g4.tf (g3.tf fQ))))))).2.1 ?_
        refine g_aload_n rfl rfl ?_
        refine g_getR rfl (g9.tf (g8.tf (g7.tf (g6.tf (g5.tf (g4.tf (g3.tf fP))))))).1.2.2 (g9.tf (g8.tf (g7.tf (g6.tf (g5.tf (g4.tf (g3.tf fP))))))).2.2.1 ?_
        refine g_aload_n rfl rfl ?_
        refine g_getR rfl (g9.tf (g8.tf (g7.tf (g6.tf (g5.tf (g4.tf (g3.tf fQ))))))).1.2.2 (g9.tf (g8.tf (g7.tf (g6.tf (g5.tf (g4.tf (g3.tf fQ))))))).2.2.1 ?_
        refine g_callVO [aO (some Px), aO (some Qx), aO (some Py), aO (some Qy)] [aO (some p9), aO (some p7), aO (some p5), aO (some t4), aO (some t4)] rfl rfl rfl rfl (Nat.le_of_ble_eq_true rfl) (G9.cs.kd 1 (by omega) rfl) (s_added (by omega) G9.ci (g9.wb (g8.wb (g7.wb (g6.wb (g5.wb (g4.wb (g3.wb wPx))))))) (g9.wb (g8.wb (g7.wb (g6.wb (g5.wb (g4.wb (g3.wb wQx))))))) (g9.wb (g8.wb (g7.wb (g6.wb (g5.wb (g4.wb (g3.wb wPy))))))) (g9.wb (g8.wb (g7.wb (g6.wb (g5.wb (g4.wb (g3.wb wQy))))))) (41) (by omega) (by omega) (by omega)) ?_
        rintro _ h10 ⟨p10, rfl, g10, wp10⟩
        have G10 := G9.trans g10
        refine g_callIN [aO (some p5), aO (some p7), aO (some p9), aO (some p10)] [aO (some t4)] rfl (by decide) rfl rfl rfl (Nat.le_of_ble_eq_true rfl) (g10.ob (g9.ob (g8.ob (g7.ob (g6.ob (g5.ob ob4)))))).2.2 (k_Ring (by omega) (g10.ob (g9.ob (g8.ob (g7.ob (g6.ob (g5.ob ob4)))))).2.2 (g10.ob (g9.ob (g8.ob (g7.ob (g6.ob (g5.ob ob4)))))).1 p5 p7 p9 p10) ?_
        rintro _ rfl
        have c11 := ct4 (R := (P.2.2 * Q.2.2, -(P.1 * Q.2.2 + Q.1 * P.2.2), -(P.2.1 * Q.2.2 + Q.2.1 * P.2.2), P.1 * Q.1 + P.2.1 * Q.2.1)) (k := 41) G10 (g10.ob (g9.ob (g8.ob (g7.ob (g6.ob (g5.ob ob4)))))) (by have := G3.2.1.1; omega) ((g10.wb (g9.wb (g8.wb (g7.wb (g6.wb wp5))))).up (by omega)) ((g10.wb (g9.wb (g8.wb wp7))).up (by omega)) ((g10.wb wp9).up (by omega)) (wp10.up (by omega))
        obtain ⟨h11, eh11⟩ : ∃ hq9, hq9 = pt4 h10 t4 p5 p7 p9 p10 := ⟨_, rfl⟩
        refine g_hp (h2 := h11) (by rw [eh11]; rfl) ?_
        rw [← eh11] at c11
        have G11 := c11.1
        obtain ⟨q11k, q11a, q11b, q11e, f11, wq11k, wq11a, wq11b, wq11e⟩ := c11.2.1
        refine g_aret rfl ?_
        refine ⟨G11.mono (by omega), ?_⟩
        unfold p_over_O
        rw [if_neg (by omega)]
        exact ⟨t4, rfl, _, _, _, _, f11, (wq11k.up (by omega)), (wq11a.up (by omega)), (wq11b.up (by omega)), (wq11e.up (by omega))⟩
      · skip
        refine g_null rfl ?_
        refine g_aret rfl ?_
        refine ⟨G3.mono (by omega), ?_⟩
        unfold p_over_O
        rw [if_pos (by omega)]
        rfl
def p_ownSq_S (P : T3) : Int := P.1 * P.1 + P.2.1 * P.2.1
set_option maxHeartbeats 4000000 in
theorem p_ownSq {w : aW} {d : Nat} (hd : 4 ≤ d) {k : Nat} {h : aH} {c : Nat} (ci : CI h c) {aP : Nat} {P : T3} (tP : TB h c aP P (k))  (hk : k ≤ 190) : WP w d 71 [aO (some (c + 6)), aO (some aP)] h (RO (fun r h1 => ∃ p, r = some p ∧ Gr h h1 c 1 ∧ WB h1 c p (p_ownSq_S P) (2 * k + 1))) := by
  obtain ⟨d, rfl⟩ : ∃ d1, d = d1 + 1 := ⟨d - 1, by omega⟩
  refine WP.enter (cd := cd_X2_ownSquare) rfl ?_
  have G0 := Gr.refl ci
  obtain ⟨Px, Py, Pw, fP, wPx, wPy, wPw⟩ := tP
  have hls : largs 0 [aO (some (c + 6)), aO (some aP)] = [(0, aO (some (c + 6))), (1, aO (some aP))] := rfl
  rw [hls]
  clear hls
  refine g_aload_n rfl rfl ?_
  refine g_getR rfl (G0.cs.kd 6 (by omega) rfl) (G0.cs.rf 5 (by omega) rfl) ?_
  refine g_aload_n rfl rfl ?_
  refine g_getR rfl fP.1.2.2 fP.2.1 ?_
  refine g_aload_n rfl rfl ?_
  refine g_getR rfl fP.1.2.2 fP.2.1 ?_
  refine g_aload_n rfl rfl ?_
  refine g_getR rfl fP.1.2.2 fP.2.2.1 ?_
  refine g_aload_n rfl rfl ?_
  refine g_getR rfl fP.1.2.2 fP.2.2.1 ?_
  refine g_callVO [aO (some Px), aO (some Px), aO (some Py), aO (some Py)] [] rfl rfl rfl rfl (Nat.le_of_ble_eq_true rfl) (G0.cs.kd 1 (by omega) rfl) (s_added (by omega) G0.ci wPx wPx wPy wPy (2 * k + 1) (by omega) (by omega) (by omega)) ?_
  rintro _ h1 ⟨p1, rfl, g1, wp1⟩
  have G1 := G0.trans g1
  refine g_aret rfl ?_
  exact ⟨p1, rfl, G1.mono (by omega), (wp1.up (by omega))⟩
def p_thr_S (P : T3) (Q : T3) (R : T3) : T4 := (p_det_S ((P.1 * P.2.2, Q.1 * Q.2.2, R.1 * R.2.2)) ((P.2.1 * P.2.2, Q.2.1 * Q.2.2, R.2.1 * R.2.2)) ((P.2.2 * P.2.2, Q.2.2 * Q.2.2, R.2.2 * R.2.2)), p_det_S ((P.2.1 * P.2.2, Q.2.1 * Q.2.2, R.2.1 * R.2.2)) ((p_ownSq_S P, p_ownSq_S Q, p_ownSq_S R)) ((P.2.2 * P.2.2, Q.2.2 * Q.2.2, R.2.2 * R.2.2)), p_det_S ((p_ownSq_S P, p_ownSq_S Q, p_ownSq_S R)) ((P.1 * P.2.2, Q.1 * Q.2.2, R.1 * R.2.2)) ((P.2.2 * P.2.2, Q.2.2 * Q.2.2, R.2.2 * R.2.2)), p_det_S ((P.1 * P.2.2, Q.1 * Q.2.2, R.1 * R.2.2)) ((p_ownSq_S P, p_ownSq_S Q, p_ownSq_S R)) ((P.2.1 * P.2.2, Q.2.1 * Q.2.2, R.2.1 * R.2.2)))
def p_thr_O (P : T3) (Q : T3) (R : T3) : Option T4 := if P.2.2 = 0 ∨ Q.2.2 = 0 ∨ R.2.2 = 0 ∨ p_det_S P Q R = 0 then none else some (p_thr_S P Q R)
set_option maxHeartbeats 4000000 in
theorem p_thr {w : aW} {d : Nat} (hd : 5 ≤ d) {k : Nat} {h : aH} {c : Nat} (ci : CI h c) {aP : Nat} {P : T3} (tP : TB h c aP P (k)) {aQ : Nat} {Q : T3} (tQ : TB h c aQ Q (k)) {aR : Nat} {R : T3} (tR : TB h c aR R (k))  (hk : k ≤ 62) : WP w d 70 [aO (some (c + 6)), aO (some aP), aO (some aQ), aO (some aR)] h (RO (fun r h1 => Gr h h1 c 67 ∧ OQ h1 c r (p_thr_O P Q R) (8 * k + 8))) := by
  obtain ⟨d, rfl⟩ : ∃ d1, d = d1 + 1 := ⟨d - 1, by omega⟩
  refine WP.enter (cd := cd_X2_ringThrough) rfl ?_
  have G0 := Gr.refl ci
  obtain ⟨Px, Py, Pw, fP, wPx, wPy, wPw⟩ := tP
  obtain ⟨Qx, Qy, Qw, fQ, wQx, wQy, wQw⟩ := tQ
  obtain ⟨Rx, Ry, Rw, fR, wRx, wRy, wRw⟩ := tR
  have hls : largs 0 [aO (some (c + 6)), aO (some aP), aO (some aQ), aO (some aR)] = [(0, aO (some (c + 6))), (1, aO (some aP)), (2, aO (some aQ)), (3, aO (some aR))] := rfl
  rw [hls]
  clear hls
  refine g_aload_n rfl rfl ?_
  refine g_ifnull_f rfl ?_
  refine g_aload_n rfl rfl ?_
  refine g_ifnull_f rfl ?_
  refine g_aload_n rfl rfl ?_
  refine g_ifnull_f rfl ?_
  refine g_aload_n rfl rfl ?_
  refine g_aload_n rfl rfl ?_
  refine g_aload_n rfl rfl ?_
  refine g_aload_n rfl rfl ?_
  refine g_callVI [aO (some aP), aO (some aQ), aO (some aR)] [] rfl rfl rfl rfl (Nat.le_of_ble_eq_true rfl) (G0.cs.kd 6 (by omega) rfl) (p_isOneFar (by omega) G0.ci (show TB h c aP P (k) from ⟨_, _, _, fP, (wPx.up (by omega)), (wPy.up (by omega)), (wPw.up (by omega))⟩) (show TB h c aQ Q (k) from ⟨_, _, _, fQ, (wQx.up (by omega)), (wQy.up (by omega)), (wQw.up (by omega))⟩) (show TB h c aR R (k) from ⟨_, _, _, fR, (wRx.up (by omega)), (wRy.up (by omega)), (wRw.up (by omega))⟩)) ?_
  rintro _ hx1 ⟨ehx1, rfl⟩
  rw [ehx1]
  clear ehx1 hx1
  refine g_b_ne rfl (fun c19 => ?_) (fun c19 => ?_)
  · skip
    refine g_null rfl ?_
    refine g_aret rfl ?_
    refine ⟨G0.mono (by omega), ?_⟩
    unfold p_thr_O
    rw [if_pos (by omega)]
    rfl
  · skip
    refine g_aload_n rfl rfl ?_
    refine g_getR rfl (G0.cs.kd 6 (by omega) rfl) (G0.cs.rf 5 (by omega) rfl) ?_
    refine g_aload_n rfl rfl ?_
    refine g_aload_n rfl rfl ?_
    refine g_aload_n rfl rfl ?_
    refine g_aload_n rfl rfl ?_
    refine g_callVO [aO (some aP), aO (some aQ), aO (some aR)] [aO (some (c + 1))] rfl rfl rfl rfl (Nat.le_of_ble_eq_true rfl) (G0.cs.kd 6 (by omega) rfl) (p_det (by omega) G0.ci (show TB h c aP P (k) from ⟨_, _, _, fP, (wPx.up (by omega)), (wPy.up (by omega)), (wPw.up (by omega))⟩) (show TB h c aQ Q (k) from ⟨_, _, _, fQ, (wQx.up (by omega)), (wQy.up (by omega)), (wQw.up (by omega))⟩) (show TB h c aR R (k) from ⟨_, _, _, fR, (wRx.up (by omega)), (wRy.up (by omega)), (wRw.up (by omega))⟩) (by omega)) ?_
    rintro _ h2 ⟨p2, rfl, g2, wp2⟩
    have G2 := G0.trans g2
    refine g_callVI [aO (some p2)] [] rfl rfl rfl rfl (Nat.le_of_ble_eq_true rfl) (G2.cs.kd 1 (by omega) rfl) (s_isZero (by omega) G2.ci wp2) ?_
    rintro _ hx3 ⟨ehx3, rfl⟩
    rw [ehx3]
    clear ehx3 hx3
    refine g_b_eq rfl (fun c36 => ?_) (fun c36 => ?_)
    · skip
      refine g_new rfl ?_
      obtain ⟨g4, ob4⟩ := Gr.mk (k := 19) (m := 3) G2.ci (by decide) (by decide)
      obtain ⟨t4, et4⟩ : ∃ t, t = hz h2 := ⟨_, rfl⟩
      obtain ⟨h4, eh4⟩ : ∃ hq9, hq9 = hnew h2 19 3 := ⟨_, rfl⟩
      rw [← eh4, ← et4] at ob4
      rw [← eh4] at g4
      refine g_hp (h2 := h4) eh4.symm ?_
      refine g_top (v2 := aO (some t4)) (by rw [et4]) ?_
      have G4 := G2.trans g4
      refine g_dup rfl rfl ?_
      refine g_aload_n rfl rfl ?_
      refine g_aload_n rfl rfl ?_
      refine g_callVO [aO (some aP)] [aO (some t4), aO (some t4)] rfl rfl rfl rfl (Nat.le_of_ble_eq_true rfl) (G4.cs.kd 6 (by omega) rfl) (p_ownSq (by omega) G4.ci (show TB h4 c aP P (k) from ⟨_, _, _, (g4.tf (g2.tf fP)), ((g4.wb (g2.wb wPx)).up (by omega)), ((g4.wb (g2.wb wPy)).up (by omega)), ((g4.wb (g2.wb wPw)).up (by omega))⟩) (by omega)) ?_
      rintro _ h5 ⟨p5, rfl, g5, wp5⟩
      have G5 := G4.trans g5
      refine g_aload_n rfl rfl ?_
      refine g_aload_n rfl rfl ?_
      refine g_callVO [aO (some aQ)] [aO (some p5), aO (some t4), aO (some t4)] rfl rfl rfl rfl (Nat.le_of_ble_eq_true rfl) (G5.cs.kd 6 (by omega) rfl) (p_ownSq (by omega) G5.ci (show TB h5 c aQ Q (k) from ⟨_, _, _, (g5.tf (g4.tf (g2.tf fQ))), ((g5.wb (g4.wb (g2.wb wQx))).up (by omega)), ((g5.wb (g4.wb (g2.wb wQy))).up (by omega)), ((g5.wb (g4.wb (g2.wb wQw))).up (by omega))⟩) (by omega)) ?_
      rintro _ h6 ⟨p6, rfl, g6, wp6⟩
      have G6 := G5.trans g6
      refine g_aload_n rfl rfl ?_
      refine g_aload_n rfl rfl ?_
      refine g_callVO [aO (some aR)] [aO (some p6), aO (some p5), aO (some t4), aO (some t4)] rfl rfl rfl rfl (Nat.le_of_ble_eq_true rfl) (G6.cs.kd 6 (by omega) rfl) (p_ownSq (by omega) G6.ci (show TB h6 c aR R (k) from ⟨_, _, _, (g6.tf (g5.tf (g4.tf (g2.tf fR)))), ((g6.wb (g5.wb (g4.wb (g2.wb wRx)))).up (by omega)), ((g6.wb (g5.wb (g4.wb (g2.wb wRy)))).up (by omega)), ((g6.wb (g5.wb (g4.wb (g2.wb wRw)))).up (by omega))⟩) (by omega)) ?_
      rintro _ h7 ⟨p7, rfl, g7, wp7⟩
      have G7 := G6.trans g7
      refine g_callIN [aO (some p5), aO (some p6), aO (some p7)] [aO (some t4)] rfl (by decide) rfl rfl rfl (Nat.le_of_ble_eq_true rfl) (g7.ob (g6.ob (g5.ob ob4))).2.2 (k_Triple (by omega) (g7.ob (g6.ob (g5.ob ob4))).2.2 (g7.ob (g6.ob (g5.ob ob4))).1 p5 p6 p7) ?_
      rintro _ rfl
      have c8 := ct3 (P := (p_ownSq_S P, p_ownSq_S Q, p_ownSq_S R)) (k := 2 * k + 1) G7 (g7.ob (g6.ob (g5.ob ob4))) (by have := G2.2.1.1; omega) ((g7.wb (g6.wb wp5)).up (by omega)) ((g7.wb wp6).up (by omega)) (wp7.up (by omega))
      have faP_8 := c8.2.2.2.1 _ _ _ _ (by have := (g2.tf fP).1.1; omega) (g7.tf (g6.tf (g5.tf (g4.tf (g2.tf fP)))))
      have faQ_8 := c8.2.2.2.1 _ _ _ _ (by have := (g2.tf fQ).1.1; omega) (g7.tf (g6.tf (g5.tf (g4.tf (g2.tf fQ)))))
      have faR_8 := c8.2.2.2.1 _ _ _ _ (by have := (g2.tf fR).1.1; omega) (g7.tf (g6.tf (g5.tf (g4.tf (g2.tf fR)))))
      obtain ⟨h8, eh8⟩ : ∃ hq9, hq9 = pt3 h7 t4 p5 p6 p7 := ⟨_, rfl⟩
      refine g_hp (h2 := h8) (by rw [eh8]; rfl) ?_
      rw [← eh8] at c8 faP_8 faQ_8 faR_8
      have G8 := c8.1
      obtain ⟨q8x, q8y, q8w, f8, wq8x, wq8y, wq8w⟩ := c8.2.1
      refine g_astore (l1 := [(4, aO (some t4)), (0, aO (some (c + 6))), (1, aO (some aP)), (2, aO (some aQ)), (3, aO (some aR))]) rfl rfl ?_
      refine g_new rfl ?_
      obtain ⟨g9, ob9⟩ := Gr.mk (k := 19) (m := 3) G8.ci (by decide) (by decide)
      obtain ⟨t9, et9⟩ : ∃ t, t = hz h8 := ⟨_, rfl⟩
      obtain ⟨h9, eh9⟩ : ∃ hq9, hq9 = hnew h8 19 3 := ⟨_, rfl⟩
      rw [← eh9, ← et9] at ob9
      rw [← eh9] at g9
      refine g_hp (h2 := h9) eh9.symm ?_
      refine g_top (v2 := aO (some t9)) (by rw [et9]) ?_
      have G9 := G8.trans g9
      refine g_dup rfl rfl ?_
      refine g_aload_n rfl rfl ?_
      refine g_getR rfl (G9.cs.kd 6 (by omega) rfl) (G9.cs.rf 5 (by omega) rfl) ?_
      refine g_aload_n rfl rfl ?_
      refine g_getR rfl (g9.tf faP_8).1.2.2 (g9.tf faP_8).2.1 ?_
      refine g_aload_n rfl rfl ?_
      refine g_getR rfl (g9.tf faP_8).1.2.2 (g9.tf faP_8).2.2.2 ?_
      refine g_callVO [aO (some Px), aO (some Pw)] [aO (some t9), aO (some t9)] rfl rfl rfl rfl (Nat.le_of_ble_eq_true rfl) (G9.cs.kd 1 (by omega) rfl) (s_times (by omega) G9.ci (g9.wb (c8.2.2.1 _ _ _ (g7.wb (g6.wb (g5.wb (g4.wb (g2.wb wPx))))))) (g9.wb (c8.2.2.1 _ _ _ (g7.wb (g6.wb (g5.wb (g4.wb (g2.wb wPw))))))) (by omega)) ?_
      rintro _ h10 ⟨p10, rfl, g10, wp10⟩
      have G10 := G9.trans g10
      refine g_aload_n rfl rfl ?_
      refine g_getR rfl (G10.cs.kd 6 (by omega) rfl) (G10.cs.rf 5 (by omega) rfl) ?_
      refine g_aload_n rfl rfl ?_
      refine g_getR rfl (g10.tf (g9.tf faQ_8)).1.2.2 (g10.tf (g9.tf faQ_8)).2.1 ?_
      refine g_aload_n rfl rfl ?_
      refine g_getR rfl (g10.tf (g9.tf faQ_8)).1.2.2 (g10.tf (g9.tf faQ_8)).2.2.2 ?_
      refine g_callVO [aO (some Qx), aO (some Qw)] [aO (some p10), aO (some t9), aO (some t9)] rfl rfl rfl rfl (Nat.le_of_ble_eq_true rfl) (G10.cs.kd 1 (by omega) rfl) (s_times (by omega) G10.ci (g10.wb (g9.wb (c8.2.2.1 _ _ _ (g7.wb (g6.wb (g5.wb (g4.wb (g2.wb wQx)))))))) (g10.wb (g9.wb (c8.2.2.1 _ _ _ (g7.wb (g6.wb (g5.wb (g4.wb (g2.wb wQw)))))))) (by omega)) ?_
      rintro _ h11 ⟨p11, rfl, g11, wp11⟩
      have G11 := G10.trans g11
      refine g_aload_n rfl rfl ?_
      refine g_getR rfl (G11.cs.kd 6 (by omega) rfl) (G11.cs.rf 5 (by omega) rfl) ?_
      refine g_aload_n rfl rfl ?_
      refine g_getR rfl (g11.tf (g10.tf (g9.tf faR_8))).1.2.2 (g11.tf (g10.tf (g9.tf faR_8))).2.1 ?_
      refine g_aload_n rfl rfl ?_
      refine g_getR rfl (g11.tf (g10.tf (g9.tf faR_8))).1.2.2 (g11.tf (g10.tf (g9.tf faR_8))).2.2.2 ?_
      refine g_callVO [aO (some Rx), aO (some Rw)] [aO (some p11), aO (some p10), aO (some t9), aO (some t9)] rfl rfl rfl rfl (Nat.le_of_ble_eq_true rfl) (G11.cs.kd 1 (by omega) rfl) (s_times (by omega) G11.ci (g11.wb (g10.wb (g9.wb (c8.2.2.1 _ _ _ (g7.wb (g6.wb (g5.wb (g4.wb (g2.wb wRx))))))))) (g11.wb (g10.wb (g9.wb (c8.2.2.1 _ _ _ (g7.wb (g6.wb (g5.wb (g4.wb (g2.wb wRw))))))))) (by omega)) ?_
      rintro _ h12 ⟨p12, rfl, g12, wp12⟩
      have G12 := G11.trans g12
      refine g_callIN [aO (some p10), aO (some p11), aO (some p12)] [aO (some t9)] rfl (by decide) rfl rfl rfl (Nat.le_of_ble_eq_true rfl) (g12.ob (g11.ob (g10.ob ob9))).2.2 (k_Triple (by omega) (g12.ob (g11.ob (g10.ob ob9))).2.2 (g12.ob (g11.ob (g10.ob ob9))).1 p10 p11 p12) ?_
      rintro _ rfl
      have c13 := ct3 (P := (P.1 * P.2.2, Q.1 * Q.2.2, R.1 * R.2.2)) (k := 2 * k) G12 (g12.ob (g11.ob (g10.ob ob9))) (by have := G8.2.1.1; omega) ((g12.wb (g11.wb wp10)).up (by omega)) ((g12.wb wp11).up (by omega)) (wp12.up (by omega))
      have faP_13 := c13.2.2.2.1 _ _ _ _ (by have := faP_8.1.1; omega) (g12.tf (g11.tf (g10.tf (g9.tf faP_8))))
      have faQ_13 := c13.2.2.2.1 _ _ _ _ (by have := faQ_8.1.1; omega) (g12.tf (g11.tf (g10.tf (g9.tf faQ_8))))
      have faR_13 := c13.2.2.2.1 _ _ _ _ (by have := faR_8.1.1; omega) (g12.tf (g11.tf (g10.tf (g9.tf faR_8))))
      have ft4_13 := c13.2.2.2.1 _ _ _ _ (by have := f8.1.1; omega) (g12.tf (g11.tf (g10.tf (g9.tf f8))))
      obtain ⟨h13, eh13⟩ : ∃ hq9, hq9 = pt3 h12 t9 p10 p11 p12 := ⟨_, rfl⟩
      refine g_hp (h2 := h13) (by rw [eh13]; rfl) ?_
      rw [← eh13] at c13 faP_13 faQ_13 faR_13 ft4_13
      have G13 := c13.1
      obtain ⟨q13x, q13y, q13w, f13, wq13x, wq13y, wq13w⟩ := c13.2.1
      refine g_astore (l1 := [(5, aO (some t9)), (4, aO (some t4)), (0, aO (some (c + 6))), (1, aO (some aP)), (2, aO (some aQ)), (3, aO (some aR))]) rfl rfl ?_
      refine g_new rfl ?_
      obtain ⟨g14, ob14⟩ := Gr.mk (k := 19) (m := 3) G13.ci (by decide) (by decide)
      obtain ⟨t14, et14⟩ : ∃ t, t = hz h13 := ⟨_, rfl⟩
      obtain ⟨h14, eh14⟩ : ∃ hq9, hq9 = hnew h13 19 3 := ⟨_, rfl⟩
      rw [← eh14, ← et14] at ob14
      rw [← eh14] at g14
      refine g_hp (h2 := h14) eh14.symm ?_
      refine g_top (v2 := aO (some t14)) (by rw [et14]) ?_
      have G14 := G13.trans g14
      refine g_dup rfl rfl ?_
      refine g_aload_n rfl rfl ?_
      refine g_getR rfl (G14.cs.kd 6 (by omega) rfl) (G14.cs.rf 5 (by omega) rfl) ?_
      refine g_aload_n rfl rfl ?_
      refine g_getR rfl (g14.tf faP_13).1.2.2 (g14.tf faP_13).2.2.1 ?_
      refine g_aload_n rfl rfl ?_
      refine g_getR rfl (g14.tf faP_13).1.2.2 (g14.tf faP_13).2.2.2 ?_
      refine g_callVO [aO (some Py), aO (some Pw)] [aO (some t14), aO (some t14)] rfl rfl rfl rfl (Nat.le_of_ble_eq_true rfl) (G14.cs.kd 1 (by omega) rfl) (s_times (by omega) G14.ci (g14.wb (c13.2.2.1 _ _ _ (g12.wb (g11.wb (g10.wb (g9.wb (c8.2.2.1 _ _ _ (g7.wb (g6.wb (g5.wb (g4.wb (g2.wb wPy)))))))))))) (g14.wb (c13.2.2.1 _ _ _ (g12.wb (g11.wb (g10.wb (g9.wb (c8.2.2.1 _ _ _ (g7.wb (g6.wb (g5.wb (g4.wb (g2.wb wPw)))))))))))) (by omega)) ?_
      rintro _ h15 ⟨p15, rfl, g15, wp15⟩
      have G15 := G14.trans g15
      refine g_aload_n rfl rfl ?_
      refine g_getR rfl (G15.cs.kd 6 (by omega) rfl) (G15.cs.rf 5 (by omega) rfl) ?_
      refine g_aload_n rfl rfl ?_
      refine g_getR rfl (g15.tf (g14.tf faQ_13)).1.2.2 (g15.tf (g14.tf faQ_13)).2.2.1 ?_
      refine g_aload_n rfl rfl ?_
      refine g_getR rfl (g15.tf (g14.tf faQ_13)).1.2.2 (g15.tf (g14.tf faQ_13)).2.2.2 ?_
      refine g_callVO [aO (some Qy), aO (some Qw)] [aO (some p15), aO (some t14), aO (some t14)] rfl rfl rfl rfl (Nat.le_of_ble_eq_true rfl) (G15.cs.kd 1 (by omega) rfl) (s_times (by omega) G15.ci (g15.wb (g14.wb (c13.2.2.1 _ _ _ (g12.wb (g11.wb (g10.wb (g9.wb (c8.2.2.1 _ _ _ (g7.wb (g6.wb (g5.wb (g4.wb (g2.wb wQy))))))))))))) (g15.wb (g14.wb (c13.2.2.1 _ _ _ (g12.wb (g11.wb (g10.wb (g9.wb (c8.2.2.1 _ _ _ (g7.wb (g6.wb (g5.wb (g4.wb (g2.wb wQw))))))))))))) (by omega)) ?_
      rintro _ h16 ⟨p16, rfl, g16, wp16⟩
      have G16 := G15.trans g16
      refine g_aload_n rfl rfl ?_
      refine g_getR rfl (G16.cs.kd 6 (by omega) rfl) (G16.cs.rf 5 (by omega) rfl) ?_
      refine g_aload_n rfl rfl ?_
      refine g_getR rfl (g16.tf (g15.tf (g14.tf faR_13))).1.2.2 (g16.tf (g15.tf (g14.tf faR_13))).2.2.1 ?_
      refine g_aload_n rfl rfl ?_
      refine g_getR rfl (g16.tf (g15.tf (g14.tf faR_13))).1.2.2 (g16.tf (g15.tf (g14.tf faR_13))).2.2.2 ?_
      refine g_callVO [aO (some Ry), aO (some Rw)] [aO (some p16), aO (some p15), aO (some t14), aO (some t14)] rfl rfl rfl rfl (Nat.le_of_ble_eq_true rfl) (G16.cs.kd 1 (by omega) rfl) (s_times (by omega) G16.ci (g16.wb (g15.wb (g14.wb (c13.2.2.1 _ _ _ (g12.wb (g11.wb (g10.wb (g9.wb (c8.2.2.1 _ _ _ (g7.wb (g6.wb (g5.wb (g4.wb (g2.wb wRy)))))))))))))) (g16.wb (g15.wb (g14.wb (c13.2.2.1 _ _ _ (g12.wb (g11.wb (g10.wb (g9.wb (c8.2.2.1 _ _ _ (g7.wb (g6.wb (g5.wb (g4.wb (g2.wb wRw)))))))))))))) (by omega)) ?_
      rintro _ h17 ⟨p17, rfl, g17, wp17⟩
      have G17 := G16.trans g17
      refine g_callIN [aO (some p15), aO (some p16), aO (some p17)] [aO (some t14)] rfl (by decide) rfl rfl rfl (Nat.le_of_ble_eq_true rfl) (g17.ob (g16.ob (g15.ob ob14))).2.2 (k_Triple (by omega) (g17.ob (g16.ob (g15.ob ob14))).2.2 (g17.ob (g16.ob (g15.ob ob14))).1 p15 p16 p17) ?_
      rintro _ rfl
      have c18 := ct3 (P := (P.2.1 * P.2.2, Q.2.1 * Q.2.2, R.2.1 * R.2.2)) (k := 2 * k) G17 (g17.ob (g16.ob (g15.ob ob14))) (by have := G13.2.1.1; omega) ((g17.wb (g16.wb wp15)).up (by omega)) ((g17.wb wp16).up (by omega)) (wp17.up (by omega))
      have faP_18 := c18.2.2.2.1 _ _ _ _ (by have := faP_13.1.1; omega) (g17.tf (g16.tf (g15.tf (g14.tf faP_13))))
      have faQ_18 := c18.2.2.2.1 _ _ _ _ (by have := faQ_13.1.1; omega) (g17.tf (g16.tf (g15.tf (g14.tf faQ_13))))
      have faR_18 := c18.2.2.2.1 _ _ _ _ (by have := faR_13.1.1; omega) (g17.tf (g16.tf (g15.tf (g14.tf faR_13))))
      have ft4_18 := c18.2.2.2.1 _ _ _ _ (by have := ft4_13.1.1; omega) (g17.tf (g16.tf (g15.tf (g14.tf ft4_13))))
      have ft9_18 := c18.2.2.2.1 _ _ _ _ (by have := f13.1.1; omega) (g17.tf (g16.tf (g15.tf (g14.tf f13))))
      obtain ⟨h18, eh18⟩ : ∃ hq9, hq9 = pt3 h17 t14 p15 p16 p17 := ⟨_, rfl⟩
      refine g_hp (h2 := h18) (by rw [eh18]; rfl) ?_
      rw [← eh18] at c18 faP_18 faQ_18 faR_18 ft4_18 ft9_18
      have G18 := c18.1
      obtain ⟨q18x, q18y, q18w, f18, wq18x, wq18y, wq18w⟩ := c18.2.1
      refine g_astore (l1 := [(6, aO (some t14)), (5, aO (some t9)), (4, aO (some t4)), (0, aO (some (c + 6))), (1, aO (some aP)), (2, aO (some aQ)), (3, aO (some aR))]) rfl rfl ?_
      refine g_new rfl ?_
      obtain ⟨g19, ob19⟩ := Gr.mk (k := 19) (m := 3) G18.ci (by decide) (by decide)
      obtain ⟨t19, et19⟩ : ∃ t, t = hz h18 := ⟨_, rfl⟩
      obtain ⟨h19, eh19⟩ : ∃ hq9, hq9 = hnew h18 19 3 := ⟨_, rfl⟩
      rw [← eh19, ← et19] at ob19
      rw [← eh19] at g19
      refine g_hp (h2 := h19) eh19.symm ?_
      refine g_top (v2 := aO (some t19)) (by rw [et19]) ?_
      have G19 := G18.trans g19
      refine g_dup rfl rfl ?_
      refine g_aload_n rfl rfl ?_
      refine g_getR rfl (G19.cs.kd 6 (by omega) rfl) (G19.cs.rf 5 (by omega) rfl) ?_
      refine g_aload_n rfl rfl ?_
      refine g_getR rfl (g19.tf faP_18).1.2.2 (g19.tf faP_18).2.2.2 ?_
      refine g_aload_n rfl rfl ?_
      refine g_getR rfl (g19.tf faP_18).1.2.2 (g19.tf faP_18).2.2.2 ?_
      refine g_callVO [aO (some Pw), aO (some Pw)] [aO (some t19), aO (some t19)] rfl rfl rfl rfl (Nat.le_of_ble_eq_true rfl) (G19.cs.kd 1 (by omega) rfl) (s_times (by omega) G19.ci (g19.wb (c18.2.2.1 _ _ _ (g17.wb (g16.wb (g15.wb (g14.wb (c13.2.2.1 _ _ _ (g12.wb (g11.wb (g10.wb (g9.wb (c8.2.2.1 _ _ _ (g7.wb (g6.wb (g5.wb (g4.wb (g2.wb wPw))))))))))))))))) (g19.wb (c18.2.2.1 _ _ _ (g17.wb (g16.wb (g15.wb (g14.wb (c13.2.2.1 _ _ _ (g12.wb (g11.wb (g10.wb (g9.wb (c8.2.2.1 _ _ _ (g7.wb (g6.wb (g5.wb (g4.wb (g2.wb wPw))))))))))))))))) (by omega)) ?_
      rintro _ h20 ⟨p20, rfl, g20, wp20⟩
      have G20 := G19.trans g20
      refine g_aload_n rfl rfl ?_
      refine g_getR rfl (G20.cs.kd 6 (by omega) rfl) (G20.cs.rf 5 (by omega) rfl) ?_
      refine g_aload_n rfl rfl ?_
      refine g_getR rfl (g20.tf (g19.tf faQ_18)).1.2.2 (g20.tf (g19.tf faQ_18)).2.2.2 ?_
      refine g_aload_n rfl rfl ?_
      refine g_getR rfl (g20.tf (g19.tf faQ_18)).1.2.2 (g20.tf (g19.tf faQ_18)).2.2.2 ?_
      refine g_callVO [aO (some Qw), aO (some Qw)] [aO (some p20), aO (some t19), aO (some t19)] rfl rfl rfl rfl (Nat.le_of_ble_eq_true rfl) (G20.cs.kd 1 (by omega) rfl) (s_times (by omega) G20.ci (g20.wb (g19.wb (c18.2.2.1 _ _ _ (g17.wb (g16.wb (g15.wb (g14.wb (c13.2.2.1 _ _ _ (g12.wb (g11.wb (g10.wb (g9.wb (c8.2.2.1 _ _ _ (g7.wb (g6.wb (g5.wb (g4.wb (g2.wb wQw)))))))))))))))))) (g20.wb (g19.wb (c18.2.2.1 _ _ _ (g17.wb (g16.wb (g15.wb (g14.wb (c13.2.2.1 _ _ _ (g12.wb (g11.wb (g10.wb (g9.wb (c8.2.2.1 _ _ _ (g7.wb (g6.wb (g5.wb (g4.wb (g2.wb wQw)))))))))))))))))) (by omega)) ?_
      rintro _ h21 ⟨p21, rfl, g21, wp21⟩
      have G21 := G20.trans g21
      refine g_aload_n rfl rfl ?_
      refine g_getR rfl (G21.cs.kd 6 (by omega) rfl) (G21.cs.rf 5 (by omega) rfl) ?_
      refine g_aload_n rfl rfl ?_
      refine g_getR rfl (g21.tf (g20.tf (g19.tf faR_18))).1.2.2 (g21.tf (g20.tf (g19.tf faR_18))).2.2.2 ?_
      refine g_aload_n rfl rfl ?_
      refine g_getR rfl (g21.tf (g20.tf (g19.tf faR_18))).1.2.2 (g21.tf (g20.tf (g19.tf faR_18))).2.2.2 ?_
      refine g_callVO [aO (some Rw), aO (some Rw)] [aO (some p21), aO (some p20), aO (some t19), aO (some t19)] rfl rfl rfl rfl (Nat.le_of_ble_eq_true rfl) (G21.cs.kd 1 (by omega) rfl) (s_times (by omega) G21.ci (g21.wb (g20.wb (g19.wb (c18.2.2.1 _ _ _ (g17.wb (g16.wb (g15.wb (g14.wb (c13.2.2.1 _ _ _ (g12.wb (g11.wb (g10.wb (g9.wb (c8.2.2.1 _ _ _ (g7.wb (g6.wb (g5.wb (g4.wb (g2.wb wRw))))))))))))))))))) (g21.wb (g20.wb (g19.wb (c18.2.2.1 _ _ _ (g17.wb (g16.wb (g15.wb (g14.wb (c13.2.2.1 _ _ _ (g12.wb (g11.wb (g10.wb (g9.wb (c8.2.2.1 _ _ _ (g7.wb (g6.wb (g5.wb (g4.wb (g2.wb wRw))))))))))))))))))) (by omega)) ?_
      rintro _ h22 ⟨p22, rfl, g22, wp22⟩
      have G22 := G21.trans g22
      refine g_callIN [aO (some p20), aO (some p21), aO (some p22)] [aO (some t19)] rfl (by decide) rfl rfl rfl (Nat.le_of_ble_eq_true rfl) (g22.ob (g21.ob (g20.ob ob19))).2.2 (k_Triple (by omega) (g22.ob (g21.ob (g20.ob ob19))).2.2 (g22.ob (g21.ob (g20.ob ob19))).1 p20 p21 p22) ?_
      rintro _ rfl
      have c23 := ct3 (P := (P.2.2 * P.2.2, Q.2.2 * Q.2.2, R.2.2 * R.2.2)) (k := 2 * k) G22 (g22.ob (g21.ob (g20.ob ob19))) (by have := G18.2.1.1; omega) ((g22.wb (g21.wb wp20)).up (by omega)) ((g22.wb wp21).up (by omega)) (wp22.up (by omega))
      have faP_23 := c23.2.2.2.1 _ _ _ _ (by have := faP_18.1.1; omega) (g22.tf (g21.tf (g20.tf (g19.tf faP_18))))
      have faQ_23 := c23.2.2.2.1 _ _ _ _ (by have := faQ_18.1.1; omega) (g22.tf (g21.tf (g20.tf (g19.tf faQ_18))))
      have faR_23 := c23.2.2.2.1 _ _ _ _ (by have := faR_18.1.1; omega) (g22.tf (g21.tf (g20.tf (g19.tf faR_18))))
      have ft4_23 := c23.2.2.2.1 _ _ _ _ (by have := ft4_18.1.1; omega) (g22.tf (g21.tf (g20.tf (g19.tf ft4_18))))
      have ft9_23 := c23.2.2.2.1 _ _ _ _ (by have := ft9_18.1.1; omega) (g22.tf (g21.tf (g20.tf (g19.tf ft9_18))))
      have ft14_23 := c23.2.2.2.1 _ _ _ _ (by have := f18.1.1; omega) (g22.tf (g21.tf (g20.tf (g19.tf f18))))
      obtain ⟨h23, eh23⟩ : ∃ hq9, hq9 = pt3 h22 t19 p20 p21 p22 := ⟨_, rfl⟩
      refine g_hp (h2 := h23) (by rw [eh23]; rfl) ?_
      rw [← eh23] at c23 faP_23 faQ_23 faR_23 ft4_23 ft9_23 ft14_23
      have G23 := c23.1
      obtain ⟨q23x, q23y, q23w, f23, wq23x, wq23y, wq23w⟩ := c23.2.1
      refine g_astore (l1 := [(7, aO (some t19)), (6, aO (some t14)), (5, aO (some t9)), (4, aO (some t4)), (0, aO (some (c + 6))), (1, aO (some aP)), (2, aO (some aQ)), (3, aO (some aR))]) rfl rfl ?_
      refine g_new rfl ?_
      obtain ⟨g24, ob24⟩ := Gr.mk (k := 15) (m := 4) G23.ci (by decide) (by decide)
      obtain ⟨t24, et24⟩ : ∃ t, t = hz h23 := ⟨_, rfl⟩
      obtain ⟨h24, eh24⟩ : ∃ hq9, hq9 = hnew h23 15 4 := ⟨_, rfl⟩
      rw [← eh24, ← et24] at ob24
      rw [← eh24] at g24
      refine g_hp (h2 := h24) eh24.symm ?_
      refine g_top (v2 := aO (some t24)) (by rw [et24]) ?_
      have G24 := G23.trans g24
      refine g_dup rfl rfl ?_
      refine g_aload_n rfl rfl ?_
      refine g_aload rfl rfl ?_
      refine g_aload rfl rfl ?_
      refine g_aload rfl rfl ?_
      refine g_callVO [aO (some t9), aO (some t14), aO (some t19)] [aO (some t24), aO (some t24)] rfl rfl rfl rfl (Nat.le_of_ble_eq_true rfl) (G24.cs.kd 6 (by omega) rfl) (p_det (by omega) G24.ci (show TB h24 c t9 ((P.1 * P.2.2, Q.1 * Q.2.2, R.1 * R.2.2)) (2 * k) from ⟨_, _, _, (g24.tf ft9_23), ((g24.wb (c23.2.2.1 _ _ _ (g22.wb (g21.wb (g20.wb (g19.wb (c18.2.2.1 _ _ _ (g17.wb (g16.wb (g15.wb (g14.wb wq13x))))))))))).up (by omega)), ((g24.wb (c23.2.2.1 _ _ _ (g22.wb (g21.wb (g20.wb (g19.wb (c18.2.2.1 _ _ _ (g17.wb (g16.wb (g15.wb (g14.wb wq13y))))))))))).up (by omega)), ((g24.wb (c23.2.2.1 _ _ _ (g22.wb (g21.wb (g20.wb (g19.wb (c18.2.2.1 _ _ _ (g17.wb (g16.wb (g15.wb (g14.wb wq13w))))))))))).up (by omega))⟩) (show TB h24 c t14 ((P.2.1 * P.2.2, Q.2.1 * Q.2.2, R.2.1 * R.2.2)) (2 * k) from ⟨_, _, _, (g24.tf ft14_23), ((g24.wb (c23.2.2.1 _ _ _ (g22.wb (g21.wb (g20.wb (g19.wb wq18x)))))).up (by omega)), ((g24.wb (c23.2.2.1 _ _ _ (g22.wb (g21.wb (g20.wb (g19.wb wq18y)))))).up (by omega)), ((g24.wb (c23.2.2.1 _ _ _ (g22.wb (g21.wb (g20.wb (g19.wb wq18w)))))).up (by omega))⟩) (show TB h24 c t19 ((P.2.2 * P.2.2, Q.2.2 * Q.2.2, R.2.2 * R.2.2)) (2 * k) from ⟨_, _, _, (g24.tf f23), ((g24.wb wq23x).up (by omega)), ((g24.wb wq23y).up (by omega)), ((g24.wb wq23w).up (by omega))⟩) (by omega)) ?_
      rintro _ h25 ⟨p25, rfl, g25, wp25⟩
      have G25 := G24.trans g25
      refine g_aload_n rfl rfl ?_
      refine g_aload rfl rfl ?_
      refine g_aload rfl rfl ?_
      refine g_aload rfl rfl ?_
      refine g_callVO [aO (some t14), aO (some t4), aO (some t19)] [aO (some p25), aO (some t24), aO (some t24)] rfl rfl rfl rfl (Nat.le_of_ble_eq_true rfl) (G25.cs.kd 6 (by omega) rfl) (p_det (by omega) G25.ci (show TB h25 c t14 ((P.2.1 * P.2.2, Q.2.1 * Q.2.2, R.2.1 * R.2.2)) (2 * k + 1) from ⟨_, _, _, (g25.tf (g24.tf ft14_23)), ((g25.wb (g24.wb (c23.2.2.1 _ _ _ (g22.wb (g21.wb (g20.wb (g19.wb wq18x))))))).up (by omega)), ((g25.wb (g24.wb (c23.2.2.1 _ _ _ (g22.wb (g21.wb (g20.wb (g19.wb wq18y))))))).up (by omega)), ((g25.wb (g24.wb (c23.2.2.1 _ _ _ (g22.wb (g21.wb (g20.wb (g19.wb wq18w))))))).up (by omega))⟩) (show TB h25 c t4 ((p_ownSq_S P, p_ownSq_S Q, p_ownSq_S R)) (2 * k + 1) from ⟨_, _, _, (g25.tf (g24.tf ft4_23)), ((g25.wb (g24.wb (c23.2.2.1 _ _ _ (g22.wb (g21.wb (g20.wb (g19.wb (c18.2.2.1 _ _ _ (g17.wb (g16.wb (g15.wb (g14.wb (c13.2.2.1 _ _ _ (g12.wb (g11.wb (g10.wb (g9.wb wq8x))))))))))))))))).up (by omega)), ((g25.wb (g24.wb (c23.2.2.1 _ _ _ (g22.wb (g21.wb (g20.wb (g19.wb (c18.2.2.1 _ _ _ (g17.wb (g16.wb (g15.wb (g14.wb (c13.2.2.1 _ _ _ (g12.wb (g11.wb (g10.wb (g9.wb wq8y))))))))))))))))).up (by omega)), ((g25.wb (g24.wb (c23.2.2.1 _ _ _ (g22.wb (g21.wb (g20.wb (g19.wb (c18.2.2.1 _ _ _ (g17.wb (g16.wb (g15.wb (g14.wb (c13.2.2.1 _ _ _ (g12.wb (g11.wb (g10.wb (g9.wb wq8w))))))))))))))))).up (by omega))⟩) (show TB h25 c t19 ((P.2.2 * P.2.2, Q.2.2 * Q.2.2, R.2.2 * R.2.2)) (2 * k + 1) from ⟨_, _, _, (g25.tf (g24.tf f23)), ((g25.wb (g24.wb wq23x)).up (by omega)), ((g25.wb (g24.wb wq23y)).up (by omega)), ((g25.wb (g24.wb wq23w)).up (by omega))⟩) (by omega)) ?_
      rintro _ h26 ⟨p26, rfl, g26, wp26⟩
      have G26 := G25.trans g26
      refine g_aload_n rfl rfl ?_
      refine g_aload rfl rfl ?_
      refine g_aload rfl rfl ?_
      refine g_aload rfl rfl ?_
      refine g_callVO [aO (some t4), aO (some t9), aO (some t19)] [aO (some p26), aO (some p25), aO (some t24), aO (some t24)] rfl rfl rfl rfl (Nat.le_of_ble_eq_true rfl) (G26.cs.kd 6 (by omega) rfl) (p_det (by omega) G26.ci (show TB h26 c t4 ((p_ownSq_S P, p_ownSq_S Q, p_ownSq_S R)) (2 * k + 1) from ⟨_, _, _, (g26.tf (g25.tf (g24.tf ft4_23))), ((g26.wb (g25.wb (g24.wb (c23.2.2.1 _ _ _ (g22.wb (g21.wb (g20.wb (g19.wb (c18.2.2.1 _ _ _ (g17.wb (g16.wb (g15.wb (g14.wb (c13.2.2.1 _ _ _ (g12.wb (g11.wb (g10.wb (g9.wb wq8x)))))))))))))))))).up (by omega)), ((g26.wb (g25.wb (g24.wb (c23.2.2.1 _ _ _ (g22.wb (g21.wb (g20.wb (g19.wb (c18.2.2.1 _ _ _ (g17.wb (g16.wb (g15.wb (g14.wb (c13.2.2.1 _ _ _ (g12.wb (g11.wb (g10.wb (g9.wb wq8y)))))))))))))))))).up (by omega)), ((g26.wb (g25.wb (g24.wb (c23.2.2.1 _ _ _ (g22.wb (g21.wb (g20.wb (g19.wb (c18.2.2.1 _ _ _ (g17.wb (g16.wb (g15.wb (g14.wb (c13.2.2.1 _ _ _ (g12.wb (g11.wb (g10.wb (g9.wb wq8w)))))))))))))))))).up (by omega))⟩) (show TB h26 c t9 ((P.1 * P.2.2, Q.1 * Q.2.2, R.1 * R.2.2)) (2 * k + 1) from ⟨_, _, _, (g26.tf (g25.tf (g24.tf ft9_23))), ((g26.wb (g25.wb (g24.wb (c23.2.2.1 _ _ _ (g22.wb (g21.wb (g20.wb (g19.wb (c18.2.2.1 _ _ _ (g17.wb (g16.wb (g15.wb (g14.wb wq13x))))))))))))).up (by omega)), ((g26.wb (g25.wb (g24.wb (c23.2.2.1 _ _ _ (g22.wb (g21.wb (g20.wb (g19.wb (c18.2.2.1 _ _ _ (g17.wb (g16.wb (g15.wb (g14.wb wq13y))))))))))))).up (by omega)), ((g26.wb (g25.wb (g24.wb (c23.2.2.1 _ _ _ (g22.wb (g21.wb (g20.wb (g19.wb (c18.2.2.1 _ _ _ (g17.wb (g16.wb (g15.wb (g14.wb wq13w))))))))))))).up (by omega))⟩) (show TB h26 c t19 ((P.2.2 * P.2.2, Q.2.2 * Q.2.2, R.2.2 * R.2.2)) (2 * k + 1) from ⟨_, _, _, (g26.tf (g25.tf (g24.tf f23))), ((g26.wb (g25.wb (g24.wb wq23x))).up (by omega)), ((g26.wb (g25.wb (g24.wb wq23y))).up (by omega)), ((g26.wb (g25.wb (g24.wb wq23w))).up (by omega))⟩) (by omega)) ?_
      rintro _ h27 ⟨p27, rfl, g27, wp27⟩
      have G27 := G26.trans g27
      refine g_aload_n rfl rfl ?_
      refine g_aload rfl rfl ?_
      refine g_aload rfl rfl ?_
      refine g_aload rfl rfl ?_
      refine g_callVO [aO (some t9), aO (some t4), aO (some t14)] [aO (some p27), aO (some p26), aO (some p25), aO (some t24), aO (some t24)] rfl rfl rfl rfl (Nat.le_of_ble_eq_true rfl) (G27.cs.kd 6 (by omega) rfl) (p_det (by omega) G27.ci (show TB h27 c t9 ((P.1 * P.2.2, Q.1 * Q.2.2, R.1 * R.2.2)) (2 * k + 1) from ⟨_, _, _, (g27.tf (g26.tf (g25.tf (g24.tf ft9_23)))), ((g27.wb (g26.wb (g25.wb (g24.wb (c23.2.2.1 _ _ _ (g22.wb (g21.wb (g20.wb (g19.wb (c18.2.2.1 _ _ _ (g17.wb (g16.wb (g15.wb (g14.wb wq13x)))))))))))))).up (by omega)), ((g27.wb (g26.wb (g25.wb (g24.wb (c23.2.2.1 _ _ _ (g22.wb (g21.wb (g20.wb (g19.wb (c18.2.2.1 _ _ _ (g17.wb (g16.wb (g15.wb (g14.wb wq13y)))))))))))))).up (by omega)), ((g27.wb (g26.wb (g25.wb (g24.wb (c23.2.2.1 _ _ _ (g22.wb (g21.wb (g20.wb (g19.wb (c18.2.2.1 _ _ _ (g17.wb (g16.wb (g15.wb (g14.wb wq13w)))))))))))))).up (by omega))⟩) (show TB h27 c t4 ((p_ownSq_S P, p_ownSq_S Q, p_ownSq_S R)) (2 * k + 1) from ⟨_, _, _, (g27.tf (g26.tf (g25.tf (g24.tf ft4_23)))), ((g27.wb (g26.wb (g25.wb (g24.wb (c23.2.2.1 _ _ _ (g22.wb (g21.wb (g20.wb (g19.wb (c18.2.2.1 _ _ _ (g17.wb (g16.wb (g15.wb (g14.wb (c13.2.2.1 _ _ _ (g12.wb (g11.wb (g10.wb (g9.wb wq8x))))))))))))))))))).up (by omega)), ((g27.wb (g26.wb (g25.wb (g24.wb (c23.2.2.1 _ _ _ (g22.wb (g21.wb (g20.wb (g19.wb (c18.2.2.1 _ _ _ (g17.wb (g16.wb (g15.wb (g14.wb (c13.2.2.1 _ _ _ (g12.wb (g11.wb (g10.wb (g9.wb wq8y))))))))))))))))))).up (by omega)), ((g27.wb (g26.wb (g25.wb (g24.wb (c23.2.2.1 _ _ _ (g22.wb (g21.wb (g20.wb (g19.wb (c18.2.2.1 _ _ _ (g17.wb (g16.wb (g15.wb (g14.wb (c13.2.2.1 _ _ _ (g12.wb (g11.wb (g10.wb (g9.wb wq8w))))))))))))))))))).up (by omega))⟩) (show TB h27 c t14 ((P.2.1 * P.2.2, Q.2.1 * Q.2.2, R.2.1 * R.2.2)) (2 * k + 1) from ⟨_, _, _, (g27.tf (g26.tf (g25.tf (g24.tf ft14_23)))), ((g27.wb (g26.wb (g25.wb (g24.wb (c23.2.2.1 _ _ _ (g22.wb (g21.wb (g20.wb (g19.wb wq18x))))))))).up (by omega)), ((g27.wb (g26.wb (g25.wb (g24.wb (c23.2.2.1 _ _ _ (g22.wb (g21.wb (g20.wb (g19.wb wq18y))))))))).up (by omega)), ((g27.wb (g26.wb (g25.wb (g24.wb (c23.2.2.1 _ _ _ (g22.wb (g21.wb (g20.wb (g19.wb wq18w))))))))).up (by omega))⟩) (by omega)) ?_
      rintro _ h28 ⟨p28, rfl, g28, wp28⟩
      have G28 := G27.trans g28
      refine g_callIN [aO (some p25), aO (some p26), aO (some p27), aO (some p28)] [aO (some t24)] rfl (by decide) rfl rfl rfl (Nat.le_of_ble_eq_true rfl) (g28.ob (g27.ob (g26.ob (g25.ob ob24)))).2.2 (k_Ring (by omega) (g28.ob (g27.ob (g26.ob (g25.ob ob24)))).2.2 (g28.ob (g27.ob (g26.ob (g25.ob ob24)))).1 p25 p26 p27 p28) ?_
      rintro _ rfl
      have c29 := ct4 (R := (p_det_S ((P.1 * P.2.2, Q.1 * Q.2.2, R.1 * R.2.2)) ((P.2.1 * P.2.2, Q.2.1 * Q.2.2, R.2.1 * R.2.2)) ((P.2.2 * P.2.2, Q.2.2 * Q.2.2, R.2.2 * R.2.2)), p_det_S ((P.2.1 * P.2.2, Q.2.1 * Q.2.2, R.2.1 * R.2.2)) ((p_ownSq_S P, p_ownSq_S Q, p_ownSq_S R)) ((P.2.2 * P.2.2, Q.2.2 * Q.2.2, R.2.2 * R.2.2)), p_det_S ((p_ownSq_S P, p_ownSq_S Q, p_ownSq_S R)) ((P.1 * P.2.2, Q.1 * Q.2.2, R.1 * R.2.2)) ((P.2.2 * P.2.2, Q.2.2 * Q.2.2, R.2.2 * R.2.2)), p_det_S ((P.1 * P.2.2, Q.1 * Q.2.2, R.1 * R.2.2)) ((p_ownSq_S P, p_ownSq_S Q, p_ownSq_S R)) ((P.2.1 * P.2.2, Q.2.1 * Q.2.2, R.2.1 * R.2.2)))) (k := 8 * k + 8) G28 (g28.ob (g27.ob (g26.ob (g25.ob ob24)))) (by have := G23.2.1.1; omega) ((g28.wb (g27.wb (g26.wb wp25))).up (by omega)) ((g28.wb (g27.wb wp26)).up (by omega)) ((g28.wb wp27).up (by omega)) (wp28.up (by omega))
      obtain ⟨h29, eh29⟩ : ∃ hq9, hq9 = pt4 h28 t24 p25 p26 p27 p28 := ⟨_, rfl⟩
      refine g_hp (h2 := h29) (by rw [eh29]; rfl) ?_
      rw [← eh29] at c29
      have G29 := c29.1
      obtain ⟨q29k, q29a, q29b, q29e, f29, wq29k, wq29a, wq29b, wq29e⟩ := c29.2.1
      refine g_aret rfl ?_
      refine ⟨G29.mono (by omega), ?_⟩
      unfold p_thr_O
      rw [if_neg (by omega)]
      exact ⟨t24, rfl, _, _, _, _, f29, (wq29k.up (by omega)), (wq29a.up (by omega)), (wq29b.up (by omega)), (wq29e.up (by omega))⟩
    · skip
      refine g_null rfl ?_
      refine g_aret rfl ?_
      refine ⟨G2.mono (by omega), ?_⟩
      unfold p_thr_O
      rw [if_pos (by omega)]
      rfl
theorem p_thr_n1 {w : aW} {d : Nat} (hd : 1 ≤ d) {h : aH} {c : Nat} (ci : CI h c) (q : Option Nat) (r : Option Nat) : WP w d 70 [aO (some (c + 6)), aO none, aO q, aO r] h (RO (fun r h1 => h1 = h ∧ r = none)) := by
  obtain ⟨d, rfl⟩ : ∃ d1, d = d1 + 1 := ⟨d - 1, by omega⟩
  refine WP.enter (cd := cd_X2_ringThrough) rfl ?_
  have hls : largs 0 [aO (some (c + 6)), aO none, aO q, aO r] = [(0, aO (some (c + 6))), (1, aO none), (2, aO q), (3, aO r)] := rfl
  rw [hls]
  clear hls
  refine g_aload_n rfl rfl ?_
  refine g_ifnull_t rfl ?_
  refine g_null rfl ?_
  refine g_aret rfl ?_
  exact ⟨rfl, rfl⟩
theorem p_thr_n2 {w : aW} {d : Nat} (hd : 1 ≤ d) {h : aH} {c : Nat} (ci : CI h c) (p : Nat) (r : Option Nat) : WP w d 70 [aO (some (c + 6)), aO (some p), aO none, aO r] h (RO (fun r h1 => h1 = h ∧ r = none)) := by
  obtain ⟨d, rfl⟩ : ∃ d1, d = d1 + 1 := ⟨d - 1, by omega⟩
  refine WP.enter (cd := cd_X2_ringThrough) rfl ?_
  have hls : largs 0 [aO (some (c + 6)), aO (some p), aO none, aO r] = [(0, aO (some (c + 6))), (1, aO (some p)), (2, aO none), (3, aO r)] := rfl
  rw [hls]
  clear hls
  refine g_aload_n rfl rfl ?_
  refine g_ifnull_f rfl ?_
  refine g_aload_n rfl rfl ?_
  refine g_ifnull_t rfl ?_
  refine g_null rfl ?_
  refine g_aret rfl ?_
  exact ⟨rfl, rfl⟩
theorem p_thr_n3 {w : aW} {d : Nat} (hd : 1 ≤ d) {h : aH} {c : Nat} (ci : CI h c) (p : Nat) (q : Nat) : WP w d 70 [aO (some (c + 6)), aO (some p), aO (some q), aO none] h (RO (fun r h1 => h1 = h ∧ r = none)) := by
  obtain ⟨d, rfl⟩ : ∃ d1, d = d1 + 1 := ⟨d - 1, by omega⟩
  refine WP.enter (cd := cd_X2_ringThrough) rfl ?_
  have hls : largs 0 [aO (some (c + 6)), aO (some p), aO (some q), aO none] = [(0, aO (some (c + 6))), (1, aO (some p)), (2, aO (some q)), (3, aO none)] := rfl
  rw [hls]
  clear hls
  refine g_aload_n rfl rfl ?_
  refine g_ifnull_f rfl ?_
  refine g_aload_n rfl rfl ?_
  refine g_ifnull_f rfl ?_
  refine g_aload_n rfl rfl ?_
  refine g_ifnull_t rfl ?_
  refine g_null rfl ?_
  refine g_aret rfl ?_
  exact ⟨rfl, rfl⟩
def p_over3_S (a1 : Int) (b1 : Int) (c1 : Int) (d1 : Int) (e1 : Int) (f1 : Int) : Int := (a1 * d1 + c1 * b1) * f1 + (b1 * d1) * e1
set_option maxHeartbeats 4000000 in
theorem p_over3 {w : aW} {d : Nat} (hd : 4 ≤ d) {k : Nat} {h : aH} {c : Nat} (ci : CI h c) {aa1 : Nat} {a1 : Int} (ta1 : WB h c aa1 a1 (k)) {ab1 : Nat} {b1 : Int} (tb1 : WB h c ab1 b1 (k)) {ac1 : Nat} {c1 : Int} (tc1 : WB h c ac1 c1 (k)) {ad1 : Nat} {d1 : Int} (td1 : WB h c ad1 d1 (k)) {ae1 : Nat} {e1 : Int} (te1 : WB h c ae1 e1 (k)) {af1 : Nat} {f1 : Int} (tf1 : WB h c af1 f1 (k))  (hk : k ≤ 126) : WP w d 73 [aO (some (c + 6)), aO (some aa1), aO (some ab1), aO (some ac1), aO (some ad1), aO (some ae1), aO (some af1)] h (RO (fun r h1 => ∃ p, r = some p ∧ Gr h h1 c 3 ∧ WB h1 c p (p_over3_S a1 b1 c1 d1 e1 f1) (3 * k + 2))) := by
  obtain ⟨d, rfl⟩ : ∃ d1, d = d1 + 1 := ⟨d - 1, by omega⟩
  refine WP.enter (cd := cd_X2_overThree) rfl ?_
  have G0 := Gr.refl ci
  have hls : largs 0 [aO (some (c + 6)), aO (some aa1), aO (some ab1), aO (some ac1), aO (some ad1), aO (some ae1), aO (some af1)] = [(0, aO (some (c + 6))), (1, aO (some aa1)), (2, aO (some ab1)), (3, aO (some ac1)), (4, aO (some ad1)), (5, aO (some ae1)), (6, aO (some af1))] := rfl
  rw [hls]
  clear hls
  refine g_aload_n rfl rfl ?_
  refine g_getR rfl (G0.cs.kd 6 (by omega) rfl) (G0.cs.rf 5 (by omega) rfl) ?_
  refine g_aload_n rfl rfl ?_
  refine g_getR rfl (G0.cs.kd 6 (by omega) rfl) (G0.cs.rf 5 (by omega) rfl) ?_
  refine g_aload_n rfl rfl ?_
  refine g_aload rfl rfl ?_
  refine g_aload_n rfl rfl ?_
  refine g_aload_n rfl rfl ?_
  refine g_callVO [aO (some aa1), aO (some ad1), aO (some ac1), aO (some ab1)] [aO (some (c + 1))] rfl rfl rfl rfl (Nat.le_of_ble_eq_true rfl) (G0.cs.kd 1 (by omega) rfl) (s_added (by omega) G0.ci ta1 td1 tc1 tb1 (2 * k + 1) (by omega) (by omega) (by omega)) ?_
  rintro _ h1 ⟨p1, rfl, g1, wp1⟩
  have G1 := G0.trans g1
  refine g_aload rfl rfl ?_
  refine g_aload_n rfl rfl ?_
  refine g_getR rfl (G1.cs.kd 6 (by omega) rfl) (G1.cs.rf 5 (by omega) rfl) ?_
  refine g_aload_n rfl rfl ?_
  refine g_aload rfl rfl ?_
  refine g_callVO [aO (some ab1), aO (some ad1)] [aO (some af1), aO (some p1), aO (some (c + 1))] rfl rfl rfl rfl (Nat.le_of_ble_eq_true rfl) (G1.cs.kd 1 (by omega) rfl) (s_times (by omega) G1.ci (g1.wb tb1) (g1.wb td1) (by omega)) ?_
  rintro _ h2 ⟨p2, rfl, g2, wp2⟩
  have G2 := G1.trans g2
  refine g_aload rfl rfl ?_
  refine g_callVO [aO (some p1), aO (some af1), aO (some p2), aO (some ae1)] [] rfl rfl rfl rfl (Nat.le_of_ble_eq_true rfl) (G2.cs.kd 1 (by omega) rfl) (s_added (by omega) G2.ci (g2.wb wp1) (g2.wb (g1.wb tf1)) wp2 (g2.wb (g1.wb te1)) (3 * k + 2) (by omega) (by omega) (by omega)) ?_
  rintro _ h3 ⟨p3, rfl, g3, wp3⟩
  have G3 := G2.trans g3
  refine g_aret rfl ?_
  exact ⟨p3, rfl, G3.mono (by omega), (wp3.up (by omega))⟩
def p_mid3_S (P : T3) (Q : T3) (R : T3) : T3 := (p_over3_S P.1 P.2.2 Q.1 Q.2.2 R.1 R.2.2, p_over3_S P.2.1 P.2.2 Q.2.1 Q.2.2 R.2.1 R.2.2, 3 * ((P.2.2 * Q.2.2) * R.2.2))
def p_mid3_O (P : T3) (Q : T3) (R : T3) : Option T3 := if P.2.2 = 0 ∨ Q.2.2 = 0 ∨ R.2.2 = 0 then none else some (p_mid3_S P Q R)
set_option maxHeartbeats 4000000 in
theorem p_mid3 {w : aW} {d : Nat} (hd : 5 ≤ d) {h : aH} {c : Nat} (ci : CI h c) {aP : Nat} {P : T3} (tP : TB h c aP P (20)) {aQ : Nat} {Q : T3} (tQ : TB h c aQ Q (20)) {aR : Nat} {R : T3} (tR : TB h c aR R (20))  : WP w d 72 [aO (some (c + 6)), aO (some aP), aO (some aQ), aO (some aR)] h (RO (fun r h1 => Gr h h1 c 11 ∧ OT h1 c r (p_mid3_O P Q R) (62))) := by
  obtain ⟨d, rfl⟩ : ∃ d1, d = d1 + 1 := ⟨d - 1, by omega⟩
  refine WP.enter (cd := cd_X2_middleOfThree) rfl ?_
  have G0 := Gr.refl ci
  obtain ⟨Px, Py, Pw, fP, wPx, wPy, wPw⟩ := tP
  obtain ⟨Qx, Qy, Qw, fQ, wQx, wQy, wQw⟩ := tQ
  obtain ⟨Rx, Ry, Rw, fR, wRx, wRy, wRw⟩ := tR
  have hls : largs 0 [aO (some (c + 6)), aO (some aP), aO (some aQ), aO (some aR)] = [(0, aO (some (c + 6))), (1, aO (some aP)), (2, aO (some aQ)), (3, aO (some aR))] := rfl
  rw [hls]
  clear hls
  refine g_aload_n rfl rfl ?_
  refine g_aload_n rfl rfl ?_
  refine g_aload_n rfl rfl ?_
  refine g_aload_n rfl rfl ?_
  refine g_callVI [aO (some aP), aO (some aQ), aO (some aR)] [] rfl rfl rfl rfl (Nat.le_of_ble_eq_true rfl) (G0.cs.kd 6 (by omega) rfl) (p_isOneFar (by omega) G0.ci (show TB h c aP P (20) from ⟨_, _, _, fP, (wPx.up (by omega)), (wPy.up (by omega)), (wPw.up (by omega))⟩) (show TB h c aQ Q (20) from ⟨_, _, _, fQ, (wQx.up (by omega)), (wQy.up (by omega)), (wQw.up (by omega))⟩) (show TB h c aR R (20) from ⟨_, _, _, fR, (wRx.up (by omega)), (wRy.up (by omega)), (wRw.up (by omega))⟩)) ?_
  rintro _ hx1 ⟨ehx1, rfl⟩
  rw [ehx1]
  clear ehx1 hx1
  refine g_b_eq rfl (fun c7 => ?_) (fun c7 => ?_)
  · skip
    refine g_aload_n rfl rfl ?_
    refine g_getR rfl (G0.cs.kd 6 (by omega) rfl) (G0.cs.rf 5 (by omega) rfl) ?_
    refine g_aload_n rfl rfl ?_
    refine g_getR rfl (G0.cs.kd 6 (by omega) rfl) (G0.cs.rf 5 (by omega) rfl) ?_
    refine g_aload_n rfl rfl ?_
    refine g_getR rfl fP.1.2.2 fP.2.2.2 ?_
    refine g_aload_n rfl rfl ?_
    refine g_getR rfl fQ.1.2.2 fQ.2.2.2 ?_
    refine g_callVO [aO (some Pw), aO (some Qw)] [aO (some (c + 1))] rfl rfl rfl rfl (Nat.le_of_ble_eq_true rfl) (G0.cs.kd 1 (by omega) rfl) (s_times (by omega) G0.ci wPw wQw (by omega)) ?_
    rintro _ h2 ⟨p2, rfl, g2, wp2⟩
    have G2 := G0.trans g2
    refine g_aload_n rfl rfl ?_
    refine g_getR rfl (g2.tf fR).1.2.2 (g2.tf fR).2.2.2 ?_
    refine g_callVO [aO (some p2), aO (some Rw)] [] rfl rfl rfl rfl (Nat.le_of_ble_eq_true rfl) (G2.cs.kd 1 (by omega) rfl) (s_times (by omega) G2.ci wp2 (g2.wb wRw) (by omega)) ?_
    rintro _ h3 ⟨p3, rfl, g3, wp3⟩
    have G3 := G2.trans g3
    refine g_astore (l1 := [(4, aO (some p3)), (0, aO (some (c + 6))), (1, aO (some aP)), (2, aO (some aQ)), (3, aO (some aR))]) rfl rfl ?_
    refine g_new rfl ?_
    obtain ⟨g4, ob4⟩ := Gr.mk (k := 19) (m := 3) G3.ci (by decide) (by decide)
    obtain ⟨t4, et4⟩ : ∃ t, t = hz h3 := ⟨_, rfl⟩
    obtain ⟨h4, eh4⟩ : ∃ hq9, hq9 = hnew h3 19 3 := ⟨_, rfl⟩
    rw [← eh4, ← et4] at ob4
    rw [← eh4] at g4
    refine g_hp (h2 := h4) eh4.symm ?_
    refine g_top (v2 := aO (some t4)) (by rw [et4]) ?_
    have G4 := G3.trans g4
    refine g_dup rfl rfl ?_
    refine g_aload_n rfl rfl ?_
    refine g_aload_n rfl rfl ?_
    refine g_getR rfl (g4.tf (g3.tf (g2.tf fP))).1.2.2 (g4.tf (g3.tf (g2.tf fP))).2.1 ?_
    refine g_aload_n rfl rfl ?_
    refine g_getR rfl (g4.tf (g3.tf (g2.tf fP))).1.2.2 (g4.tf (g3.tf (g2.tf fP))).2.2.2 ?_
    refine g_aload_n rfl rfl ?_
    refine g_getR rfl (g4.tf (g3.tf (g2.tf fQ))).1.2.2 (g4.tf (g3.tf (g2.tf fQ))).2.1 ?_
    refine g_aload_n rfl rfl ?_
    refine g_getR rfl (g4.tf (g3.tf (g2.tf fQ))).1.2.2 (g4.tf (g3.tf (g2.tf fQ))).2.2.2 ?_
    refine g_aload_n rfl rfl ?_
    refine g_getR rfl (g4.tf (g3.tf (g2.tf fR))).1.2.2 (g4.tf (g3.tf (g2.tf fR))).2.1 ?_
    refine g_aload_n rfl rfl ?_
    refine g_getR rfl (g4.tf (g3.tf (g2.tf fR))).1.2.2 (g4.tf (g3.tf (g2.tf fR))).2.2.2 ?_
    refine g_callVO [aO (some Px), aO (some Pw), aO (some Qx), aO (some Qw), aO (some Rx), aO (some Rw)] [aO (some t4), aO (some t4)] rfl rfl rfl rfl (Nat.le_of_ble_eq_true rfl) (G4.cs.kd 6 (by omega) rfl) (p_over3 (by omega) G4.ci (show WB h4 c Px P.1 (20) from ((g4.wb (g3.wb (g2.wb wPx))).up (by omega))) (show WB h4 c Pw P.2.2 (20) from ((g4.wb (g3.wb (g2.wb wPw))).up (by omega))) (show WB h4 c Qx Q.1 (20) from ((g4.wb (g3.wb (g2.wb wQx))).up (by omega))) (show WB h4 c Qw Q.2.2 (20) from ((g4.wb (g3.wb (g2.wb wQw))).up (by omega))) (show WB h4 c Rx R.1 (20) from ((g4.wb (g3.wb (g2.wb wRx))).up (by omega))) (show WB h4 c Rw R.2.2 (20) from ((g4.wb (g3.wb (g2.wb wRw))).up (by omega))) (by omega)) ?_
    rintro _ h5 ⟨p5, rfl, g5, wp5⟩
    have G5 := G4.trans g5
    refine g_aload_n rfl rfl ?_
    refine g_aload_n rfl rfl ?_
    refine g_getR rfl (g5.tf (g4.tf (g3.tf (g2.tf fP)))).1.2.2 (g5.tf (g4.tf (g3.tf (g2.tf fP)))).2.2.1 ?_
    refine g_aload_n rfl rfl ?_
    refine g_getR rfl (g5.tf (g4.tf (g3.tf (g2.tf fP)))).1.2.2 (g5.tf (g4.tf (g3.tf (g2.tf fP)))).2.2.2 ?_
    refine g_aload_n rfl rfl ?_
    refine g_getR rfl (g5.tf (g4.tf (g3.tf (g2.tf fQ)))).1.2.2 (g5.tf (g4.tf (g3.tf (g2.tf fQ)))).2.2.1 ?_
    refine g_aload_n rfl rfl ?_
    refine g_getR rfl (g5.tf (g4.tf (g3.tf (g2.tf fQ)))).1.2.2 (g5.tf (g4.tf (g3.tf (g2.tf fQ)))).2.2.2 ?_
    refine g_aload_n rfl rfl ?_
    refine g_getR rfl (g5.tf (g4.tf (g3.tf (g2.tf fR)))).1.2.2 (g5.tf (g4.tf (g3.tf (g2.tf fR)))).2.2.1 ?_
    refine g_aload_n rfl rfl ?_
    refine g_getR rfl (g5.tf (g4.tf (g3.tf (g2.tf fR)))).1.2.2 (g5.tf (g4.tf (g3.tf (g2.tf fR)))).2.2.2 ?_
    refine g_callVO [aO (some Py), aO (some Pw), aO (some Qy), aO (some Qw), aO (some Ry), aO (some Rw)] [aO (some p5), aO (some t4), aO (some t4)] rfl rfl rfl rfl (Nat.le_of_ble_eq_true rfl) (G5.cs.kd 6 (by omega) rfl) (p_over3 (by omega) G5.ci (show WB h5 c Py P.2.1 (20) from ((g5.wb (g4.wb (g3.wb (g2.wb wPy)))).up (by omega))) (show WB h5 c Pw P.2.2 (20) from ((g5.wb (g4.wb (g3.wb (g2.wb wPw)))).up (by omega))) (show WB h5 c Qy Q.2.1 (20) from ((g5.wb (g4.wb (g3.wb (g2.wb wQy)))).up (by omega))) (show WB h5 c Qw Q.2.2 (20) from ((g5.wb (g4.wb (g3.wb (g2.wb wQw)))).up (by omega))) (show WB h5 c Ry R.2.1 (20) from ((g5.wb (g4.wb (g3.wb (g2.wb wRy)))).up (by omega))) (show WB h5 c Rw R.2.2 (20) from ((g5.wb (g4.wb (g3.wb (g2.wb wRw)))).up (by omega))) (by omega)) ?_
    rintro _ h6 ⟨p6, rfl, g6, wp6⟩
    have G6 := G5.trans g6
    refine g_aload_n rfl rfl ?_
    refine g_getR rfl (G6.cs.kd 6 (by omega) rfl) (G6.cs.rf 5 (by omega) rfl) ?_
    refine g_aload_n rfl rfl ?_
    refine g_getR rfl (G6.cs.kd 6 (by omega) rfl) (G6.cs.rf 5 (by omega) rfl) ?_
    refine g_ldc2 rfl ?_
    refine g_callVO [aJ 3] [aO (some (c + 1)), aO (some p6), aO (some p5), aO (some t4), aO (some t4)] rfl rfl rfl rfl (Nat.le_of_ble_eq_true rfl) (G6.cs.kd 1 (by omega) rfl) (s_of (by omega) G6.ci 3 (by unfold r64; omega) 2 (by omega) (by omega)) ?_
    rintro _ h7 ⟨p7, rfl, g7, wp7⟩
    have G7 := G6.trans g7
    refine g_aload rfl rfl ?_
    refine g_callVO [aO (some p7), aO (some p3)] [aO (some p6), aO (some p5), aO (some t4), aO (some t4)] rfl rfl rfl rfl (Nat.le_of_ble_eq_true rfl) (G7.cs.kd 1 (by omega) rfl) (s_times (by omega) G7.ci wp7 (g7.wb (g6.wb (g5.wb (g4.wb wp3)))) (by omega)) ?_
    rintro _ h8 ⟨p8, rfl, g8, wp8⟩
    have G8 := G7.trans g8
    refine g_callIN [aO (some p5), aO (some p6), aO (some p8)] [aO (some t4)] rfl (by decide) rfl rfl rfl (Nat.le_of_ble_eq_true rfl) (g8.ob (g7.ob (g6.ob (g5.ob ob4)))).2.2 (k_Triple (by omega) (g8.ob (g7.ob (g6.ob (g5.ob ob4)))).2.2 (g8.ob (g7.ob (g6.ob (g5.ob ob4)))).1 p5 p6 p8) ?_
    rintro _ rfl
    have c9 := ct3 (P := (p_over3_S P.1 P.2.2 Q.1 Q.2.2 R.1 R.2.2, p_over3_S P.2.1 P.2.2 Q.2.1 Q.2.2 R.2.1 R.2.2, 3 * ((P.2.2 * Q.2.2) * R.2.2))) (k := 62) G8 (g8.ob (g7.ob (g6.ob (g5.ob ob4)))) (by have := G3.2.1.1; omega) ((g8.wb (g7.wb (g6.wb wp5))).up (by omega)) ((g8.wb (g7.wb wp6)).up (by omega)) (wp8.up (by omega))
    have faP_9 := c9.2.2.2.1 _ _ _ _ (by have := (g3.tf (g2.tf fP)).1.1; omega) (g8.tf (g7.tf (g6.tf (g5.tf (g4.tf (g3.tf (g2.tf fP)))))))
    have faQ_9 := c9.2.2.2.1 _ _ _ _ (by have := (g3.tf (g2.tf fQ)).1.1; omega) (g8.tf (g7.tf (g6.tf (g5.tf (g4.tf (g3.tf (g2.tf fQ)))))))
    have faR_9 := c9.2.2.2.1 _ _ _ _ (by have := (g3.tf (g2.tf fR)).1.1; omega) (g8.tf (g7.tf (g6.tf (g5.tf (g4.tf (g3.tf (g2.tf fR)))))))
    obtain ⟨h9, eh9⟩ : ∃ hq9, hq9 = pt3 h8 t4 p5 p6 p8 := ⟨_, rfl⟩
    refine g_hp (h2 := h9) (by rw [eh9]; rfl) ?_
    rw [← eh9] at c9 faP_9 faQ_9 faR_9
    have G9 := c9.1
    obtain ⟨q9x, q9y, q9w, f9, wq9x, wq9y, wq9w⟩ := c9.2.1
    refine g_aret rfl ?_
    refine ⟨G9.mono (by omega), ?_⟩
    unfold p_mid3_O
    rw [if_neg (by omega)]
    exact ⟨t4, rfl, _, _, _, f9, (wq9x.up (by omega)), (wq9y.up (by omega)), (wq9w.up (by omega))⟩
  · skip
    refine g_null rfl ?_
    refine g_aret rfl ?_
    refine ⟨G0.mono (by omega), ?_⟩
    unfold p_mid3_O
    rw [if_pos (by omega)]
    rfl
def p_heights_S (P : T3) (Q : T3) (R : T3) : T3 := p_cross_S (p_cross_S P (p_farSq_S (p_cross_S Q R))) (p_cross_S Q (p_farSq_S (p_cross_S R P)))
def p_heights_O (P : T3) (Q : T3) (R : T3) : Option T3 := if P.2.2 = 0 ∨ Q.2.2 = 0 ∨ R.2.2 = 0 ∨ p_det_S P Q R = 0 then none else some (p_heights_S P Q R)
set_option maxHeartbeats 4000000 in
theorem p_heights {w : aW} {d : Nat} (hd : 5 ≤ d) {h : aH} {c : Nat} (ci : CI h c) {aP : Nat} {P : T3} (tP : TB h c aP P (20)) {aQ : Nat} {Q : T3} (tQ : TB h c aQ Q (20)) {aR : Nat} {R : T3} (tR : TB h c aR R (20))  : WP w d 74 [aO (some (c + 6)), aO (some aP), aO (some aQ), aO (some aR)] h (RO (fun r h1 => Gr h h1 c 49 ∧ OT h1 c r (p_heights_O P Q R) (167))) := by
  obtain ⟨d, rfl⟩ : ∃ d1, d = d1 + 1 := ⟨d - 1, by omega⟩
  refine WP.enter (cd := cd_X2_heightsMeet) rfl ?_
  have G0 := Gr.refl ci
  obtain ⟨Px, Py, Pw, fP, wPx, wPy, wPw⟩ := tP
  obtain ⟨Qx, Qy, Qw, fQ, wQx, wQy, wQw⟩ := tQ
  obtain ⟨Rx, Ry, Rw, fR, wRx, wRy, wRw⟩ := tR
  have hls : largs 0 [aO (some (c + 6)), aO (some aP), aO (some aQ), aO (some aR)] = [(0, aO (some (c + 6))), (1, aO (some aP)), (2, aO (some aQ)), (3, aO (some aR))] := rfl
  rw [hls]
  clear hls
  refine g_aload_n rfl rfl ?_
  refine g_aload_n rfl rfl ?_
  refine g_aload_n rfl rfl ?_
  refine g_aload_n rfl rfl ?_
  refine g_callVI [aO (some aP), aO (some aQ), aO (some aR)] [] rfl rfl rfl rfl (Nat.le_of_ble_eq_true rfl) (G0.cs.kd 6 (by omega) rfl) (p_isOneFar (by omega) G0.ci (show TB h c aP P (20) from ⟨_, _, _, fP, (wPx.up (by omega)), (wPy.up (by omega)), (wPw.up (by omega))⟩) (show TB h c aQ Q (20) from ⟨_, _, _, fQ, (wQx.up (by omega)), (wQy.up (by omega)), (wQw.up (by omega))⟩) (show TB h c aR R (20) from ⟨_, _, _, fR, (wRx.up (by omega)), (wRy.up (by omega)), (wRw.up (by omega))⟩)) ?_
  rintro _ hx1 ⟨ehx1, rfl⟩
  rw [ehx1]
  clear ehx1 hx1
  refine g_b_ne rfl (fun c7 => ?_) (fun c7 => ?_)
  · skip
    refine g_null rfl ?_
    refine g_aret rfl ?_
    refine ⟨G0.mono (by omega), ?_⟩
    unfold p_heights_O
    rw [if_pos (by omega)]
    rfl
  · skip
    refine g_aload_n rfl rfl ?_
    refine g_getR rfl (G0.cs.kd 6 (by omega) rfl) (G0.cs.rf 5 (by omega) rfl) ?_
    refine g_aload_n rfl rfl ?_
    refine g_aload_n rfl rfl ?_
    refine g_aload_n rfl rfl ?_
    refine g_aload_n rfl rfl ?_
    refine g_callVO [aO (some aP), aO (some aQ), aO (some aR)] [aO (some (c + 1))] rfl rfl rfl rfl (Nat.le_of_ble_eq_true rfl) (G0.cs.kd 6 (by omega) rfl) (p_det (by omega) G0.ci (show TB h c aP P (20) from ⟨_, _, _, fP, (wPx.up (by omega)), (wPy.up (by omega)), (wPw.up (by omega))⟩) (show TB h c aQ Q (20) from ⟨_, _, _, fQ, (wQx.up (by omega)), (wQy.up (by omega)), (wQw.up (by omega))⟩) (show TB h c aR R (20) from ⟨_, _, _, fR, (wRx.up (by omega)), (wRy.up (by omega)), (wRw.up (by omega))⟩) (by omega)) ?_
    rintro _ h2 ⟨p2, rfl, g2, wp2⟩
    have G2 := G0.trans g2
    refine g_callVI [aO (some p2)] [] rfl rfl rfl rfl (Nat.le_of_ble_eq_true rfl) (G2.cs.kd 1 (by omega) rfl) (s_isZero (by omega) G2.ci wp2) ?_
    rintro _ hx3 ⟨ehx3, rfl⟩
    rw [ehx3]
    clear ehx3 hx3
    refine g_b_eq rfl (fun c24 => ?_) (fun c24 => ?_)
    · skip
      refine g_aload_n rfl rfl ?_
      refine g_aload_n rfl rfl ?_
      refine g_aload_n rfl rfl ?_
      refine g_aload_n rfl rfl ?_
      refine g_aload_n rfl rfl ?_
      refine g_aload_n rfl rfl ?_
      refine g_aload_n rfl rfl ?_
      refine g_callVO [aO (some aQ), aO (some aR)] [aO (some (c + 6)), aO (some aP), aO (some (c + 6)), aO (some (c + 6))] rfl rfl rfl rfl (Nat.le_of_ble_eq_true rfl) (G2.cs.kd 6 (by omega) rfl) (p_cross (by omega) G2.ci (show TB h2 c aQ Q (20) from ⟨_, _, _, (g2.tf fQ), ((g2.wb wQx).up (by omega)), ((g2.wb wQy).up (by omega)), ((g2.wb wQw).up (by omega))⟩) (show TB h2 c aR R (20) from ⟨_, _, _, (g2.tf fR), ((g2.wb wRx).up (by omega)), ((g2.wb wRy).up (by omega)), ((g2.wb wRw).up (by omega))⟩) (by omega)) ?_
      rintro _ h4 ⟨p4, rfl, g4, p4x, p4y, p4w, f4, wp4x, wp4y, wp4w⟩
      have G4 := G2.trans g4
      refine g_callVO [aO (some p4)] [aO (some aP), aO (some (c + 6)), aO (some (c + 6))] rfl rfl rfl rfl (Nat.le_of_ble_eq_true rfl) (G4.cs.kd 6 (by omega) rfl) (p_farSq (by omega) G4.ci (show TB h4 c p4 (p_cross_S Q R) (41) from ⟨_, _, _, f4, (wp4x.up (by omega)), (wp4y.up (by omega)), (wp4w.up (by omega))⟩)) ?_
      rintro _ h5 ⟨p5, rfl, g5, p5x, p5y, p5w, f5, wp5x, wp5y, wp5w⟩
      have G5 := G4.trans g5
      refine g_callVO [aO (some aP), aO (some p5)] [aO (some (c + 6))] rfl rfl rfl rfl (Nat.le_of_ble_eq_true rfl) (G5.cs.kd 6 (by omega) rfl) (p_cross (by omega) G5.ci (show TB h5 c aP P (41) from ⟨_, _, _, (g5.tf (g4.tf (g2.tf fP))), ((g5.wb (g4.wb (g2.wb wPx))).up (by omega)), ((g5.wb (g4.wb (g2.wb wPy))).up (by omega)), ((g5.wb (g4.wb (g2.wb wPw))).up (by omega))⟩) (show TB h5 c p5 (p_farSq_S (p_cross_S Q R)) (41) from ⟨_, _, _, f5, (wp5x.up (by omega)), (wp5y.up (by omega)), (wp5w.up (by omega))⟩) (by omega)) ?_
      rintro _ h6 ⟨p6, rfl, g6, p6x, p6y, p6w, f6, wp6x, wp6y, wp6w⟩
      have G6 := G5.trans g6
      refine g_aload_n rfl rfl ?_
      refine g_aload_n rfl rfl ?_
      refine g_aload_n rfl rfl ?_
      refine g_aload_n rfl rfl ?_
      refine g_aload_n rfl rfl ?_
      refine g_aload_n rfl rfl ?_
      refine g_callVO [aO (some aR), aO (some aP)] [aO (some (c + 6)), aO (some aQ), aO (some (c + 6)), aO (some p6), aO (some (c + 6))] rfl rfl rfl rfl (Nat.le_of_ble_eq_true rfl) (G6.cs.kd 6 (by omega) rfl) (p_cross (by omega) G6.ci (show TB h6 c aR R (20) from ⟨_, _, _, (g6.tf (g5.tf (g4.tf (g2.tf fR)))), ((g6.wb (g5.wb (g4.wb (g2.wb wRx)))).up (by omega)), ((g6.wb (g5.wb (g4.wb (g2.wb wRy)))).up (by omega)), ((g6.wb (g5.wb (g4.wb (g2.wb wRw)))).up (by omega))⟩) (show TB h6 c aP P (20) from ⟨_, _, _, (g6.tf (g5.tf (g4.tf (g2.tf fP)))), ((g6.wb (g5.wb (g4.wb (g2.wb wPx)))).up (by omega)), ((g6.wb (g5.wb (g4.wb (g2.wb wPy)))).up (by omega)), ((g6.wb (g5.wb (g4.wb (g2.wb wPw)))).up (by omega))⟩) (by omega)) ?_
      rintro _ h7 ⟨p7, rfl, g7, p7x, p7y, p7w, f7, wp7x, wp7y, wp7w⟩
      have G7 := G6.trans g7
      refine g_callVO [aO (some p7)] [aO (some aQ), aO (some (c + 6)), aO (some p6), aO (some (c + 6))] rfl rfl rfl rfl (Nat.le_of_ble_eq_true rfl) (G7.cs.kd 6 (by omega) rfl) (p_farSq (by omega) G7.ci (show TB h7 c p7 (p_cross_S R P) (41) from ⟨_, _, _, f7, (wp7x.up (by omega)), (wp7y.up (by omega)), (wp7w.up (by omega))⟩)) ?_
      rintro _ h8 ⟨p8, rfl, g8, p8x, p8y, p8w, f8, wp8x, wp8y, wp8w⟩
      have G8 := G7.trans g8
      refine g_callVO [aO (some aQ), aO (some p8)] [aO (some p6), aO (some (c + 6))] rfl rfl rfl rfl (Nat.le_of_ble_eq_true rfl) (G8.cs.kd 6 (by omega) rfl) (p_cross (by omega) G8.ci (show TB h8 c aQ Q (41) from ⟨_, _, _, (g8.tf (g7.tf (g6.tf (g5.tf (g4.tf (g2.tf fQ)))))), ((g8.wb (g7.wb (g6.wb (g5.wb (g4.wb (g2.wb wQx)))))).up (by omega)), ((g8.wb (g7.wb (g6.wb (g5.wb (g4.wb (g2.wb wQy)))))).up (by omega)), ((g8.wb (g7.wb (g6.wb (g5.wb (g4.wb (g2.wb wQw)))))).up (by omega))⟩) (show TB h8 c p8 (p_farSq_S (p_cross_S R P)) (41) from ⟨_, _, _, f8, (wp8x.up (by omega)), (wp8y.up (by omega)), (wp8w.up (by omega))⟩) (by omega)) ?_
      rintro _ h9 ⟨p9, rfl, g9, p9x, p9y, p9w, f9, wp9x, wp9y, wp9w⟩
      have G9 := G8.trans g9
      refine g_callVO [aO (some p6), aO (some p9)] [] rfl rfl rfl rfl (Nat.le_of_ble_eq_true rfl) (G9.cs.kd 6 (by omega) rfl) (p_cross (by omega) G9.ci (show TB h9 c p6 (p_cross_S P (p_farSq_S (p_cross_S Q R))) (83) from ⟨_, _, _, (g9.tf (g8.tf (g7.tf f6))), ((g9.wb (g8.wb (g7.wb wp6x))).up (by omega)), ((g9.wb (g8.wb (g7.wb wp6y))).up (by omega)), ((g9.wb (g8.wb (g7.wb wp6w))).up (by omega))⟩) (show TB h9 c p9 (p_cross_S Q (p_farSq_S (p_cross_S R P))) (83) from ⟨_, _, _, f9, (wp9x.up (by omega)), (wp9y.up (by omega)), (wp9w.up (by omega))⟩) (by omega)) ?_
      rintro _ h10 ⟨p10, rfl, g10, p10x, p10y, p10w, f10, wp10x, wp10y, wp10w⟩
      have G10 := G9.trans g10
      refine g_aret rfl ?_
      refine ⟨G10.mono (by omega), ?_⟩
      unfold p_heights_O
      rw [if_neg (by omega)]
      exact ⟨p10, rfl, _, _, _, f10, (wp10x.up (by omega)), (wp10y.up (by omega)), (wp10w.up (by omega))⟩
    · skip
      refine g_null rfl ?_
      refine g_aret rfl ?_
      refine ⟨G2.mono (by omega), ?_⟩
      unfold p_heights_O
      rw [if_pos (by omega)]
      rfl
def p_bra_S (P Q L : T3) : Int := if L.1 = 0 then (if L.2.1 = 0 then (p_cross_S P Q).2.2 else (p_cross_S P Q).2.1) else (p_cross_S P Q).1
set_option maxHeartbeats 4000000 in
theorem p_bra {w : aW} {d : Nat} (hd : 5 ≤ d) {h : aH} {c : Nat} (ci : CI h c) {aP : Nat} {P : T3} (tP : TB h c aP P (20)) {aQ : Nat} {Q : T3} (tQ : TB h c aQ Q (20)) {aL : Nat} {L : T3} (tL : TB h c aL L (41))  : WP w d 76 [aO (some (c + 6)), aO (some aP), aO (some aQ), aO (some aL)] h (RO (fun r h1 => ∃ p, r = some p ∧ Gr h h1 c 7 ∧ WB h1 c p (p_bra_S P Q L) (41))) := by
  obtain ⟨d, rfl⟩ : ∃ d1, d = d1 + 1 := ⟨d - 1, by omega⟩
  refine WP.enter (cd := cd_X2_bracket) rfl ?_
  have G0 := Gr.refl ci
  obtain ⟨Px, Py, Pw, fP, wPx, wPy, wPw⟩ := tP
  obtain ⟨Qx, Qy, Qw, fQ, wQx, wQy, wQw⟩ := tQ
  obtain ⟨Lx, Ly, Lw, fL, wLx, wLy, wLw⟩ := tL
  have hls : largs 0 [aO (some (c + 6)), aO (some aP), aO (some aQ), aO (some aL)] = [(0, aO (some (c + 6))), (1, aO (some aP)), (2, aO (some aQ)), (3, aO (some aL))] := rfl
  rw [hls]
  clear hls
  refine g_aload_n rfl rfl ?_
  refine g_aload_n rfl rfl ?_
  refine g_aload_n rfl rfl ?_
  refine g_callVO [aO (some aP), aO (some aQ)] [] rfl rfl rfl rfl (Nat.le_of_ble_eq_true rfl) (G0.cs.kd 6 (by omega) rfl) (p_cross (by omega) G0.ci (show TB h c aP P (20) from ⟨_, _, _, fP, (wPx.up (by omega)), (wPy.up (by omega)), (wPw.up (by omega))⟩) (show TB h c aQ Q (20) from ⟨_, _, _, fQ, (wQx.up (by omega)), (wQy.up (by omega)), (wQw.up (by omega))⟩) (by omega)) ?_
  rintro _ h1 ⟨p1, rfl, g1, p1x, p1y, p1w, f1, wp1x, wp1y, wp1w⟩
  have G1 := G0.trans g1
  refine g_astore (l1 := [(4, aO (some p1)), (0, aO (some (c + 6))), (1, aO (some aP)), (2, aO (some aQ)), (3, aO (some aL))]) rfl rfl ?_
  refine g_aload_n rfl rfl ?_
  refine g_getR rfl (G1.cs.kd 6 (by omega) rfl) (G1.cs.rf 5 (by omega) rfl) ?_
  refine g_aload_n rfl rfl ?_
  refine g_getR rfl (g1.tf fL).1.2.2 (g1.tf fL).2.1 ?_
  refine g_callVI [aO (some Lx)] [] rfl rfl rfl rfl (Nat.le_of_ble_eq_true rfl) (G1.cs.kd 1 (by omega) rfl) (s_isZero (by omega) G1.ci (g1.wb wLx)) ?_
  rintro _ hx2 ⟨ehx2, rfl⟩
  rw [ehx2]
  clear ehx2 hx2
  refine g_b_ne rfl (fun c19 => ?_) (fun c19 => ?_)
  · skip
    refine g_aload_n rfl rfl ?_
    refine g_getR rfl (G1.cs.kd 6 (by omega) rfl) (G1.cs.rf 5 (by omega) rfl) ?_
    refine g_aload_n rfl rfl ?_
    refine g_getR rfl (g1.tf fL).1.2.2 (g1.tf fL).2.2.1 ?_
    refine g_callVI [aO (some Ly)] [] rfl rfl rfl rfl (Nat.le_of_ble_eq_true rfl) (G1.cs.kd 1 (by omega) rfl) (s_isZero (by omega) G1.ci (g1.wb wLy)) ?_
    rintro _ hx3 ⟨ehx3, rfl⟩
    rw [ehx3]
    clear ehx3 hx3
    refine g_b_eq rfl (fun c39 => ?_) (fun c39 => ?_)
    · skip
      refine g_aload rfl rfl ?_
      refine g_getR rfl f1.1.2.2 f1.2.2.1 ?_
      refine g_aret rfl ?_
      refine ⟨p1y, rfl, G1.mono (by omega), ?_⟩
      unfold p_bra_S
      first
        | rw [if_neg (by omega)]
        | rw [if_pos (by omega), if_pos (by omega)]
        | rw [if_pos (by omega), if_neg (by omega)]
      exact (wp1y.up (by omega))
    · skip
      refine g_aload rfl rfl ?_
      refine g_getR rfl f1.1.2.2 f1.2.2.2 ?_
      refine g_goto rfl ?_
      refine g_aret rfl ?_
      refine ⟨p1w, rfl, G1.mono (by omega), ?_⟩
      unfold p_bra_S
      first
        | rw [if_neg (by omega)]
        | rw [if_pos (by omega), if_pos (by omega)]
        | rw [if_pos (by omega), if_neg (by omega)]
      exact (wp1w.up (by omega))
  · skip
    refine g_aload rfl rfl ?_
    refine g_getR rfl f1.1.2.2 f1.2.1 ?_
    refine g_aret rfl ?_
    refine ⟨p1x, rfl, G1.mono (by omega), ?_⟩
    unfold p_bra_S
    first
      | rw [if_neg (by omega)]
      | rw [if_pos (by omega), if_pos (by omega)]
      | rw [if_pos (by omega), if_neg (by omega)]
    exact (wp1x.up (by omega))
def p_harm_S (P : T3) (Q : T3) (R : T3) : T3 := ((p_bra_S R Q (p_cross_S P Q)) * P.1 - (p_bra_S P R (p_cross_S P Q)) * Q.1, (p_bra_S R Q (p_cross_S P Q)) * P.2.1 - (p_bra_S P R (p_cross_S P Q)) * Q.2.1, (p_bra_S R Q (p_cross_S P Q)) * P.2.2 - (p_bra_S P R (p_cross_S P Q)) * Q.2.2)
def p_harm_O (P : T3) (Q : T3) (R : T3) : Option T3 := if P.2.2 = 0 ∨ Q.2.2 = 0 ∨ R.2.2 = 0 ∨ ((p_cross_S P Q).1 = 0 ∧ (p_cross_S P Q).2.1 = 0 ∧ (p_cross_S P Q).2.2 = 0) ∨ ¬ p_dot_S (p_cross_S P Q) R = 0 ∨ ((p_cross_S P R).1 = 0 ∧ (p_cross_S P R).2.1 = 0 ∧ (p_cross_S P R).2.2 = 0) ∨ ((p_cross_S Q R).1 = 0 ∧ (p_cross_S Q R).2.1 = 0 ∧ (p_cross_S Q R).2.2 = 0) then none else some (p_harm_S P Q R)
set_option maxHeartbeats 4000000 in
theorem p_harm {w : aW} {d : Nat} (hd : 6 ≤ d) {h : aH} {c : Nat} (ci : CI h c) {aP : Nat} {P : T3} (tP : TB h c aP P (20)) {aQ : Nat} {Q : T3} (tQ : TB h c aQ Q (20)) {aR : Nat} {R : T3} (tR : TB h c aR R (20))  : WP w d 75 [aO (some (c + 6)), aO (some aP), aO (some aQ), aO (some aR)] h (RO (fun r h1 => Gr h h1 c 45 ∧ OT h1 c r (p_harm_O P Q R) (62))) := by
  obtain ⟨d, rfl⟩ : ∃ d1, d = d1 + 1 := ⟨d - 1, by omega⟩
  refine WP.enter (cd := cd_X2_fourthHarmonic) rfl ?_
  have G0 := Gr.refl ci
  obtain ⟨Px, Py, Pw, fP, wPx, wPy, wPw⟩ := tP
  obtain ⟨Qx, Qy, Qw, fQ, wQx, wQy, wQw⟩ := tQ
  obtain ⟨Rx, Ry, Rw, fR, wRx, wRy, wRw⟩ := tR
  have hls : largs 0 [aO (some (c + 6)), aO (some aP), aO (some aQ), aO (some aR)] = [(0, aO (some (c + 6))), (1, aO (some aP)), (2, aO (some aQ)), (3, aO (some aR))] := rfl
  rw [hls]
  clear hls
  refine g_aload_n rfl rfl ?_
  refine g_aload_n rfl rfl ?_
  refine g_aload_n rfl rfl ?_
  refine g_callVO [aO (some aP), aO (some aQ)] [] rfl rfl rfl rfl (Nat.le_of_ble_eq_true rfl) (G0.cs.kd 6 (by omega) rfl) (p_cross (by omega) G0.ci (show TB h c aP P (20) from ⟨_, _, _, fP, (wPx.up (by omega)), (wPy.up (by omega)), (wPw.up (by omega))⟩) (show TB h c aQ Q (20) from ⟨_, _, _, fQ, (wQx.up (by omega)), (wQy.up (by omega)), (wQw.up (by omega))⟩) (by omega)) ?_
  rintro _ h1 ⟨p1, rfl, g1, p1x, p1y, p1w, f1, wp1x, wp1y, wp1w⟩
  have G1 := G0.trans g1
  refine g_astore (l1 := [(4, aO (some p1)), (0, aO (some (c + 6))), (1, aO (some aP)), (2, aO (some aQ)), (3, aO (some aR))]) rfl rfl ?_
  refine g_aload_n rfl rfl ?_
  refine g_aload_n rfl rfl ?_
  refine g_aload_n rfl rfl ?_
  refine g_aload_n rfl rfl ?_
  refine g_callVI [aO (some aP), aO (some aQ), aO (some aR)] [] rfl rfl rfl rfl (Nat.le_of_ble_eq_true rfl) (G1.cs.kd 6 (by omega) rfl) (p_isOneFar (by omega) G1.ci (show TB h1 c aP P (20) from ⟨_, _, _, (g1.tf fP), ((g1.wb wPx).up (by omega)), ((g1.wb wPy).up (by omega)), ((g1.wb wPw).up (by omega))⟩) (show TB h1 c aQ Q (20) from ⟨_, _, _, (g1.tf fQ), ((g1.wb wQx).up (by omega)), ((g1.wb wQy).up (by omega)), ((g1.wb wQw).up (by omega))⟩) (show TB h1 c aR R (20) from ⟨_, _, _, (g1.tf fR), ((g1.wb wRx).up (by omega)), ((g1.wb wRy).up (by omega)), ((g1.wb wRw).up (by omega))⟩)) ?_
  rintro _ hx2 ⟨ehx2, rfl⟩
  rw [ehx2]
  clear ehx2 hx2
  refine g_b_ne rfl (fun c15 => ?_) (fun c15 => ?_)
  · skip
    refine g_null rfl ?_
    refine g_aret rfl ?_
    refine ⟨G1.mono (by omega), ?_⟩
    unfold p_harm_O
    rw [if_pos (by omega)]
    rfl
  · skip
    refine g_aload_n rfl rfl ?_
    refine g_aload rfl rfl ?_
    refine g_callVI [aO (some p1)] [] rfl rfl rfl rfl (Nat.le_of_ble_eq_true rfl) (G1.cs.kd 6 (by omega) rfl) (p_isNull (by omega) G1.ci (show TB h1 c p1 (p_cross_S P Q) (41) from ⟨_, _, _, f1, (wp1x.up (by omega)), (wp1y.up (by omega)), (wp1w.up (by omega))⟩)) ?_
    rintro _ hx3 ⟨ehx3, rfl⟩
    rw [ehx3]
    clear ehx3 hx3
    refine g_b_ne rfl (fun c24 => ?_) (fun c24 => ?_)
    · skip
      refine g_null rfl ?_
      refine g_aret rfl ?_
      refine ⟨G1.mono (by omega), ?_⟩
      unfold p_harm_O
      rw [if_pos (by omega)]
      rfl
    · skip
      refine g_aload_n rfl rfl ?_
      refine g_getR rfl (G1.cs.kd 6 (by omega) rfl) (G1.cs.rf 5 (by omega) rfl) ?_
      refine g_aload_n rfl rfl ?_
      refine g_aload rfl rfl ?_
      refine g_aload_n rfl rfl ?_
      refine g_callVO [aO (some p1), aO (some aR)] [aO (some (c + 1))] rfl rfl rfl rfl (Nat.le_of_ble_eq_true rfl) (G1.cs.kd 6 (by omega) rfl) (p_dot (by omega) G1.ci (show TB h1 c p1 (p_cross_S P Q) (41) from ⟨_, _, _, f1, (wp1x.up (by omega)), (wp1y.up (by omega)), (wp1w.up (by omega))⟩) (show TB h1 c aR R (41) from ⟨_, _, _, (g1.tf fR), ((g1.wb wRx).up (by omega)), ((g1.wb wRy).up (by omega)), ((g1.wb wRw).up (by omega))⟩) (by omega)) ?_
      rintro _ h4 ⟨p4, rfl, g4, wp4⟩
      have G4 := G1.trans g4
      refine g_callVI [aO (some p4)] [] rfl rfl rfl rfl (Nat.le_of_ble_eq_true rfl) (G4.cs.kd 1 (by omega) rfl) (s_isZero (by omega) G4.ci wp4) ?_
      rintro _ hx5 ⟨ehx5, rfl⟩
      rw [ehx5]
      clear ehx5 hx5
      refine g_b_eq rfl (fun c41 => ?_) (fun c41 => ?_)
      · skip
        refine g_null rfl ?_
        refine g_aret rfl ?_
        refine ⟨G4.mono (by omega), ?_⟩
        unfold p_harm_O
        rw [if_pos (by omega)]
        rfl
      · skip
        refine g_aload_n rfl rfl ?_
        refine g_aload_n rfl rfl ?_
        refine g_aload_n rfl rfl ?_
        refine g_callVI [aO (some aP), aO (some aR)] [] rfl rfl rfl rfl (Nat.le_of_ble_eq_true rfl) (G4.cs.kd 6 (by omega) rfl) (p_areSame (by omega) G4.ci (show TB h4 c aP P (20) from ⟨_, _, _, (g4.tf (g1.tf fP)), ((g4.wb (g1.wb wPx)).up (by omega)), ((g4.wb (g1.wb wPy)).up (by omega)), ((g4.wb (g1.wb wPw)).up (by omega))⟩) (show TB h4 c aR R (20) from ⟨_, _, _, (g4.tf (g1.tf fR)), ((g4.wb (g1.wb wRx)).up (by omega)), ((g4.wb (g1.wb wRy)).up (by omega)), ((g4.wb (g1.wb wRw)).up (by omega))⟩) (by omega)) ?_
        rintro _ h6 ⟨g6, rfl⟩
        have G6 := G4.trans g6
        refine g_b_ne rfl (fun c50 => ?_) (fun c50 => ?_)
        · skip
          refine g_null rfl ?_
          refine g_aret rfl ?_
          refine ⟨G6.mono (by omega), ?_⟩
          unfold p_harm_O
          rw [if_pos (by omega)]
          rfl
        · skip
          refine g_aload_n rfl rfl ?_
          refine g_aload_n rfl rfl ?_
          refine g_aload_n rfl rfl ?_
          refine g_callVI [aO (some aQ), aO (some aR)] [] rfl rfl rfl rfl (Nat.le_of_ble_eq_true rfl) (G6.cs.kd 6 (by omega) rfl) (p_areSame (by omega) G6.ci (show TB h6 c aQ Q (20) from ⟨_, _, _, (g6.tf (g4.tf (g1.tf fQ))), ((g6.wb (g4.wb (g1.wb wQx))).up (by omega)), ((g6.wb (g4.wb (g1.wb wQy))).up (by omega)), ((g6.wb (g4.wb (g1.wb wQw))).up (by omega))⟩) (show TB h6 c aR R (20) from ⟨_, _, _, (g6.tf (g4.tf (g1.tf fR))), ((g6.wb (g4.wb (g1.wb wRx))).up (by omega)), ((g6.wb (g4.wb (g1.wb wRy))).up (by omega)), ((g6.wb (g4.wb (g1.wb wRw))).up (by omega))⟩) (by omega)) ?_
          rintro _ h7 ⟨g7, rfl⟩
          have G7 := G6.trans g7
          refine g_b_eq rfl (fun c59 => ?_) (fun c59 => ?_)
          · skip
            refine g_aload_n rfl rfl ?_
            refine g_aload_n rfl rfl ?_
            refine g_aload_n rfl rfl ?_
            refine g_aload rfl rfl ?_
            refine g_callVO [aO (some aR), aO (some aQ), aO (some p1)] [] rfl rfl rfl rfl (Nat.le_of_ble_eq_true rfl) (G7.cs.kd 6 (by omega) rfl) (p_bra (by omega) G7.ci (show TB h7 c aR R (20) from ⟨_, _, _, (g7.tf (g6.tf (g4.tf (g1.tf fR)))), ((g7.wb (g6.wb (g4.wb (g1.wb wRx)))).up (by omega)), ((g7.wb (g6.wb (g4.wb (g1.wb wRy)))).up (by omega)), ((g7.wb (g6.wb (g4.wb (g1.wb wRw)))).up (by omega))⟩) (show TB h7 c aQ Q (20) from ⟨_, _, _, (g7.tf (g6.tf (g4.tf (g1.tf fQ)))), ((g7.wb (g6.wb (g4.wb (g1.wb wQx)))).up (by omega)), ((g7.wb (g6.wb (g4.wb (g1.wb wQy)))).up (by omega)), ((g7.wb (g6.wb (g4.wb (g1.wb wQw)))).up (by omega))⟩) (show TB h7 c p1 (p_cross_S P Q) (41) from ⟨_, _, _, (g7.tf (g6.tf (g4.tf f1))), ((g7.wb (g6.wb (g4.wb wp1x))).up (by omega)), ((g7.wb (g6.wb (g4.wb wp1y))).up (by omega)), ((g7.wb (g6.wb (g4.wb wp1w))).up (by omega))⟩)) ?_
            rintro _ h8 ⟨p8, rfl, g8, wp8⟩
            have G8 := G7.trans g8
            refine g_astore (l1 := [(5, aO (some p8)), (4, aO (some p1)), (0, aO (some (c + 6))), (1, aO (some aP)), (2, aO (some aQ)), (3, aO (some aR))]) rfl rfl ?_
            refine g_aload_n rfl rfl ?_
            refine g_aload_n rfl rfl ?_
            refine g_aload_n rfl rfl ?_
            refine g_aload rfl rfl ?_
            refine g_callVO [aO (some aP), aO (some aR), aO (some p1)] [] rfl rfl rfl rfl (Nat.le_of_ble_eq_true rfl) (G8.cs.kd 6 (by omega) rfl) (p_bra (by omega) G8.ci (show TB h8 c aP P (20) from ⟨_, _, _, (g8.tf (g7.tf (g6.tf (g4.tf (g1.tf fP))))), ((g8.wb (g7.wb (g6.wb (g4.wb (g1.wb wPx))))).up (by omega)), ((g8.wb (g7.wb (g6.wb (g4.wb (g1.wb wPy))))).up (by omega)), ((g8.wb (g7.wb (g6.wb (g4.wb (g1.wb wPw))))).up (by omega))⟩) (show TB h8 c aR R (20) from ⟨_, _, _, (g8.tf (g7.tf (g6.tf (g4.tf (g1.tf fR))))), ((g8.wb (g7.wb (g6.wb (g4.wb (g1.wb wRx))))).up (by omega)), ((g8.wb (g7.wb (g6.wb (g4.wb (g1.wb wRy))))).up (by omega)), ((g8.wb (g7.wb (g6.wb (g4.wb (g1.wb wRw))))).up (by omega))⟩) (show TB h8 c p1 (p_cross_S P Q) (41) from ⟨_, _, _, (g8.tf (g7.tf (g6.tf (g4.tf f1)))), ((g8.wb (g7.wb (g6.wb (g4.wb wp1x)))).up (by omega)), ((g8.wb (g7.wb (g6.wb (g4.wb wp1y)))).up (by omega)), ((g8.wb (g7.wb (g6.wb (g4.wb wp1w)))).up (by omega))⟩)) ?_
            rintro _ h9 ⟨p9, rfl, g9, wp9⟩
            have G9 := G8.trans g9
            refine g_astore (l1 := [(6, aO (some p9)), (5, aO (some p8)), (4, aO (some p1)), (0, aO (some (c + 6))), (1, aO (some aP)), (2, aO (some aQ)), (3, aO (some aR))]) rfl rfl ?_
            refine g_new rfl ?_
            obtain ⟨g10, ob10⟩ := Gr.mk (k := 19) (m := 3) G9.ci (by decide) (by decide)
            obtain ⟨t10, et10⟩ : ∃ t, t = hz h9 := ⟨_, rfl⟩
            obtain ⟨h10, eh10⟩ : ∃ hq9, hq9 = hnew h9 19 3 := ⟨_, rfl⟩
            rw [← eh10, ← et10] at ob10
            rw [← eh10] at g10
            refine g_hp (h2 := h10) eh10.symm ?_
            refine g_top (v2 := aO (some t10)) (by rw [et10]) ?_
            have G10 := G9.trans g10
            refine g_dup rfl rfl ?_
            refine g_aload_n rfl rfl ?_
            refine g_getR rfl (G10.cs.kd 6 (by omega) rfl) (G10.cs.rf 5 (by omega) rfl) ?_
            refine g_aload rfl rfl ?_
            refine g_aload_n rfl rfl ?_
            refine g_getR rfl (g10.tf (g9.tf (g8.tf (g7.tf (g6.tf (g4.tf (g1.tf fP))))))).1.2.2 (g10.tf (g9.tf (g8.tf (g7.tf (g6.tf (g4.tf (g1.tf fP))))))).2.1 ?_
            refine g_aload rfl rfl ?_
            refine g_aload_n rfl rfl ?_
            refine g_getR rfl (g10.tf (g9.tf (g8.tf (g7.tf (g6.tf (g4.tf (g1.tf fQ))))))).1.2.2 (g10.tf (g9.tf (g8.tf (g7.tf (g6.tf (g4.tf (g1.tf fQ))))))).2.1 ?_
            refine g_callVO [aO (some p8), aO (some Px), aO (some p9), aO (some Qx)] [aO (some t10), aO (some t10)] rfl rfl rfl rfl (Nat.le_of_ble_eq_true rfl) (G10.cs.kd 1 (by omega) rfl) (s_diff (by omega) G10.ci (g10.wb (g9.wb wp8)) (g10.wb (g9.wb (g8.wb (g7.wb (g6.wb (g4.wb (g1.wb wPx))))))) (g10.wb wp9) (g10.wb (g9.wb (g8.wb (g7.wb (g6.wb (g4.wb (g1.wb wQx))))))) (62) (by omega) (by omega) (by omega)) ?_
            rintro _ h11 ⟨p11, rfl, g11, wp11⟩
            have G11 := G10.trans g11
            refine g_aload_n rfl rfl ?_
            refine g_getR rfl (G11.cs.kd 6 (by omega) rfl) (G11.cs.rf 5 (by omega) rfl) ?_
            refine g_aload rfl rfl ?_
            refine g_aload_n rfl rfl ?_
            refine g_getR rfl (g11.tf (g10.tf (g9.tf (g8.tf (g7.tf (g6.tf (g4.tf (g1.tf fP)))))))).1.2.2 (g11.tf (g10.tf (g9.tf (g8.tf (g7.tf (g6.tf (g4.tf (g1.tf fP)))))))).2.2.1 ?_
            refine g_aload rfl rfl ?_
            refine g_aload_n rfl rfl ?_
            refine g_getR rfl (g11.tf (g10.tf (g9.tf (g8.tf (g7.tf (g6.tf (g4.tf (g1.tf fQ)))))))).1.2.2 (g11.tf (g10.tf (g9.tf (g8.tf (g7.tf (g6.tf (g4.tf (g1.tf fQ)))))))).2.2.1 ?_
            refine g_callVO [aO (some p8), aO (some Py), aO (some p9), aO (some Qy)] [aO (some p11), aO (some t10), aO (some t10)] rfl rfl rfl rfl (Nat.le_of_ble_eq_true rfl) (G11.cs.kd 1 (by omega) rfl) (s_diff (by omega) G11.ci (g11.wb (g10.wb (g9.wb wp8))) (g11.wb (g10.wb (g9.wb (g8.wb (g7.wb (g6.wb (g4.wb (g1.wb wPy)))))))) (g11.wb (g10.wb wp9)) (g11.wb (g10.wb (g9.wb (g8.wb (g7.wb (g6.wb (g4.wb (g1.wb wQy)))))))) (62) (by omega) (by omega) (by omega)) ?_
            rintro _ h12 ⟨p12, rfl, g12, wp12⟩
            have G12 := G11.trans g12
            refine g_aload_n rfl rfl ?_
            refine g_getR rfl (G12.cs.kd 6 (by omega) rfl) (G12.cs.rf 5 (by omega) rfl) ?_
            refine g_aload rfl rfl ?_
            refine g_aload_n rfl rfl ?_
            refine g_getR rfl (g12.tf (g11.tf (g10.tf (g9.tf (g8.tf (g7.tf (g6.tf (g4.tf (g1.tf fP))))))))).1.2.2 (g12.tf (g11.tf (g10.tf (g9.tf (g8.tf (g7.tf (g6.tf (g4.tf (g1.tf fP))))))))).2.2.2 ?_
            refine g_aload rfl rfl ?_
            refine g_aload_n rfl rfl ?_
            refine g_getR rfl (g12.tf (g11.tf (g10.tf (g9.tf (g8.tf (g7.tf (g6.tf (g4.tf (g1.tf fQ))))))))).1.2.2 (g12.tf (g11.tf (g10.tf (g9.tf (g8.tf (g7.tf (g6.tf (g4.tf (g1.tf fQ))))))))).2.2.2 ?_
            refine g_callVO [aO (some p8), aO (some Pw), aO (some p9), aO (some Qw)] [aO (some p12), aO (some p11), aO (some t10), aO (some t10)] rfl rfl rfl rfl (Nat.le_of_ble_eq_true rfl) (G12.cs.kd 1 (by omega) rfl) (s_diff (by omega) G12.ci (g12.wb (g11.wb (g10.wb (g9.wb wp8)))) (g12.wb (g11.wb (g10.wb (g9.wb (g8.wb (g7.wb (g6.wb (g4.wb (g1.wb wPw))))))))) (g12.wb (g11.wb (g10.wb wp9))) (g12.wb (g11.wb (g10.wb (g9.wb (g8.wb (g7.wb (g6.wb (g4.wb (g1.wb wQw))))))))) (62) (by omega) (by omega) (by omega)) ?_
            rintro _ h13 ⟨p13, rfl, g13, wp13⟩
            have G13 := G12.trans g13
            refine g_callIN [aO (some p11), aO (some p12), aO (some p13)] [aO (some t10)] rfl (by decide) rfl rfl rfl (Nat.le_of_ble_eq_true rfl) (g13.ob (g12.ob (g11.ob ob10))).2.2 (k_Triple (by omega) (g13.ob (g12.ob (g11.ob ob10))).2.2 (g13.ob (g12.ob (g11.ob ob10))).1 p11 p12 p13) ?_
            rintro _ rfl
            have c14 := ct3 (P := ((p_bra_S R Q (p_cross_S P Q)) * P.1 - (p_bra_S P R (p_cross_S P Q)) * Q.1, (p_bra_S R Q (p_cross_S P Q)) * P.2.1 - (p_bra_S P R (p_cross_S P Q)) * Q.2.1, (p_bra_S R Q (p_cross_S P Q)) * P.2.2 - (p_bra_S P R (p_cross_S P Q)) * Q.2.2)) (k := 62) G13 (g13.ob (g12.ob (g11.ob ob10))) (by have := G9.2.1.1; omega) ((g13.wb (g12.wb wp11)).up (by omega)) ((g13.wb wp12).up (by omega)) (wp13.up (by omega))
            have faP_14 := c14.2.2.2.1 _ _ _ _ (by have := (g9.tf (g8.tf (g7.tf (g6.tf (g4.tf (g1.tf fP)))))).1.1; omega) (g13.tf (g12.tf (g11.tf (g10.tf (g9.tf (g8.tf (g7.tf (g6.tf (g4.tf (g1.tf fP))))))))))
            have faQ_14 := c14.2.2.2.1 _ _ _ _ (by have := (g9.tf (g8.tf (g7.tf (g6.tf (g4.tf (g1.tf fQ)))))).1.1; omega) (g13.tf (g12.tf (g11.tf (g10.tf (g9.tf (g8.tf (g7.tf (g6.tf (g4.tf (g1.tf fQ))))))))))
            have faR_14 := c14.2.2.2.1 _ _ _ _ (by have := (g9.tf (g8.tf (g7.tf (g6.tf (g4.tf (g1.tf fR)))))).1.1; omega) (g13.tf (g12.tf (g11.tf (g10.tf (g9.tf (g8.tf (g7.tf (g6.tf (g4.tf (g1.tf fR))))))))))
            have fp1_14 := c14.2.2.2.1 _ _ _ _ (by have := (g9.tf (g8.tf (g7.tf (g6.tf (g4.tf f1))))).1.1; omega) (g13.tf (g12.tf (g11.tf (g10.tf (g9.tf (g8.tf (g7.tf (g6.tf (g4.tf f1)))))))))
            obtain ⟨h14, eh14⟩ : ∃ hq9, hq9 = pt3 h13 t10 p11 p12 p13 := ⟨_, rfl⟩
            refine g_hp (h2 := h14) (by rw [eh14]; rfl) ?_
            rw [← eh14] at c14 faP_14 faQ_14 faR_14 fp1_14
            have G14 := c14.1
            obtain ⟨q14x, q14y, q14w, f14, wq14x, wq14y, wq14w⟩ := c14.2.1
            refine g_aret rfl ?_
            refine ⟨G14.mono (by omega), ?_⟩
            unfold p_harm_O
            rw [if_neg (by omega)]
            exact ⟨t10, rfl, _, _, _, f14, (wq14x.up (by omega)), (wq14y.up (by omega)), (wq14w.up (by omega))⟩
          · skip
            refine g_null rfl ?_
            refine g_aret rfl ?_
            refine ⟨G7.mono (by omega), ?_⟩
            unfold p_harm_O
            rw [if_pos (by omega)]
            rfl
def p_moved_S (P : T3) (Q : T3) (R : T3) : T3 := (p_over3_S (-P.1) P.2.2 Q.1 Q.2.2 R.1 R.2.2, p_over3_S (-P.2.1) P.2.2 Q.2.1 Q.2.2 R.2.1 R.2.2, (P.2.2 * Q.2.2) * R.2.2)
def p_moved_O (P : T3) (Q : T3) (R : T3) : Option T3 := if P.2.2 = 0 ∨ Q.2.2 = 0 ∨ R.2.2 = 0 then none else some (p_moved_S P Q R)
set_option maxHeartbeats 4000000 in
theorem p_moved {w : aW} {d : Nat} (hd : 5 ≤ d) {h : aH} {c : Nat} (ci : CI h c) {aP : Nat} {P : T3} (tP : TB h c aP P (20)) {aQ : Nat} {Q : T3} (tQ : TB h c aQ Q (20)) {aR : Nat} {R : T3} (tR : TB h c aR R (20))  : WP w d 77 [aO (some (c + 6)), aO (some aP), aO (some aQ), aO (some aR)] h (RO (fun r h1 => Gr h h1 c 11 ∧ OT h1 c r (p_moved_O P Q R) (62))) := by
  obtain ⟨d, rfl⟩ : ∃ d1, d = d1 + 1 := ⟨d - 1, by omega⟩
  refine WP.enter (cd := cd_X2_moved) rfl ?_
  have G0 := Gr.refl ci
  obtain ⟨Px, Py, Pw, fP, wPx, wPy, wPw⟩ := tP
  obtain ⟨Qx, Qy, Qw, fQ, wQx, wQy, wQw⟩ := tQ
  obtain ⟨Rx, Ry, Rw, fR, wRx, wRy, wRw⟩ := tR
  have hls : largs 0 [aO (some (c + 6)), aO (some aP), aO (some aQ), aO (some aR)] = [(0, aO (some (c + 6))), (1, aO (some aP)), (2, aO (some aQ)), (3, aO (some aR))] := rfl
  rw [hls]
  clear hls
  refine g_aload_n rfl rfl ?_
  refine g_aload_n rfl rfl ?_
  refine g_aload_n rfl rfl ?_
  refine g_aload_n rfl rfl ?_
  refine g_callVI [aO (some aP), aO (some aQ), aO (some aR)] [] rfl rfl rfl rfl (Nat.le_of_ble_eq_true rfl) (G0.cs.kd 6 (by omega) rfl) (p_isOneFar (by omega) G0.ci (show TB h c aP P (20) from ⟨_, _, _, fP, (wPx.up (by omega)), (wPy.up (by omega)), (wPw.up (by omega))⟩) (show TB h c aQ Q (20) from ⟨_, _, _, fQ, (wQx.up (by omega)), (wQy.up (by omega)), (wQw.up (by omega))⟩) (show TB h c aR R (20) from ⟨_, _, _, fR, (wRx.up (by omega)), (wRy.up (by omega)), (wRw.up (by omega))⟩)) ?_
  rintro _ hx1 ⟨ehx1, rfl⟩
  rw [ehx1]
  clear ehx1 hx1
  refine g_b_eq rfl (fun c7 => ?_) (fun c7 => ?_)
  · skip
    refine g_aload_n rfl rfl ?_
    refine g_getR rfl (G0.cs.kd 6 (by omega) rfl) (G0.cs.rf 5 (by omega) rfl) ?_
    refine g_aload_n rfl rfl ?_
    refine g_getR rfl (G0.cs.kd 6 (by omega) rfl) (G0.cs.rf 5 (by omega) rfl) ?_
    refine g_aload_n rfl rfl ?_
    refine g_getR rfl fP.1.2.2 fP.2.2.2 ?_
    refine g_aload_n rfl rfl ?_
    refine g_getR rfl fQ.1.2.2 fQ.2.2.2 ?_
    refine g_callVO [aO (some Pw), aO (some Qw)] [aO (some (c + 1))] rfl rfl rfl rfl (Nat.le_of_ble_eq_true rfl) (G0.cs.kd 1 (by omega) rfl) (s_times (by omega) G0.ci wPw wQw (by omega)) ?_
    rintro _ h2 ⟨p2, rfl, g2, wp2⟩
    have G2 := G0.trans g2
    refine g_aload_n rfl rfl ?_
    refine g_getR rfl (g2.tf fR).1.2.2 (g2.tf fR).2.2.2 ?_
    refine g_callVO [aO (some p2), aO (some Rw)] [] rfl rfl rfl rfl (Nat.le_of_ble_eq_true rfl) (G2.cs.kd 1 (by omega) rfl) (s_times (by omega) G2.ci wp2 (g2.wb wRw) (by omega)) ?_
    rintro _ h3 ⟨p3, rfl, g3, wp3⟩
    have G3 := G2.trans g3
    refine g_astore (l1 := [(4, aO (some p3)), (0, aO (some (c + 6))), (1, aO (some aP)), (2, aO (some aQ)), (3, aO (some aR))]) rfl rfl ?_
    refine g_new rfl ?_
    obtain ⟨g4, ob4⟩ := Gr.mk (k := 19) (m := 3) G3.ci (by decide) (by decide)
    obtain ⟨t4, et4⟩ : ∃ t, t = hz h3 := ⟨_, rfl⟩
    obtain ⟨h4, eh4⟩ : ∃ hq9, hq9 = hnew h3 19 3 := ⟨_, rfl⟩
    rw [← eh4, ← et4] at ob4
    rw [← eh4] at g4
    refine g_hp (h2 := h4) eh4.symm ?_
    refine g_top (v2 := aO (some t4)) (by rw [et4]) ?_
    have G4 := G3.trans g4
    refine g_dup rfl rfl ?_
    refine g_aload_n rfl rfl ?_
    refine g_aload_n rfl rfl ?_
    refine g_getR rfl (G4.cs.kd 6 (by omega) rfl) (G4.cs.rf 5 (by omega) rfl) ?_
    refine g_aload_n rfl rfl ?_
    refine g_getR rfl (g4.tf (g3.tf (g2.tf fP))).1.2.2 (g4.tf (g3.tf (g2.tf fP))).2.1 ?_
    refine g_callVO [aO (some Px)] [aO (some (c + 6)), aO (some t4), aO (some t4)] rfl rfl rfl rfl (Nat.le_of_ble_eq_true rfl) (G4.cs.kd 1 (by omega) rfl) (s_neg (by omega) G4.ci (g4.wb (g3.wb (g2.wb wPx))) (by omega)) ?_
    rintro _ h5 ⟨p5, rfl, g5, wp5⟩
    have G5 := G4.trans g5
    refine g_aload_n rfl rfl ?_
    refine g_getR rfl (g5.tf (g4.tf (g3.tf (g2.tf fP)))).1.2.2 (g5.tf (g4.tf (g3.tf (g2.tf fP)))).2.2.2 ?_
    refine g_aload_n rfl rfl ?_
    refine g_getR rfl (g5.tf (g4.tf (g3.tf (g2.tf fQ)))).1.2.2 (g5.tf (g4.tf (g3.tf (g2.tf fQ)))).2.1 ?_
    refine g_aload_n rfl rfl ?_
    refine g_getR rfl (g5.tf (g4.tf (g3.tf (g2.tf fQ)))).1.2.2 (g5.tf (g4.tf (g3.tf (g2.tf fQ)))).2.2.2 ?_
    refine g_aload_n rfl rfl ?_
    refine g_getR rfl (g5.tf (g4.tf (g3.tf (g2.tf fR)))).1.2.2 (g5.tf (g4.tf (g3.tf (g2.tf fR)))).2.1 ?_
    refine g_aload_n rfl rfl ?_
    refine g_getR rfl (g5.tf (g4.tf (g3.tf (g2.tf fR)))).1.2.2 (g5.tf (g4.tf (g3.tf (g2.tf fR)))).2.2.2 ?_
    refine g_callVO [aO (some p5), aO (some Pw), aO (some Qx), aO (some Qw), aO (some Rx), aO (some Rw)] [aO (some t4), aO (some t4)] rfl rfl rfl rfl (Nat.le_of_ble_eq_true rfl) (G5.cs.kd 6 (by omega) rfl) (p_over3 (by omega) G5.ci (show WB h5 c p5 (-P.1) (20) from (wp5.up (by omega))) (show WB h5 c Pw P.2.2 (20) from ((g5.wb (g4.wb (g3.wb (g2.wb wPw)))).up (by omega))) (show WB h5 c Qx Q.1 (20) from ((g5.wb (g4.wb (g3.wb (g2.wb wQx)))).up (by omega))) (show WB h5 c Qw Q.2.2 (20) from ((g5.wb (g4.wb (g3.wb (g2.wb wQw)))).up (by omega))) (show WB h5 c Rx R.1 (20) from ((g5.wb (g4.wb (g3.wb (g2.wb wRx)))).up (by omega))) (show WB h5 c Rw R.2.2 (20) from ((g5.wb (g4.wb (g3.wb (g2.wb wRw)))).up (by omega))) (by omega)) ?_
    rintro _ h6 ⟨p6, rfl, g6, wp6⟩
    have G6 := G5.trans g6
    refine g_aload_n rfl rfl ?_
    refine g_aload_n rfl rfl ?_
    refine g_getR rfl (G6.cs.kd 6 (by omega) rfl) (G6.cs.rf 5 (by omega) rfl) ?_
    refine g_aload_n rfl rfl ?_
    refine g_getR rfl (g6.tf (g5.tf (g4.tf (g3.tf (g2.tf fP))))).1.2.2 (g6.tf (g5.tf (g4.tf (g3.tf (g2.tf fP))))).2.2.1 ?_
    refine g_callVO [aO (some Py)] [aO (some (c + 6)), aO (some p6), aO (some t4), aO (some t4)] rfl rfl rfl rfl (Nat.le_of_ble_eq_true rfl) (G6.cs.kd 1 (by omega) rfl) (s_neg (by omega) G6.ci (g6.wb (g5.wb (g4.wb (g3.wb (g2.wb wPy))))) (by omega)) ?_
    rintro _ h7 ⟨p7, rfl, g7, wp7⟩
    have G7 := G6.trans g7
    refine g_aload_n rfl rfl ?_
    refine g_getR rfl (g7.tf (g6.tf (g5.tf (g4.tf (g3.tf (g2.tf fP)))))).1.2.2 (g7.tf (g6.tf (g5.tf (g4.tf (g3.tf (g2.tf fP)))))).2.2.2 ?_
    refine g_aload_n rfl rfl ?_
    refine g_getR rfl (g7.tf (g6.tf (g5.tf (g4.tf (g3.tf (g2.tf fQ)))))).1.2.2 (g7.tf (g6.tf (g5.tf (g4.tf (g3.tf (g2.tf fQ)))))).2.2.1 ?_
    refine g_aload_n rfl rfl ?_
    refine g_getR rfl (g7.tf (g6.tf (g5.tf (g4.tf (g3.tf (g2.tf fQ)))))).1.2.2 (g7.tf (g6.tf (g5.tf (g4.tf (g3.tf (g2.tf fQ)))))).2.2.2 ?_
    refine g_aload_n rfl rfl ?_
    refine g_getR rfl (g7.tf (g6.tf (g5.tf (g4.tf (g3.tf (g2.tf fR)))))).1.2.2 (g7.tf (g6.tf (g5.tf (g4.tf (g3.tf (g2.tf fR)))))).2.2.1 ?_
    refine g_aload_n rfl rfl ?_
    refine g_getR rfl (g7.tf (g6.tf (g5.tf (g4.tf (g3.tf (g2.tf fR)))))).1.2.2 (g7.tf (g6.tf (g5.tf (g4.tf (g3.tf (g2.tf fR)))))).2.2.2 ?_
    refine g_callVO [aO (some p7), aO (some Pw), aO (some Qy), aO (some Qw), aO (some Ry), aO (some Rw)] [aO (some p6), aO (some t4), aO (some t4)] rfl rfl rfl rfl (Nat.le_of_ble_eq_true rfl) (G7.cs.kd 6 (by omega) rfl) (p_over3 (by omega) G7.ci (show WB h7 c p7 (-P.2.1) (20) from (wp7.up (by omega))) (show WB h7 c Pw P.2.2 (20) from ((g7.wb (g6.wb (g5.wb (g4.wb (g3.wb (g2.wb wPw)))))).up (by omega))) (show WB h7 c Qy Q.2.1 (20) from ((g7.wb (g6.wb (g5.wb (g4.wb (g3.wb (g2.wb wQy)))))).up (by omega))) (show WB h7 c Qw Q.2.2 (20) from ((g7.wb (g6.wb (g5.wb (g4.wb (g3.wb (g2.wb wQw)))))).up (by omega))) (show WB h7 c Ry R.2.1 (20) from ((g7.wb (g6.wb (g5.wb (g4.wb (g3.wb (g2.wb wRy)))))).up (by omega))) (show WB h7 c Rw R.2.2 (20) from ((g7.wb (g6.wb (g5.wb (g4.wb (g3.wb (g2.wb wRw)))))).up (by omega))) (by omega)) ?_
    rintro _ h8 ⟨p8, rfl, g8, wp8⟩
    have G8 := G7.trans g8
    refine g_aload rfl rfl ?_
    refine g_callIN [aO (some p6), aO (some p8), aO (some p3)] [aO (some t4)] rfl (by decide) rfl rfl rfl (Nat.le_of_ble_eq_true rfl) (g8.ob (g7.ob (g6.ob (g5.ob ob4)))).2.2 (k_Triple (by omega) (g8.ob (g7.ob (g6.ob (g5.ob ob4)))).2.2 (g8.ob (g7.ob (g6.ob (g5.ob ob4)))).1 p6 p8 p3) ?_
    rintro _ rfl
    have c9 := ct3 (P := (p_over3_S (-P.1) P.2.2 Q.1 Q.2.2 R.1 R.2.2, p_over3_S (-P.2.1) P.2.2 Q.2.1 Q.2.2 R.2.1 R.2.2, (P.2.2 * Q.2.2) * R.2.2)) (k := 62) G8 (g8.ob (g7.ob (g6.ob (g5.ob ob4)))) (by have := G3.2.1.1; omega) ((g8.wb (g7.wb wp6)).up (by omega)) (wp8.up (by omega)) ((g8.wb (g7.wb (g6.wb (g5.wb (g4.wb wp3))))).up (by omega))
    have faP_9 := c9.2.2.2.1 _ _ _ _ (by have := (g3.tf (g2.tf fP)).1.1; omega) (g8.tf (g7.tf (g6.tf (g5.tf (g4.tf (g3.tf (g2.tf fP)))))))
    have faQ_9 := c9.2.2.2.1 _ _ _ _ (by have := (g3.tf (g2.tf fQ)).1.1; omega) (g8.tf (g7.tf (g6.tf (g5.tf (g4.tf (g3.tf (g2.tf fQ)))))))
    have faR_9 := c9.2.2.2.1 _ _ _ _ (by have := (g3.tf (g2.tf fR)).1.1; omega) (g8.tf (g7.tf (g6.tf (g5.tf (g4.tf (g3.tf (g2.tf fR)))))))
    obtain ⟨h9, eh9⟩ : ∃ hq9, hq9 = pt3 h8 t4 p6 p8 p3 := ⟨_, rfl⟩
    refine g_hp (h2 := h9) (by rw [eh9]; rfl) ?_
    rw [← eh9] at c9 faP_9 faQ_9 faR_9
    have G9 := c9.1
    obtain ⟨q9x, q9y, q9w, f9, wq9x, wq9y, wq9w⟩ := c9.2.1
    refine g_aret rfl ?_
    refine ⟨G9.mono (by omega), ?_⟩
    unfold p_moved_O
    rw [if_neg (by omega)]
    exact ⟨t4, rfl, _, _, _, f9, (wq9x.up (by omega)), (wq9y.up (by omega)), (wq9w.up (by omega))⟩
  · skip
    refine g_null rfl ?_
    refine g_aret rfl ?_
    refine ⟨G0.mono (by omega), ?_⟩
    unfold p_moved_O
    rw [if_pos (by omega)]
    rfl
def p_turned_S (P : T3) (R : T3) : T3 := ((P.1 * R.2.2) - (R.2.1 * P.2.2 - P.2.1 * R.2.2), (P.2.1 * R.2.2) + (R.1 * P.2.2 - P.1 * R.2.2), P.2.2 * R.2.2)
def p_turned_O (P : T3) (R : T3) : Option T3 := if P.2.2 = 0 ∨ R.2.2 = 0 then none else some (p_turned_S P R)
set_option maxHeartbeats 4000000 in
theorem p_turned {w : aW} {d : Nat} (hd : 4 ≤ d) {h : aH} {c : Nat} (ci : CI h c) {aP : Nat} {P : T3} (tP : TB h c aP P (20)) {aR : Nat} {R : T3} (tR : TB h c aR R (20))  : WP w d 78 [aO (some (c + 6)), aO (some aP), aO (some aR)] h (RO (fun r h1 => Gr h h1 c 10 ∧ OT h1 c r (p_turned_O P R) (42))) := by
  obtain ⟨d, rfl⟩ : ∃ d1, d = d1 + 1 := ⟨d - 1, by omega⟩
  refine WP.enter (cd := cd_X2_turned) rfl ?_
  have G0 := Gr.refl ci
  obtain ⟨Px, Py, Pw, fP, wPx, wPy, wPw⟩ := tP
  obtain ⟨Rx, Ry, Rw, fR, wRx, wRy, wRw⟩ := tR
  have hls : largs 0 [aO (some (c + 6)), aO (some aP), aO (some aR)] = [(0, aO (some (c + 6))), (1, aO (some aP)), (2, aO (some aR))] := rfl
  rw [hls]
  clear hls
  refine g_aload_n rfl rfl ?_
  refine g_aload_n rfl rfl ?_
  refine g_callVI [aO (some aP)] [] rfl rfl rfl rfl (Nat.le_of_ble_eq_true rfl) (G0.cs.kd 6 (by omega) rfl) (p_isFar (by omega) G0.ci (show TB h c aP P (20) from ⟨_, _, _, fP, (wPx.up (by omega)), (wPy.up (by omega)), (wPw.up (by omega))⟩)) ?_
  rintro _ hx1 ⟨ehx1, rfl⟩
  rw [ehx1]
  clear ehx1 hx1
  refine g_b_ne rfl (fun c5 => ?_) (fun c5 => ?_)
  · skip
    refine g_null rfl ?_
    refine g_aret rfl ?_
    refine ⟨G0.mono (by omega), ?_⟩
    unfold p_turned_O
    rw [if_pos (by omega)]
    rfl
  · skip
    refine g_aload_n rfl rfl ?_
    refine g_aload_n rfl rfl ?_
    refine g_callVI [aO (some aR)] [] rfl rfl rfl rfl (Nat.le_of_ble_eq_true rfl) (G0.cs.kd 6 (by omega) rfl) (p_isFar (by omega) G0.ci (show TB h c aR R (20) from ⟨_, _, _, fR, (wRx.up (by omega)), (wRy.up (by omega)), (wRw.up (by omega))⟩)) ?_
    rintro _ hx2 ⟨ehx2, rfl⟩
    rw [ehx2]
    clear ehx2 hx2
    refine g_b_eq rfl (fun c13 => ?_) (fun c13 => ?_)
    · skip
      refine g_aload_n rfl rfl ?_
      refine g_getR rfl (G0.cs.kd 6 (by omega) rfl) (G0.cs.rf 5 (by omega) rfl) ?_
      refine g_aload_n rfl rfl ?_
      refine g_getR rfl fR.1.2.2 fR.2.1 ?_
      refine g_aload_n rfl rfl ?_
      refine g_getR rfl fP.1.2.2 fP.2.2.2 ?_
      refine g_aload_n rfl rfl ?_
      refine g_getR rfl fP.1.2.2 fP.2.1 ?_
      refine g_aload_n rfl rfl ?_
      refine g_getR rfl fR.1.2.2 fR.2.2.2 ?_
      refine g_callVO [aO (some Rx), aO (some Pw), aO (some Px), aO (some Rw)] [] rfl rfl rfl rfl (Nat.le_of_ble_eq_true rfl) (G0.cs.kd 1 (by omega) rfl) (s_diff (by omega) G0.ci wRx wPw wPx wRw (41) (by omega) (by omega) (by omega)) ?_
      rintro _ h3 ⟨p3, rfl, g3, wp3⟩
      have G3 := G0.trans g3
      refine g_astore_n (l1 := [(3, aO (some p3)), (0, aO (some (c + 6))), (1, aO (some aP)), (2, aO (some aR))]) rfl rfl ?_
      refine g_aload_n rfl rfl ?_
      refine g_getR rfl (G3.cs.kd 6 (by omega) rfl) (G3.cs.rf 5 (by omega) rfl) ?_
      refine g_aload_n rfl rfl ?_
      refine g_getR rfl (g3.tf fR).1.2.2 (g3.tf fR).2.2.1 ?_
      refine g_aload_n rfl rfl ?_
      refine g_getR rfl (g3.tf fP).1.2.2 (g3.tf fP).2.2.2 ?_
      refine g_aload_n rfl rfl ?_
      refine g_getR rfl (g3.tf fP).1.2.2 (g3.tf fP).2.2.1 ?_
      refine g_aload_n rfl rfl ?_
      refine g_getR rfl (g3.tf fR).1.2.2 (g3.tf fR).2.2.2 ?_
      refine g_callVO [aO (some Ry), aO (some Pw), aO (some Py), aO (some Rw)] [] rfl rfl rfl rfl (Nat.le_of_ble_eq_true rfl) (G3.cs.kd 1 (by omega) rfl) (s_diff (by omega) G3.ci (g3.wb wRy) (g3.wb wPw) (g3.wb wPy) (g3.wb wRw) (41) (by omega) (by omega) (by omega)) ?_
      rintro _ h4 ⟨p4, rfl, g4, wp4⟩
      have G4 := G3.trans g4
      refine g_astore (l1 := [(4, aO (some p4)), (3, aO (some p3)), (0, aO (some (c + 6))), (1, aO (some aP)), (2, aO (some aR))]) rfl rfl ?_
      refine g_new rfl ?_
      obtain ⟨g5, ob5⟩ := Gr.mk (k := 19) (m := 3) G4.ci (by decide) (by decide)
      obtain ⟨t5, et5⟩ : ∃ t, t = hz h4 := ⟨_, rfl⟩
      obtain ⟨h5, eh5⟩ : ∃ hq9, hq9 = hnew h4 19 3 := ⟨_, rfl⟩
      rw [← eh5, ← et5] at ob5
      rw [← eh5] at g5
      refine g_hp (h2 := h5) eh5.symm ?_
      refine g_top (v2 := aO (some t5)) (by rw [et5]) ?_
      have G5 := G4.trans g5
      refine g_dup rfl rfl ?_
      refine g_aload_n rfl rfl ?_
      refine g_getR rfl (G5.cs.kd 6 (by omega) rfl) (G5.cs.rf 5 (by omega) rfl) ?_
      refine g_aload_n rfl rfl ?_
      refine g_getR rfl (G5.cs.kd 6 (by omega) rfl) (G5.cs.rf 5 (by omega) rfl) ?_
      refine g_aload_n rfl rfl ?_
      refine g_getR rfl (g5.tf (g4.tf (g3.tf fP))).1.2.2 (g5.tf (g4.tf (g3.tf fP))).2.1 ?_
      refine g_aload_n rfl rfl ?_
      refine g_getR rfl (g5.tf (g4.tf (g3.tf fR))).1.2.2 (g5.tf (g4.tf (g3.tf fR))).2.2.2 ?_
      refine g_callVO [aO (some Px), aO (some Rw)] [aO (some (c + 1)), aO (some t5), aO (some t5)] rfl rfl rfl rfl (Nat.le_of_ble_eq_true rfl) (G5.cs.kd 1 (by omega) rfl) (s_times (by omega) G5.ci (g5.wb (g4.wb (g3.wb wPx))) (g5.wb (g4.wb (g3.wb wRw))) (by omega)) ?_
      rintro _ h6 ⟨p6, rfl, g6, wp6⟩
      have G6 := G5.trans g6
      refine g_aload rfl rfl ?_
      refine g_callVO [aO (some p6), aO (some p4)] [aO (some t5), aO (some t5)] rfl rfl rfl rfl (Nat.le_of_ble_eq_true rfl) (G6.cs.kd 1 (by omega) rfl) (s_minus (by omega) G6.ci wp6 (g6.wb (g5.wb wp4)) (42) (by omega) (by omega) (by omega)) ?_
      rintro _ h7 ⟨p7, rfl, g7, wp7⟩
      have G7 := G6.trans g7
      refine g_aload_n rfl rfl ?_
      refine g_getR rfl (G7.cs.kd 6 (by omega) rfl) (G7.cs.rf 5 (by omega) rfl) ?_
      refine g_aload_n rfl rfl ?_
      refine g_getR rfl (G7.cs.kd 6 (by omega) rfl) (G7.cs.rf 5 (by omega) rfl) ?_
      refine g_aload_n rfl rfl ?_
      refine g_getR rfl (g7.tf (g6.tf (g5.tf (g4.tf (g3.tf fP))))).1.2.2 (g7.tf (g6.tf (g5.tf (g4.tf (g3.tf fP))))).2.2.1 ?_
      refine g_aload_n rfl rfl ?_
      refine g_getR rfl (g7.tf (g6.tf (g5.tf (g4.tf (g3.tf fR))))).1.2.2 (g7.tf (g6.tf (g5.tf (g4.tf (g3.tf fR))))).2.2.2 ?_
      refine g_callVO [aO (some Py), aO (some Rw)] [aO (some (c + 1)), aO (some p7), aO (some t5), aO (some t5)] rfl rfl rfl rfl (Nat.le_of_ble_eq_true rfl) (G7.cs.kd 1 (by omega) rfl) (s_times (by omega) G7.ci (g7.wb (g6.wb (g5.wb (g4.wb (g3.wb wPy))))) (g7.wb (g6.wb (g5.wb (g4.wb (g3.wb wRw))))) (by omega)) ?_
      rintro _ h8 ⟨p8, rfl, g8, wp8⟩
      have G8 := G7.trans g8
      refine g_aload_n rfl rfl ?_
      refine g_callVO [aO (some p8), aO (some p3)] [aO (some p7), aO (some t5), aO (some t5)] rfl rfl rfl rfl (Nat.le_of_ble_eq_true rfl) (G8.cs.kd 1 (by omega) rfl) (s_plus (by omega) G8.ci wp8 (g8.wb (g7.wb (g6.wb (g5.wb (g4.wb wp3))))) (42) (by omega) (by omega) (by omega)) ?_
      rintro _ h9 ⟨p9, rfl, g9, wp9⟩
      have G9 := G8.trans g9
      refine g_aload_n rfl rfl ?_
      refine g_getR rfl (G9.cs.kd 6 (by omega) rfl) (G9.cs.rf 5 (by omega) rfl) ?_
      refine g_aload_n rfl rfl ?_
      refine g_getR rfl (g9.tf (g8.tf (g7.tf (g6.tf (g5.tf (g4.tf (g3.tf fP))))))).1.2.2 (g9.tf (g8.tf (g7.tf (g6.tf (g5.tf (g4.tf (g3.tf fP))))))).2.2.2 ?_
      refine g_aload_n rfl rfl ?_
      refine g_getR rfl (g9.tf (g8.tf (g7.tf (g6.tf (g5.tf (g4.tf (g3.tf fR))))))).1.2.2 (g9.tf (g8.tf (g7.tf (g6.tf (g5.tf (g4.tf (g3.tf fR))))))).2.2.2 ?_
      refine g_callVO [aO (some Pw), aO (some Rw)] [aO (some p9), aO (some p7), aO (some t5), aO (some t5)] rfl rfl rfl rfl (Nat.le_of_ble_eq_true rfl) (G9.cs.kd 1 (by omega) rfl) (s_times (by omega) G9.ci (g9.wb (g8.wb (g7.wb (g6.wb (g5.wb (g4.wb (g3.wb wPw))))))) (g9.wb (g8.wb (g7.wb (g6.wb (g5.wb (g4.wb (g3.wb wRw))))))) (by omega)) ?_
      rintro _ h10 ⟨p10, rfl, g10, wp10⟩
      have G10 := G9.trans g10
      refine g_callIN [aO (some p7), aO (some p9), aO (some p10)] [aO (some t5)] rfl (by decide) rfl rfl rfl (Nat.le_of_ble_eq_true rfl) (g10.ob (g9.ob (g8.ob (g7.ob (g6.ob ob5))))).2.2 (k_Triple (by omega) (g10.ob (g9.ob (g8.ob (g7.ob (g6.ob ob5))))).2.2 (g10.ob (g9.ob (g8.ob (g7.ob (g6.ob ob5))))).1 p7 p9 p10) ?_
      rintro _ rfl
      have c11 := ct3 (P := ((P.1 * R.2.2) - (R.2.1 * P.2.2 - P.2.1 * R.2.2), (P.2.1 * R.2.2) + (R.1 * P.2.2 - P.1 * R.2.2), P.2.2 * R.2.2)) (k := 42) G10 (g10.ob (g9.ob (g8.ob (g7.ob (g6.ob ob5))))) (by have := G4.2.1.1; omega) ((g10.wb (g9.wb (g8.wb wp7))).up (by omega)) ((g10.wb wp9).up (by omega)) (wp10.up (by omega))
      have faP_11 := c11.2.2.2.1 _ _ _ _ (by have := (g4.tf (g3.tf fP)).1.1; omega) (g10.tf (g9.tf (g8.tf (g7.tf (g6.tf (g5.tf (g4.tf (g3.tf fP))))))))
      have faR_11 := c11.2.2.2.1 _ _ _ _ (by have := (g4.tf (g3.tf fR)).1.1; omega) (g10.tf (g9.tf (g8.tf (g7.tf (g6.tf (g5.tf (g4.tf (g3.tf fR))))))))
      obtain ⟨h11, eh11⟩ : ∃ hq9, hq9 = pt3 h10 t5 p7 p9 p10 := ⟨_, rfl⟩
      refine g_hp (h2 := h11) (by rw [eh11]; rfl) ?_
      rw [← eh11] at c11 faP_11 faR_11
      have G11 := c11.1
      obtain ⟨q11x, q11y, q11w, f11, wq11x, wq11y, wq11w⟩ := c11.2.1
      refine g_aret rfl ?_
      refine ⟨G11.mono (by omega), ?_⟩
      unfold p_turned_O
      rw [if_neg (by omega)]
      exact ⟨t5, rfl, _, _, _, f11, (wq11x.up (by omega)), (wq11y.up (by omega)), (wq11w.up (by omega))⟩
    · skip
      refine g_null rfl ?_
      refine g_aret rfl ?_
      refine ⟨G0.mono (by omega), ?_⟩
      unfold p_turned_O
      rw [if_pos (by omega)]
      rfl
def p_str_S (P : T3) (R : T3) (u1 : Int) (d1 : Int) : T3 := (P.1 * (R.2.2 * d1) + u1 * (R.1 * P.2.2 - P.1 * R.2.2), P.2.1 * (R.2.2 * d1) + u1 * (R.2.1 * P.2.2 - P.2.1 * R.2.2), P.2.2 * (R.2.2 * d1))
def p_str_O (P : T3) (R : T3) (u1 : Int) (d1 : Int) : Option T3 := if P.2.2 = 0 ∨ R.2.2 = 0 then none else some (p_str_S P R u1 d1)
set_option maxHeartbeats 4000000 in
theorem p_str {w : aW} {d : Nat} (hd : 4 ≤ d) {h : aH} {c : Nat} (ci : CI h c) {aP : Nat} {P : T3} (tP : TB h c aP P (20)) {aR : Nat} {R : T3} (tR : TB h c aR R (20)) {au1 : Nat} {u1 : Int} (tu1 : WB h c au1 u1 (31)) {ad1 : Nat} {d1 : Int} (td1 : WB h c ad1 d1 (31))  : WP w d 79 [aO (some (c + 6)), aO (some aP), aO (some aR), aO (some au1), aO (some ad1)] h (RO (fun r h1 => Gr h h1 c 9 ∧ OT h1 c r (p_str_O P R u1 d1) (73))) := by
  obtain ⟨d, rfl⟩ : ∃ d1, d = d1 + 1 := ⟨d - 1, by omega⟩
  refine WP.enter (cd := cd_X2_stretched) rfl ?_
  have G0 := Gr.refl ci
  obtain ⟨Px, Py, Pw, fP, wPx, wPy, wPw⟩ := tP
  obtain ⟨Rx, Ry, Rw, fR, wRx, wRy, wRw⟩ := tR
  have hls : largs 0 [aO (some (c + 6)), aO (some aP), aO (some aR), aO (some au1), aO (some ad1)] = [(0, aO (some (c + 6))), (1, aO (some aP)), (2, aO (some aR)), (3, aO (some au1)), (4, aO (some ad1))] := rfl
  rw [hls]
  clear hls
  refine g_aload_n rfl rfl ?_
  refine g_aload_n rfl rfl ?_
  refine g_callVI [aO (some aP)] [] rfl rfl rfl rfl (Nat.le_of_ble_eq_true rfl) (G0.cs.kd 6 (by omega) rfl) (p_isFar (by omega) G0.ci (show TB h c aP P (20) from ⟨_, _, _, fP, (wPx.up (by omega)), (wPy.up (by omega)), (wPw.up (by omega))⟩)) ?_
  rintro _ hx1 ⟨ehx1, rfl⟩
  rw [ehx1]
  clear ehx1 hx1
  refine g_b_ne rfl (fun c5 => ?_) (fun c5 => ?_)
  · skip
    refine g_null rfl ?_
    refine g_aret rfl ?_
    refine ⟨G0.mono (by omega), ?_⟩
    unfold p_str_O
    rw [if_pos (by omega)]
    rfl
  · skip
    refine g_aload_n rfl rfl ?_
    refine g_aload_n rfl rfl ?_
    refine g_callVI [aO (some aR)] [] rfl rfl rfl rfl (Nat.le_of_ble_eq_true rfl) (G0.cs.kd 6 (by omega) rfl) (p_isFar (by omega) G0.ci (show TB h c aR R (20) from ⟨_, _, _, fR, (wRx.up (by omega)), (wRy.up (by omega)), (wRw.up (by omega))⟩)) ?_
    rintro _ hx2 ⟨ehx2, rfl⟩
    rw [ehx2]
    clear ehx2 hx2
    refine g_b_eq rfl (fun c13 => ?_) (fun c13 => ?_)
    · skip
      refine g_aload_n rfl rfl ?_
      refine g_getR rfl (G0.cs.kd 6 (by omega) rfl) (G0.cs.rf 5 (by omega) rfl) ?_
      refine g_aload_n rfl rfl ?_
      refine g_getR rfl fR.1.2.2 fR.2.1 ?_
      refine g_aload_n rfl rfl ?_
      refine g_getR rfl fP.1.2.2 fP.2.2.2 ?_
      refine g_aload_n rfl rfl ?_
      refine g_getR rfl fP.1.2.2 fP.2.1 ?_
      refine g_aload_n rfl rfl ?_
      refine g_getR rfl fR.1.2.2 fR.2.2.2 ?_
      refine g_callVO [aO (some Rx), aO (some Pw), aO (some Px), aO (some Rw)] [] rfl rfl rfl rfl (Nat.le_of_ble_eq_true rfl) (G0.cs.kd 1 (by omega) rfl) (s_diff (by omega) G0.ci wRx wPw wPx wRw (41) (by omega) (by omega) (by omega)) ?_
      rintro _ h3 ⟨p3, rfl, g3, wp3⟩
      have G3 := G0.trans g3
      refine g_astore (l1 := [(5, aO (some p3)), (0, aO (some (c + 6))), (1, aO (some aP)), (2, aO (some aR)), (3, aO (some au1)), (4, aO (some ad1))]) rfl rfl ?_
      refine g_aload_n rfl rfl ?_
      refine g_getR rfl (G3.cs.kd 6 (by omega) rfl) (G3.cs.rf 5 (by omega) rfl) ?_
      refine g_aload_n rfl rfl ?_
      refine g_getR rfl (g3.tf fR).1.2.2 (g3.tf fR).2.2.1 ?_
      refine g_aload_n rfl rfl ?_
      refine g_getR rfl (g3.tf fP).1.2.2 (g3.tf fP).2.2.2 ?_
      refine g_aload_n rfl rfl ?_
      refine g_getR rfl (g3.tf fP).1.2.2 (g3.tf fP).2.2.1 ?_
      refine g_aload_n rfl rfl ?_
      refine g_getR rfl (g3.tf fR).1.2.2 (g3.tf fR).2.2.2 ?_
      refine g_callVO [aO (some Ry), aO (some Pw), aO (some Py), aO (some Rw)] [] rfl rfl rfl rfl (Nat.le_of_ble_eq_true rfl) (G3.cs.kd 1 (by omega) rfl) (s_diff (by omega) G3.ci (g3.wb wRy) (g3.wb wPw) (g3.wb wPy) (g3.wb wRw) (41) (by omega) (by omega) (by omega)) ?_
      rintro _ h4 ⟨p4, rfl, g4, wp4⟩
      have G4 := G3.trans g4
      refine g_astore (l1 := [(6, aO (some p4)), (5, aO (some p3)), (0, aO (some (c + 6))), (1, aO (some aP)), (2, aO (some aR)), (3, aO (some au1)), (4, aO (some ad1))]) rfl rfl ?_
      refine g_aload_n rfl rfl ?_
      refine g_getR rfl (G4.cs.kd 6 (by omega) rfl) (G4.cs.rf 5 (by omega) rfl) ?_
      refine g_aload_n rfl rfl ?_
      refine g_getR rfl (g4.tf (g3.tf fR)).1.2.2 (g4.tf (g3.tf fR)).2.2.2 ?_
      refine g_aload rfl rfl ?_
      refine g_callVO [aO (some Rw), aO (some ad1)] [] rfl rfl rfl rfl (Nat.le_of_ble_eq_true rfl) (G4.cs.kd 1 (by omega) rfl) (s_times (by omega) G4.ci (g4.wb (g3.wb wRw)) (g4.wb (g3.wb td1)) (by omega)) ?_
      rintro _ h5 ⟨p5, rfl, g5, wp5⟩
      have G5 := G4.trans g5
      refine g_astore (l1 := [(7, aO (some p5)), (6, aO (some p4)), (5, aO (some p3)), (0, aO (some (c + 6))), (1, aO (some aP)), (2, aO (some aR)), (3, aO (some au1)), (4, aO (some ad1))]) rfl rfl ?_
      refine g_new rfl ?_
      obtain ⟨g6, ob6⟩ := Gr.mk (k := 19) (m := 3) G5.ci (by decide) (by decide)
      obtain ⟨t6, et6⟩ : ∃ t, t = hz h5 := ⟨_, rfl⟩
      obtain ⟨h6, eh6⟩ : ∃ hq9, hq9 = hnew h5 19 3 := ⟨_, rfl⟩
      rw [← eh6, ← et6] at ob6
      rw [← eh6] at g6
      refine g_hp (h2 := h6) eh6.symm ?_
      refine g_top (v2 := aO (some t6)) (by rw [et6]) ?_
      have G6 := G5.trans g6
      refine g_dup rfl rfl ?_
      refine g_aload_n rfl rfl ?_
      refine g_getR rfl (G6.cs.kd 6 (by omega) rfl) (G6.cs.rf 5 (by omega) rfl) ?_
      refine g_aload_n rfl rfl ?_
      refine g_getR rfl (g6.tf (g5.tf (g4.tf (g3.tf fP)))).1.2.2 (g6.tf (g5.tf (g4.tf (g3.tf fP)))).2.1 ?_
      refine g_aload rfl rfl ?_
      refine g_aload_n rfl rfl ?_
      refine g_aload rfl rfl ?_
      refine g_callVO [aO (some Px), aO (some p5), aO (some au1), aO (some p3)] [aO (some t6), aO (some t6)] rfl rfl rfl rfl (Nat.le_of_ble_eq_true rfl) (G6.cs.kd 1 (by omega) rfl) (s_added (by omega) G6.ci (g6.wb (g5.wb (g4.wb (g3.wb wPx)))) (g6.wb wp5) (g6.wb (g5.wb (g4.wb (g3.wb tu1)))) (g6.wb (g5.wb (g4.wb wp3))) (73) (by omega) (by omega) (by omega)) ?_
      rintro _ h7 ⟨p7, rfl, g7, wp7⟩
      have G7 := G6.trans g7
      refine g_aload_n rfl rfl ?_
      refine g_getR rfl (G7.cs.kd 6 (by omega) rfl) (G7.cs.rf 5 (by omega) rfl) ?_
      refine g_aload_n rfl rfl ?_
      refine g_getR rfl (g7.tf (g6.tf (g5.tf (g4.tf (g3.tf fP))))).1.2.2 (g7.tf (g6.tf (g5.tf (g4.tf (g3.tf fP))))).2.2.1 ?_
      refine g_aload rfl rfl ?_
      refine g_aload_n rfl rfl ?_
      refine g_aload rfl rfl ?_
      refine g_callVO [aO (some Py), aO (some p5), aO (some au1), aO (some p4)] [aO (some p7), aO (some t6), aO (some t6)] rfl rfl rfl rfl (Nat.le_of_ble_eq_true rfl) (G7.cs.kd 1 (by omega) rfl) (s_added (by omega) G7.ci (g7.wb (g6.wb (g5.wb (g4.wb (g3.wb wPy))))) (g7.wb (g6.wb wp5)) (g7.wb (g6.wb (g5.wb (g4.wb (g3.wb tu1))))) (g7.wb (g6.wb (g5.wb wp4))) (73) (by omega) (by omega) (by omega)) ?_
      rintro _ h8 ⟨p8, rfl, g8, wp8⟩
      have G8 := G7.trans g8
      refine g_aload_n rfl rfl ?_
      refine g_getR rfl (G8.cs.kd 6 (by omega) rfl) (G8.cs.rf 5 (by omega) rfl) ?_
      refine g_aload_n rfl rfl ?_
      refine g_getR rfl (g8.tf (g7.tf (g6.tf (g5.tf (g4.tf (g3.tf fP)))))).1.2.2 (g8.tf (g7.tf (g6.tf (g5.tf (g4.tf (g3.tf fP)))))).2.2.2 ?_
      refine g_aload rfl rfl ?_
      refine g_callVO [aO (some Pw), aO (some p5)] [aO (some p8), aO (some p7), aO (some t6), aO (some t6)] rfl rfl rfl rfl (Nat.le_of_ble_eq_true rfl) (G8.cs.kd 1 (by omega) rfl) (s_times (by omega) G8.ci (g8.wb (g7.wb (g6.wb (g5.wb (g4.wb (g3.wb wPw)))))) (g8.wb (g7.wb (g6.wb wp5))) (by omega)) ?_
      rintro _ h9 ⟨p9, rfl, g9, wp9⟩
      have G9 := G8.trans g9
      refine g_callIN [aO (some p7), aO (some p8), aO (some p9)] [aO (some t6)] rfl (by decide) rfl rfl rfl (Nat.le_of_ble_eq_true rfl) (g9.ob (g8.ob (g7.ob ob6))).2.2 (k_Triple (by omega) (g9.ob (g8.ob (g7.ob ob6))).2.2 (g9.ob (g8.ob (g7.ob ob6))).1 p7 p8 p9) ?_
      rintro _ rfl
      have c10 := ct3 (P := (P.1 * (R.2.2 * d1) + u1 * (R.1 * P.2.2 - P.1 * R.2.2), P.2.1 * (R.2.2 * d1) + u1 * (R.2.1 * P.2.2 - P.2.1 * R.2.2), P.2.2 * (R.2.2 * d1))) (k := 73) G9 (g9.ob (g8.ob (g7.ob ob6))) (by have := G5.2.1.1; omega) ((g9.wb (g8.wb wp7)).up (by omega)) ((g9.wb wp8).up (by omega)) (wp9.up (by omega))
      have faP_10 := c10.2.2.2.1 _ _ _ _ (by have := (g5.tf (g4.tf (g3.tf fP))).1.1; omega) (g9.tf (g8.tf (g7.tf (g6.tf (g5.tf (g4.tf (g3.tf fP)))))))
      have faR_10 := c10.2.2.2.1 _ _ _ _ (by have := (g5.tf (g4.tf (g3.tf fR))).1.1; omega) (g9.tf (g8.tf (g7.tf (g6.tf (g5.tf (g4.tf (g3.tf fR)))))))
      obtain ⟨h10, eh10⟩ : ∃ hq9, hq9 = pt3 h9 t6 p7 p8 p9 := ⟨_, rfl⟩
      refine g_hp (h2 := h10) (by rw [eh10]; rfl) ?_
      rw [← eh10] at c10 faP_10 faR_10
      have G10 := c10.1
      obtain ⟨q10x, q10y, q10w, f10, wq10x, wq10y, wq10w⟩ := c10.2.1
      refine g_aret rfl ?_
      refine ⟨G10.mono (by omega), ?_⟩
      unfold p_str_O
      rw [if_neg (by omega)]
      exact ⟨t6, rfl, _, _, _, f10, (wq10x.up (by omega)), (wq10y.up (by omega)), (wq10w.up (by omega))⟩
    · skip
      refine g_null rfl ?_
      refine g_aret rfl ?_
      refine ⟨G0.mono (by omega), ?_⟩
      unfold p_str_O
      rw [if_pos (by omega)]
      rfl
def p_quot_S (u1 : Int) (d1 : Int) : T3 := (u1, u1, d1)
set_option maxHeartbeats 4000000 in
theorem p_quot {w : aW} {d : Nat} (hd : 2 ≤ d) {k : Nat} {h : aH} {c : Nat} (ci : CI h c) {au1 : Nat} {u1 : Int} (tu1 : WB h c au1 u1 (k)) {ad1 : Nat} {d1 : Int} (td1 : WB h c ad1 d1 (k))  : WP w d 86 [aO (some (c + 6)), aO (some au1), aO (some ad1)] h (RO (fun r h1 => ∃ p, r = some p ∧ Gr h h1 c 1 ∧ TB h1 c p (p_quot_S u1 d1) (k))) := by
  obtain ⟨d, rfl⟩ : ∃ d1, d = d1 + 1 := ⟨d - 1, by omega⟩
  refine WP.enter (cd := cd_X2_quotient) rfl ?_
  have G0 := Gr.refl ci
  have hls : largs 0 [aO (some (c + 6)), aO (some au1), aO (some ad1)] = [(0, aO (some (c + 6))), (1, aO (some au1)), (2, aO (some ad1))] := rfl
  rw [hls]
  clear hls
  refine g_new rfl ?_
  obtain ⟨g1, ob1⟩ := Gr.mk (k := 19) (m := 3) G0.ci (by decide) (by decide)
  obtain ⟨t1, et1⟩ : ∃ t, t = hz h := ⟨_, rfl⟩
  obtain ⟨h1, eh1⟩ : ∃ hq9, hq9 = hnew h 19 3 := ⟨_, rfl⟩
  rw [← eh1, ← et1] at ob1
  rw [← eh1] at g1
  refine g_hp (h2 := h1) eh1.symm ?_
  refine g_top (v2 := aO (some t1)) (by rw [et1]) ?_
  have G1 := G0.trans g1
  refine g_dup rfl rfl ?_
  refine g_aload_n rfl rfl ?_
  refine g_aload_n rfl rfl ?_
  refine g_aload_n rfl rfl ?_
  refine g_callIN [aO (some au1), aO (some au1), aO (some ad1)] [aO (some t1)] rfl (by decide) rfl rfl rfl (Nat.le_of_ble_eq_true rfl) ob1.2.2 (k_Triple (by omega) ob1.2.2 ob1.1 au1 au1 ad1) ?_
  rintro _ rfl
  have c2 := ct3 (P := (u1, u1, d1)) (k := k) G1 ob1 (by have := G0.2.1.1; omega) ((g1.wb tu1).up (by omega)) ((g1.wb tu1).up (by omega)) ((g1.wb td1).up (by omega))
  obtain ⟨h2, eh2⟩ : ∃ hq9, hq9 = pt3 h1 t1 au1 au1 ad1 := ⟨_, rfl⟩
  refine g_hp (h2 := h2) (by rw [eh2]; rfl) ?_
  rw [← eh2] at c2
  have G2 := c2.1
  obtain ⟨q2x, q2y, q2w, f2, wq2x, wq2y, wq2w⟩ := c2.2.1
  refine g_aret rfl ?_
  exact ⟨t1, rfl, G2.mono (by omega), _, _, _, f2, (wq2x.up (by omega)), (wq2y.up (by omega)), (wq2w.up (by omega))⟩
def p_way_S (P : T3) (Q : T3) : T3 := p_quot_S ((P.1 * Q.2.2 - Q.1 * P.2.2) * (P.1 * Q.2.2 - Q.1 * P.2.2) + (P.2.1 * Q.2.2 - Q.2.1 * P.2.2) * (P.2.1 * Q.2.2 - Q.2.1 * P.2.2)) ((P.2.2 * Q.2.2) * (P.2.2 * Q.2.2))
def p_way_O (P : T3) (Q : T3) : Option T3 := if P.2.2 = 0 ∨ Q.2.2 = 0 then none else some (p_way_S P Q)
set_option maxHeartbeats 4000000 in
theorem p_way {w : aW} {d : Nat} (hd : 4 ≤ d) {h : aH} {c : Nat} (ci : CI h c) {aP : Nat} {P : T3} (tP : TB h c aP P (20)) {aQ : Nat} {Q : T3} (tQ : TB h c aQ Q (20))  : WP w d 80 [aO (some (c + 6)), aO (some aP), aO (some aQ)] h (RO (fun r h1 => Gr h h1 c 8 ∧ OT h1 c r (p_way_O P Q) (83))) := by
  obtain ⟨d, rfl⟩ : ∃ d1, d = d1 + 1 := ⟨d - 1, by omega⟩
  refine WP.enter (cd := cd_X2_squareOfWay) rfl ?_
  have G0 := Gr.refl ci
  obtain ⟨Px, Py, Pw, fP, wPx, wPy, wPw⟩ := tP
  obtain ⟨Qx, Qy, Qw, fQ, wQx, wQy, wQw⟩ := tQ
  have hls : largs 0 [aO (some (c + 6)), aO (some aP), aO (some aQ)] = [(0, aO (some (c + 6))), (1, aO (some aP)), (2, aO (some aQ))] := rfl
  rw [hls]
  clear hls
  refine g_aload_n rfl rfl ?_
  refine g_aload_n rfl rfl ?_
  refine g_callVI [aO (some aP)] [] rfl rfl rfl rfl (Nat.le_of_ble_eq_true rfl) (G0.cs.kd 6 (by omega) rfl) (p_isFar (by omega) G0.ci (show TB h c aP P (20) from ⟨_, _, _, fP, (wPx.up (by omega)), (wPy.up (by omega)), (wPw.up (by omega))⟩)) ?_
  rintro _ hx1 ⟨ehx1, rfl⟩
  rw [ehx1]
  clear ehx1 hx1
  refine g_b_ne rfl (fun c5 => ?_) (fun c5 => ?_)
  · skip
    refine g_null rfl ?_
    refine g_aret rfl ?_
    refine ⟨G0.mono (by omega), ?_⟩
    unfold p_way_O
    rw [if_pos (by omega)]
    rfl
  · skip
    refine g_aload_n rfl rfl ?_
    refine g_aload_n rfl rfl ?_
    refine g_callVI [aO (some aQ)] [] rfl rfl rfl rfl (Nat.le_of_ble_eq_true rfl) (G0.cs.kd 6 (by omega) rfl) (p_isFar (by omega) G0.ci (show TB h c aQ Q (20) from ⟨_, _, _, fQ, (wQx.up (by omega)), (wQy.up (by omega)), (wQw.up (by omega))⟩)) ?_
    rintro _ hx2 ⟨ehx2, rfl⟩
    rw [ehx2]
    clear ehx2 hx2
    refine g_b_eq rfl (fun c13 => ?_) (fun c13 => ?_)
    · skip
      refine g_aload_n rfl rfl ?_
      refine g_getR rfl (G0.cs.kd 6 (by omega) rfl) (G0.cs.rf 5 (by omega) rfl) ?_
      refine g_aload_n rfl rfl ?_
      refine g_getR rfl fP.1.2.2 fP.2.1 ?_
      refine g_aload_n rfl rfl ?_
      refine g_getR rfl fQ.1.2.2 fQ.2.2.2 ?_
      refine g_aload_n rfl rfl ?_
      refine g_getR rfl fQ.1.2.2 fQ.2.1 ?_
      refine g_aload_n rfl rfl ?_
      refine g_getR rfl fP.1.2.2 fP.2.2.2 ?_
      refine g_callVO [aO (some Px), aO (some Qw), aO (some Qx), aO (some Pw)] [] rfl rfl rfl rfl (Nat.le_of_ble_eq_true rfl) (G0.cs.kd 1 (by omega) rfl) (s_diff (by omega) G0.ci wPx wQw wQx wPw (41) (by omega) (by omega) (by omega)) ?_
      rintro _ h3 ⟨p3, rfl, g3, wp3⟩
      have G3 := G0.trans g3
      refine g_astore_n (l1 := [(3, aO (some p3)), (0, aO (some (c + 6))), (1, aO (some aP)), (2, aO (some aQ))]) rfl rfl ?_
      refine g_aload_n rfl rfl ?_
      refine g_getR rfl (G3.cs.kd 6 (by omega) rfl) (G3.cs.rf 5 (by omega) rfl) ?_
      refine g_aload_n rfl rfl ?_
      refine g_getR rfl (g3.tf fP).1.2.2 (g3.tf fP).2.2.1 ?_
      refine g_aload_n rfl rfl ?_
      refine g_getR rfl (g3.tf fQ).1.2.2 (g3.tf fQ).2.2.2 ?_
      refine g_aload_n rfl rfl ?_
      refine g_getR rfl (g3.tf fQ).1.2.2 (g3.tf fQ).2.2.1 ?_
      refine g_aload_n rfl rfl ?_
      refine g_getR rfl (g3.tf fP).1.2.2 (g3.tf fP).2.2.2 ?_
      refine g_callVO [aO (some Py), aO (some Qw), aO (some Qy), aO (some Pw)] [] rfl rfl rfl rfl (Nat.le_of_ble_eq_true rfl) (G3.cs.kd 1 (by omega) rfl) (s_diff (by omega) G3.ci (g3.wb wPy) (g3.wb wQw) (g3.wb wQy) (g3.wb wPw) (41) (by omega) (by omega) (by omega)) ?_
      rintro _ h4 ⟨p4, rfl, g4, wp4⟩
      have G4 := G3.trans g4
      refine g_astore (l1 := [(4, aO (some p4)), (3, aO (some p3)), (0, aO (some (c + 6))), (1, aO (some aP)), (2, aO (some aQ))]) rfl rfl ?_
      refine g_aload_n rfl rfl ?_
      refine g_getR rfl (G4.cs.kd 6 (by omega) rfl) (G4.cs.rf 5 (by omega) rfl) ?_
      refine g_aload_n rfl rfl ?_
      refine g_getR rfl (g4.tf (g3.tf fP)).1.2.2 (g4.tf (g3.tf fP)).2.2.2 ?_
      refine g_aload_n rfl rfl ?_
      refine g_getR rfl (g4.tf (g3.tf fQ)).1.2.2 (g4.tf (g3.tf fQ)).2.2.2 ?_
      refine g_callVO [aO (some Pw), aO (some Qw)] [] rfl rfl rfl rfl (Nat.le_of_ble_eq_true rfl) (G4.cs.kd 1 (by omega) rfl) (s_times (by omega) G4.ci (g4.wb (g3.wb wPw)) (g4.wb (g3.wb wQw)) (by omega)) ?_
      rintro _ h5 ⟨p5, rfl, g5, wp5⟩
      have G5 := G4.trans g5
      refine g_astore (l1 := [(5, aO (some p5)), (4, aO (some p4)), (3, aO (some p3)), (0, aO (some (c + 6))), (1, aO (some aP)), (2, aO (some aQ))]) rfl rfl ?_
      refine g_aload_n rfl rfl ?_
      refine g_aload_n rfl rfl ?_
      refine g_getR rfl (G5.cs.kd 6 (by omega) rfl) (G5.cs.rf 5 (by omega) rfl) ?_
      refine g_aload_n rfl rfl ?_
      refine g_aload_n rfl rfl ?_
      refine g_aload rfl rfl ?_
      refine g_aload rfl rfl ?_
      refine g_callVO [aO (some p3), aO (some p3), aO (some p4), aO (some p4)] [aO (some (c + 6))] rfl rfl rfl rfl (Nat.le_of_ble_eq_true rfl) (G5.cs.kd 1 (by omega) rfl) (s_added (by omega) G5.ci (g5.wb (g4.wb wp3)) (g5.wb (g4.wb wp3)) (g5.wb wp4) (g5.wb wp4) (83) (by omega) (by omega) (by omega)) ?_
      rintro _ h6 ⟨p6, rfl, g6, wp6⟩
      have G6 := G5.trans g6
      refine g_aload_n rfl rfl ?_
      refine g_getR rfl (G6.cs.kd 6 (by omega) rfl) (G6.cs.rf 5 (by omega) rfl) ?_
      refine g_aload rfl rfl ?_
      refine g_aload rfl rfl ?_
      refine g_callVO [aO (some p5), aO (some p5)] [aO (some p6), aO (some (c + 6))] rfl rfl rfl rfl (Nat.le_of_ble_eq_true rfl) (G6.cs.kd 1 (by omega) rfl) (s_times (by omega) G6.ci (g6.wb wp5) (g6.wb wp5) (by omega)) ?_
      rintro _ h7 ⟨p7, rfl, g7, wp7⟩
      have G7 := G6.trans g7
      refine g_callVO [aO (some p6), aO (some p7)] [] rfl rfl rfl rfl (Nat.le_of_ble_eq_true rfl) (G7.cs.kd 6 (by omega) rfl) (p_quot (by omega) G7.ci (show WB h7 c p6 ((P.1 * Q.2.2 - Q.1 * P.2.2) * (P.1 * Q.2.2 - Q.1 * P.2.2) + (P.2.1 * Q.2.2 - Q.2.1 * P.2.2) * (P.2.1 * Q.2.2 - Q.2.1 * P.2.2)) (83) from ((g7.wb wp6).up (by omega))) (show WB h7 c p7 ((P.2.2 * Q.2.2) * (P.2.2 * Q.2.2)) (83) from (wp7.up (by omega)))) ?_
      rintro _ h8 ⟨p8, rfl, g8, p8x, p8y, p8w, f8, wp8x, wp8y, wp8w⟩
      have G8 := G7.trans g8
      refine g_aret rfl ?_
      refine ⟨G8.mono (by omega), ?_⟩
      unfold p_way_O
      rw [if_neg (by omega)]
      exact ⟨p8, rfl, _, _, _, f8, (wp8x.up (by omega)), (wp8y.up (by omega)), (wp8w.up (by omega))⟩
    · skip
      refine g_null rfl ?_
      refine g_aret rfl ?_
      refine ⟨G0.mono (by omega), ?_⟩
      unfold p_way_O
      rw [if_pos (by omega)]
      rfl
def p_wayL_S (P : T3) (L : T3) : T3 := p_quot_S ((p_dot_S P L) * (p_dot_S P L)) ((P.2.2 * P.2.2) * (L.1 * L.1 + L.2.1 * L.2.1))
def p_wayL_O (P : T3) (L : T3) : Option T3 := if P.2.2 = 0 ∨ (L.1 = 0 ∧ L.2.1 = 0) then none else some (p_wayL_S P L)
set_option maxHeartbeats 4000000 in
theorem p_wayL {w : aW} {d : Nat} (hd : 5 ≤ d) {h : aH} {c : Nat} (ci : CI h c) {aP : Nat} {P : T3} (tP : TB h c aP P (20)) {aL : Nat} {L : T3} (tL : TB h c aL L (20))  : WP w d 81 [aO (some (c + 6)), aO (some aP), aO (some aL)] h (RO (fun r h1 => Gr h h1 c 8 ∧ OT h1 c r (p_wayL_O P L) (84))) := by
  obtain ⟨d, rfl⟩ : ∃ d1, d = d1 + 1 := ⟨d - 1, by omega⟩
  refine WP.enter (cd := cd_X2_squareOfWayToLine) rfl ?_
  have G0 := Gr.refl ci
  obtain ⟨Px, Py, Pw, fP, wPx, wPy, wPw⟩ := tP
  obtain ⟨Lx, Ly, Lw, fL, wLx, wLy, wLw⟩ := tL
  have hls : largs 0 [aO (some (c + 6)), aO (some aP), aO (some aL)] = [(0, aO (some (c + 6))), (1, aO (some aP)), (2, aO (some aL))] := rfl
  rw [hls]
  clear hls
  refine g_aload_n rfl rfl ?_
  refine g_aload_n rfl rfl ?_
  refine g_callVI [aO (some aP)] [] rfl rfl rfl rfl (Nat.le_of_ble_eq_true rfl) (G0.cs.kd 6 (by omega) rfl) (p_isFar (by omega) G0.ci (show TB h c aP P (20) from ⟨_, _, _, fP, (wPx.up (by omega)), (wPy.up (by omega)), (wPw.up (by omega))⟩)) ?_
  rintro _ hx1 ⟨ehx1, rfl⟩
  rw [ehx1]
  clear ehx1 hx1
  refine g_b_ne rfl (fun c5 => ?_) (fun c5 => ?_)
  · skip
    refine g_null rfl ?_
    refine g_aret rfl ?_
    refine ⟨G0.mono (by omega), ?_⟩
    unfold p_wayL_O
    rw [if_pos (by omega)]
    rfl
  · skip
    refine g_aload_n rfl rfl ?_
    refine g_aload_n rfl rfl ?_
    refine g_callVI [aO (some aL)] [] rfl rfl rfl rfl (Nat.le_of_ble_eq_true rfl) (G0.cs.kd 6 (by omega) rfl) (p_hasAllFar (by omega) G0.ci (show TB h c aL L (20) from ⟨_, _, _, fL, (wLx.up (by omega)), (wLy.up (by omega)), (wLw.up (by omega))⟩)) ?_
    rintro _ hx2 ⟨ehx2, rfl⟩
    rw [ehx2]
    clear ehx2 hx2
    refine g_b_eq rfl (fun c13 => ?_) (fun c13 => ?_)
    · skip
      refine g_aload_n rfl rfl ?_
      refine g_aload_n rfl rfl ?_
      refine g_aload_n rfl rfl ?_
      refine g_callVO [aO (some aP), aO (some aL)] [] rfl rfl rfl rfl (Nat.le_of_ble_eq_true rfl) (G0.cs.kd 6 (by omega) rfl) (p_dot (by omega) G0.ci (show TB h c aP P (20) from ⟨_, _, _, fP, (wPx.up (by omega)), (wPy.up (by omega)), (wPw.up (by omega))⟩) (show TB h c aL L (20) from ⟨_, _, _, fL, (wLx.up (by omega)), (wLy.up (by omega)), (wLw.up (by omega))⟩) (by omega)) ?_
      rintro _ h3 ⟨p3, rfl, g3, wp3⟩
      have G3 := G0.trans g3
      refine g_astore_n (l1 := [(3, aO (some p3)), (0, aO (some (c + 6))), (1, aO (some aP)), (2, aO (some aL))]) rfl rfl ?_
      refine g_aload_n rfl rfl ?_
      refine g_aload_n rfl rfl ?_
      refine g_getR rfl (G3.cs.kd 6 (by omega) rfl) (G3.cs.rf 5 (by omega) rfl) ?_
      refine g_aload_n rfl rfl ?_
      refine g_aload_n rfl rfl ?_
      refine g_callVO [aO (some p3), aO (some p3)] [aO (some (c + 6))] rfl rfl rfl rfl (Nat.le_of_ble_eq_true rfl) (G3.cs.kd 1 (by omega) rfl) (s_times (by omega) G3.ci wp3 wp3 (by omega)) ?_
      rintro _ h4 ⟨p4, rfl, g4, wp4⟩
      have G4 := G3.trans g4
      refine g_aload_n rfl rfl ?_
      refine g_getR rfl (G4.cs.kd 6 (by omega) rfl) (G4.cs.rf 5 (by omega) rfl) ?_
      refine g_aload_n rfl rfl ?_
      refine g_getR rfl (G4.cs.kd 6 (by omega) rfl) (G4.cs.rf 5 (by omega) rfl) ?_
      refine g_aload_n rfl rfl ?_
      refine g_getR rfl (g4.tf (g3.tf fP)).1.2.2 (g4.tf (g3.tf fP)).2.2.2 ?_
      refine g_aload_n rfl rfl ?_
      refine g_getR rfl (g4.tf (g3.tf fP)).1.2.2 (g4.tf (g3.tf fP)).2.2.2 ?_
      refine g_callVO [aO (some Pw), aO (some Pw)] [aO (some (c + 1)), aO (some p4), aO (some (c + 6))] rfl rfl rfl rfl (Nat.le_of_ble_eq_true rfl) (G4.cs.kd 1 (by omega) rfl) (s_times (by omega) G4.ci (g4.wb (g3.wb wPw)) (g4.wb (g3.wb wPw)) (by omega)) ?_
      rintro _ h5 ⟨p5, rfl, g5, wp5⟩
      have G5 := G4.trans g5
      refine g_aload_n rfl rfl ?_
      refine g_getR rfl (G5.cs.kd 6 (by omega) rfl) (G5.cs.rf 5 (by omega) rfl) ?_
      refine g_aload_n rfl rfl ?_
      refine g_getR rfl (g5.tf (g4.tf (g3.tf fL))).1.2.2 (g5.tf (g4.tf (g3.tf fL))).2.1 ?_
      refine g_aload_n rfl rfl ?_
      refine g_getR rfl (g5.tf (g4.tf (g3.tf fL))).1.2.2 (g5.tf (g4.tf (g3.tf fL))).2.1 ?_
      refine g_aload_n rfl rfl ?_
      refine g_getR rfl (g5.tf (g4.tf (g3.tf fL))).1.2.2 (g5.tf (g4.tf (g3.tf fL))).2.2.1 ?_
      refine g_aload_n rfl rfl ?_
      refine g_getR rfl (g5.tf (g4.tf (g3.tf fL))).1.2.2 (g5.tf (g4.tf (g3.tf fL))).2.2.1 ?_
      refine g_callVO [aO (some Lx), aO (some Lx), aO (some Ly), aO (some Ly)] [aO (some p5), aO (some (c + 1)), aO (some p4), aO (some (c + 6))] rfl rfl rfl rfl (Nat.le_of_ble_eq_true rfl) (G5.cs.kd 1 (by omega) rfl) (s_added (by omega) G5.ci (g5.wb (g4.wb (g3.wb wLx))) (g5.wb (g4.wb (g3.wb wLx))) (g5.wb (g4.wb (g3.wb wLy))) (g5.wb (g4.wb (g3.wb wLy))) (41) (by omega) (by omega) (by omega)) ?_
      rintro _ h6 ⟨p6, rfl, g6, wp6⟩
      have G6 := G5.trans g6
      refine g_callVO [aO (some p5), aO (some p6)] [aO (some p4), aO (some (c + 6))] rfl rfl rfl rfl (Nat.le_of_ble_eq_true rfl) (G6.cs.kd 1 (by omega) rfl) (s_times (by omega) G6.ci (g6.wb wp5) wp6 (by omega)) ?_
      rintro _ h7 ⟨p7, rfl, g7, wp7⟩
      have G7 := G6.trans g7
      refine g_callVO [aO (some p4), aO (some p7)] [] rfl rfl rfl rfl (Nat.le_of_ble_eq_true rfl) (G7.cs.kd 6 (by omega) rfl) (p_quot (by omega) G7.ci (show WB h7 c p4 ((p_dot_S P L) * (p_dot_S P L)) (84) from ((g7.wb (g6.wb (g5.wb wp4))).up (by omega))) (show WB h7 c p7 ((P.2.2 * P.2.2) * (L.1 * L.1 + L.2.1 * L.2.1)) (84) from (wp7.up (by omega)))) ?_
      rintro _ h8 ⟨p8, rfl, g8, p8x, p8y, p8w, f8, wp8x, wp8y, wp8w⟩
      have G8 := G7.trans g8
      refine g_aret rfl ?_
      refine ⟨G8.mono (by omega), ?_⟩
      unfold p_wayL_O
      rw [if_neg (by omega)]
      exact ⟨p8, rfl, _, _, _, f8, (wp8x.up (by omega)), (wp8y.up (by omega)), (wp8w.up (by omega))⟩
    · skip
      refine g_null rfl ?_
      refine g_aret rfl ?_
      refine ⟨G0.mono (by omega), ?_⟩
      unfold p_wayL_O
      rw [if_pos (by omega)]
      rfl
def p_area_S (P : T3) (Q : T3) (R : T3) : T3 := p_quot_S (p_det_S P Q R) ((P.2.2 * Q.2.2) * R.2.2)
def p_area_O (P : T3) (Q : T3) (R : T3) : Option T3 := if P.2.2 = 0 ∨ Q.2.2 = 0 ∨ R.2.2 = 0 then none else some (p_area_S P Q R)
set_option maxHeartbeats 4000000 in
theorem p_area {w : aW} {d : Nat} (hd : 5 ≤ d) {h : aH} {c : Nat} (ci : CI h c) {aP : Nat} {P : T3} (tP : TB h c aP P (20)) {aQ : Nat} {Q : T3} (tQ : TB h c aQ Q (20)) {aR : Nat} {R : T3} (tR : TB h c aR R (20))  : WP w d 82 [aO (some (c + 6)), aO (some aP), aO (some aQ), aO (some aR)] h (RO (fun r h1 => Gr h h1 c 13 ∧ OT h1 c r (p_area_O P Q R) (84))) := by
  obtain ⟨d, rfl⟩ : ∃ d1, d = d1 + 1 := ⟨d - 1, by omega⟩
  refine WP.enter (cd := cd_X2_twiceArea) rfl ?_
  have G0 := Gr.refl ci
  obtain ⟨Px, Py, Pw, fP, wPx, wPy, wPw⟩ := tP
  obtain ⟨Qx, Qy, Qw, fQ, wQx, wQy, wQw⟩ := tQ
  obtain ⟨Rx, Ry, Rw, fR, wRx, wRy, wRw⟩ := tR
  have hls : largs 0 [aO (some (c + 6)), aO (some aP), aO (some aQ), aO (some aR)] = [(0, aO (some (c + 6))), (1, aO (some aP)), (2, aO (some aQ)), (3, aO (some aR))] := rfl
  rw [hls]
  clear hls
  refine g_aload_n rfl rfl ?_
  refine g_aload_n rfl rfl ?_
  refine g_aload_n rfl rfl ?_
  refine g_aload_n rfl rfl ?_
  refine g_callVI [aO (some aP), aO (some aQ), aO (some aR)] [] rfl rfl rfl rfl (Nat.le_of_ble_eq_true rfl) (G0.cs.kd 6 (by omega) rfl) (p_isOneFar (by omega) G0.ci (show TB h c aP P (20) from ⟨_, _, _, fP, (wPx.up (by omega)), (wPy.up (by omega)), (wPw.up (by omega))⟩) (show TB h c aQ Q (20) from ⟨_, _, _, fQ, (wQx.up (by omega)), (wQy.up (by omega)), (wQw.up (by omega))⟩) (show TB h c aR R (20) from ⟨_, _, _, fR, (wRx.up (by omega)), (wRy.up (by omega)), (wRw.up (by omega))⟩)) ?_
  rintro _ hx1 ⟨ehx1, rfl⟩
  rw [ehx1]
  clear ehx1 hx1
  refine g_b_eq rfl (fun c7 => ?_) (fun c7 => ?_)
  · skip
    refine g_aload_n rfl rfl ?_
    refine g_aload_n rfl rfl ?_
    refine g_aload_n rfl rfl ?_
    refine g_aload_n rfl rfl ?_
    refine g_aload_n rfl rfl ?_
    refine g_callVO [aO (some aP), aO (some aQ), aO (some aR)] [aO (some (c + 6))] rfl rfl rfl rfl (Nat.le_of_ble_eq_true rfl) (G0.cs.kd 6 (by omega) rfl) (p_det (by omega) G0.ci (show TB h c aP P (20) from ⟨_, _, _, fP, (wPx.up (by omega)), (wPy.up (by omega)), (wPw.up (by omega))⟩) (show TB h c aQ Q (20) from ⟨_, _, _, fQ, (wQx.up (by omega)), (wQy.up (by omega)), (wQw.up (by omega))⟩) (show TB h c aR R (20) from ⟨_, _, _, fR, (wRx.up (by omega)), (wRy.up (by omega)), (wRw.up (by omega))⟩) (by omega)) ?_
    rintro _ h2 ⟨p2, rfl, g2, wp2⟩
    have G2 := G0.trans g2
    refine g_aload_n rfl rfl ?_
    refine g_getR rfl (G2.cs.kd 6 (by omega) rfl) (G2.cs.rf 5 (by omega) rfl) ?_
    refine g_aload_n rfl rfl ?_
    refine g_getR rfl (G2.cs.kd 6 (by omega) rfl) (G2.cs.rf 5 (by omega) rfl) ?_
    refine g_aload_n rfl rfl ?_
    refine g_getR rfl (g2.tf fP).1.2.2 (g2.tf fP).2.2.2 ?_
    refine g_aload_n rfl rfl ?_
    refine g_getR rfl (g2.tf fQ).1.2.2 (g2.tf fQ).2.2.2 ?_
    refine g_callVO [aO (some Pw), aO (some Qw)] [aO (some (c + 1)), aO (some p2), aO (some (c + 6))] rfl rfl rfl rfl (Nat.le_of_ble_eq_true rfl) (G2.cs.kd 1 (by omega) rfl) (s_times (by omega) G2.ci (g2.wb wPw) (g2.wb wQw) (by omega)) ?_
    rintro _ h3 ⟨p3, rfl, g3, wp3⟩
    have G3 := G2.trans g3
    refine g_aload_n rfl rfl ?_
    refine g_getR rfl (g3.tf (g2.tf fR)).1.2.2 (g3.tf (g2.tf fR)).2.2.2 ?_
    refine g_callVO [aO (some p3), aO (some Rw)] [aO (some p2), aO (some (c + 6))] rfl rfl rfl rfl (Nat.le_of_ble_eq_true rfl) (G3.cs.kd 1 (by omega) rfl) (s_times (by omega) G3.ci wp3 (g3.wb (g2.wb wRw)) (by omega)) ?_
    rintro _ h4 ⟨p4, rfl, g4, wp4⟩
    have G4 := G3.trans g4
    refine g_callVO [aO (some p2), aO (some p4)] [] rfl rfl rfl rfl (Nat.le_of_ble_eq_true rfl) (G4.cs.kd 6 (by omega) rfl) (p_quot (by omega) G4.ci (show WB h4 c p2 (p_det_S P Q R) (84) from ((g4.wb (g3.wb wp2)).up (by omega))) (show WB h4 c p4 ((P.2.2 * Q.2.2) * R.2.2) (84) from (wp4.up (by omega)))) ?_
    rintro _ h5 ⟨p5, rfl, g5, p5x, p5y, p5w, f5, wp5x, wp5y, wp5w⟩
    have G5 := G4.trans g5
    refine g_aret rfl ?_
    refine ⟨G5.mono (by omega), ?_⟩
    unfold p_area_O
    rw [if_neg (by omega)]
    exact ⟨p5, rfl, _, _, _, f5, (wp5x.up (by omega)), (wp5y.up (by omega)), (wp5w.up (by omega))⟩
  · skip
    refine g_null rfl ?_
    refine g_aret rfl ?_
    refine ⟨G0.mono (by omega), ?_⟩
    unfold p_area_O
    rw [if_pos (by omega)]
    rfl
def p_rad_S (R : T4) : T3 := p_quot_S (p_spread_S R) ((2 * R.1) * (2 * R.1))
set_option maxHeartbeats 4000000 in
theorem p_rad {w : aW} {d : Nat} (hd : 5 ≤ d) {h : aH} {c : Nat} (ci : CI h c) {aR : Nat} {R : T4} (tR : QB h c aR R (20))  : WP w d 83 [aO (some (c + 6)), aO (some aR)] h (RO (fun r h1 => ∃ p, r = some p ∧ Gr h h1 c 8 ∧ TB h1 c p (p_rad_S R) (43))) := by
  obtain ⟨d, rfl⟩ : ∃ d1, d = d1 + 1 := ⟨d - 1, by omega⟩
  refine WP.enter (cd := cd_X2_squareOfRadius) rfl ?_
  have G0 := Gr.refl ci
  obtain ⟨Rk, Ra, Rb, Re, fR, wRk, wRa, wRb, wRe⟩ := tR
  have hls : largs 0 [aO (some (c + 6)), aO (some aR)] = [(0, aO (some (c + 6))), (1, aO (some aR))] := rfl
  rw [hls]
  clear hls
  refine g_aload_n rfl rfl ?_
  refine g_getR rfl (G0.cs.kd 6 (by omega) rfl) (G0.cs.rf 5 (by omega) rfl) ?_
  refine g_aload_n rfl rfl ?_
  refine g_getR rfl fR.1.2.2 fR.2.1 ?_
  refine g_callVO [aO (some Rk)] [] rfl rfl rfl rfl (Nat.le_of_ble_eq_true rfl) (G0.cs.kd 1 (by omega) rfl) (s_twice (by omega) G0.ci wRk (by omega)) ?_
  rintro _ h1 ⟨p1, rfl, g1, wp1⟩
  have G1 := G0.trans g1
  refine g_astore_n (l1 := [(2, aO (some p1)), (0, aO (some (c + 6))), (1, aO (some aR))]) rfl rfl ?_
  refine g_aload_n rfl rfl ?_
  refine g_aload_n rfl rfl ?_
  refine g_aload_n rfl rfl ?_
  refine g_callVO [aO (some aR)] [aO (some (c + 6))] rfl rfl rfl rfl (Nat.le_of_ble_eq_true rfl) (G1.cs.kd 6 (by omega) rfl) (p_spread (by omega) G1.ci (show QB h1 c aR R (20) from ⟨_, _, _, _, (g1.rf fR), ((g1.wb wRk).up (by omega)), ((g1.wb wRa).up (by omega)), ((g1.wb wRb).up (by omega)), ((g1.wb wRe).up (by omega))⟩)) ?_
  rintro _ h2 ⟨p2, rfl, g2, wp2⟩
  have G2 := G1.trans g2
  refine g_aload_n rfl rfl ?_
  refine g_getR rfl (G2.cs.kd 6 (by omega) rfl) (G2.cs.rf 5 (by omega) rfl) ?_
  refine g_aload_n rfl rfl ?_
  refine g_aload_n rfl rfl ?_
  refine g_callVO [aO (some p1), aO (some p1)] [aO (some p2), aO (some (c + 6))] rfl rfl rfl rfl (Nat.le_of_ble_eq_true rfl) (G2.cs.kd 1 (by omega) rfl) (s_times (by omega) G2.ci (g2.wb wp1) (g2.wb wp1) (by omega)) ?_
  rintro _ h3 ⟨p3, rfl, g3, wp3⟩
  have G3 := G2.trans g3
  refine g_callVO [aO (some p2), aO (some p3)] [] rfl rfl rfl rfl (Nat.le_of_ble_eq_true rfl) (G3.cs.kd 6 (by omega) rfl) (p_quot (by omega) G3.ci (show WB h3 c p2 (p_spread_S R) (43) from ((g3.wb wp2).up (by omega))) (show WB h3 c p3 ((2 * R.1) * (2 * R.1)) (43) from (wp3.up (by omega)))) ?_
  rintro _ h4 ⟨p4, rfl, g4, p4x, p4y, p4w, f4, wp4x, wp4y, wp4w⟩
  have G4 := G3.trans g4
  refine g_aret rfl ?_
  exact ⟨p4, rfl, G4.mono (by omega), _, _, _, f4, (wp4x.up (by omega)), (wp4y.up (by omega)), (wp4w.up (by omega))⟩
def p_inEq_S (P : T3) (R : T4) : Int := R.1 * (p_ownSq_S P) + ((R.2.1 * P.1 + R.2.2.1 * P.2.1) + (R.2.2.2 * P.2.2)) * P.2.2
set_option maxHeartbeats 4000000 in
theorem p_inEq {w : aW} {d : Nat} (hd : 4 ≤ d) {h : aH} {c : Nat} (ci : CI h c) {aP : Nat} {P : T3} (tP : TB h c aP P (20)) {aR : Nat} {R : T4} (tR : QB h c aR R (180))  : WP w d 85 [aO (some (c + 6)), aO (some aP), aO (some aR)] h (RO (fun r h1 => ∃ p, r = some p ∧ Gr h h1 c 5 ∧ WB h1 c p (p_inEq_S P R) (223))) := by
  obtain ⟨d, rfl⟩ : ∃ d1, d = d1 + 1 := ⟨d - 1, by omega⟩
  refine WP.enter (cd := cd_X2_inEquation) rfl ?_
  have G0 := Gr.refl ci
  obtain ⟨Px, Py, Pw, fP, wPx, wPy, wPw⟩ := tP
  obtain ⟨Rk, Ra, Rb, Re, fR, wRk, wRa, wRb, wRe⟩ := tR
  have hls : largs 0 [aO (some (c + 6)), aO (some aP), aO (some aR)] = [(0, aO (some (c + 6))), (1, aO (some aP)), (2, aO (some aR))] := rfl
  rw [hls]
  clear hls
  refine g_aload_n rfl rfl ?_
  refine g_getR rfl (G0.cs.kd 6 (by omega) rfl) (G0.cs.rf 5 (by omega) rfl) ?_
  refine g_aload_n rfl rfl ?_
  refine g_getR rfl (G0.cs.kd 6 (by omega) rfl) (G0.cs.rf 5 (by omega) rfl) ?_
  refine g_aload_n rfl rfl ?_
  refine g_getR rfl fR.1.2.2 fR.2.2.1 ?_
  refine g_aload_n rfl rfl ?_
  refine g_getR rfl fP.1.2.2 fP.2.1 ?_
  refine g_aload_n rfl rfl ?_
  refine g_getR rfl fR.1.2.2 fR.2.2.2.1 ?_
  refine g_aload_n rfl rfl ?_
  refine g_getR rfl fP.1.2.2 fP.2.2.1 ?_
  refine g_callVO [aO (some Ra), aO (some Px), aO (some Rb), aO (some Py)] [aO (some (c + 1))] rfl rfl rfl rfl (Nat.le_of_ble_eq_true rfl) (G0.cs.kd 1 (by omega) rfl) (s_added (by omega) G0.ci wRa wPx wRb wPy (201) (by omega) (by omega) (by omega)) ?_
  rintro _ h1 ⟨p1, rfl, g1, wp1⟩
  have G1 := G0.trans g1
  refine g_aload_n rfl rfl ?_
  refine g_getR rfl (G1.cs.kd 6 (by omega) rfl) (G1.cs.rf 5 (by omega) rfl) ?_
  refine g_aload_n rfl rfl ?_
  refine g_getR rfl (g1.rf fR).1.2.2 (g1.rf fR).2.2.2.2 ?_
  refine g_aload_n rfl rfl ?_
  refine g_getR rfl (g1.tf fP).1.2.2 (g1.tf fP).2.2.2 ?_
  refine g_callVO [aO (some Re), aO (some Pw)] [aO (some p1), aO (some (c + 1))] rfl rfl rfl rfl (Nat.le_of_ble_eq_true rfl) (G1.cs.kd 1 (by omega) rfl) (s_times (by omega) G1.ci (g1.wb wRe) (g1.wb wPw) (by omega)) ?_
  rintro _ h2 ⟨p2, rfl, g2, wp2⟩
  have G2 := G1.trans g2
  refine g_callVO [aO (some p1), aO (some p2)] [] rfl rfl rfl rfl (Nat.le_of_ble_eq_true rfl) (G2.cs.kd 1 (by omega) rfl) (s_plus (by omega) G2.ci (g2.wb wp1) wp2 (202) (by omega) (by omega) (by omega)) ?_
  rintro _ h3 ⟨p3, rfl, g3, wp3⟩
  have G3 := G2.trans g3
  refine g_astore_n (l1 := [(3, aO (some p3)), (0, aO (some (c + 6))), (1, aO (some aP)), (2, aO (some aR))]) rfl rfl ?_
  refine g_aload_n rfl rfl ?_
  refine g_getR rfl (G3.cs.kd 6 (by omega) rfl) (G3.cs.rf 5 (by omega) rfl) ?_
  refine g_aload_n rfl rfl ?_
  refine g_getR rfl (g3.rf (g2.rf (g1.rf fR))).1.2.2 (g3.rf (g2.rf (g1.rf fR))).2.1 ?_
  refine g_aload_n rfl rfl ?_
  refine g_getR rfl (G3.cs.kd 6 (by omega) rfl) (G3.cs.rf 5 (by omega) rfl) ?_
  refine g_aload_n rfl rfl ?_
  refine g_getR rfl (g3.tf (g2.tf (g1.tf fP))).1.2.2 (g3.tf (g2.tf (g1.tf fP))).2.1 ?_
  refine g_aload_n rfl rfl ?_
  refine g_getR rfl (g3.tf (g2.tf (g1.tf fP))).1.2.2 (g3.tf (g2.tf (g1.tf fP))).2.1 ?_
  refine g_aload_n rfl rfl ?_
  refine g_getR rfl (g3.tf (g2.tf (g1.tf fP))).1.2.2 (g3.tf (g2.tf (g1.tf fP))).2.2.1 ?_
  refine g_aload_n rfl rfl ?_
  refine g_getR rfl (g3.tf (g2.tf (g1.tf fP))).1.2.2 (g3.tf (g2.tf (g1.tf fP))).2.2.1 ?_
  refine g_callVO [aO (some Px), aO (some Px), aO (some Py), aO (some Py)] [aO (some Rk), aO (some (c + 1))] rfl rfl rfl rfl (Nat.le_of_ble_eq_true rfl) (G3.cs.kd 1 (by omega) rfl) (s_added (by omega) G3.ci (g3.wb (g2.wb (g1.wb wPx))) (g3.wb (g2.wb (g1.wb wPx))) (g3.wb (g2.wb (g1.wb wPy))) (g3.wb (g2.wb (g1.wb wPy))) (41) (by omega) (by omega) (by omega)) ?_
  rintro _ h4 ⟨p4, rfl, g4, wp4⟩
  have G4 := G3.trans g4
  refine g_aload_n rfl rfl ?_
  refine g_aload_n rfl rfl ?_
  refine g_getR rfl (g4.tf (g3.tf (g2.tf (g1.tf fP)))).1.2.2 (g4.tf (g3.tf (g2.tf (g1.tf fP)))).2.2.2 ?_
  refine g_callVO [aO (some Rk), aO (some p4), aO (some p3), aO (some Pw)] [] rfl rfl rfl rfl (Nat.le_of_ble_eq_true rfl) (G4.cs.kd 1 (by omega) rfl) (s_added (by omega) G4.ci (g4.wb (g3.wb (g2.wb (g1.wb wRk)))) wp4 (g4.wb wp3) (g4.wb (g3.wb (g2.wb (g1.wb wPw)))) (223) (by omega) (by omega) (by omega)) ?_
  rintro _ h5 ⟨p5, rfl, g5, wp5⟩
  have G5 := G4.trans g5
  refine g_aret rfl ?_
  exact ⟨p5, rfl, G5.mono (by omega), (wp5.up (by omega))⟩
def p_pow_S (P : T3) (R : T4) : T3 := p_quot_S (p_inEq_S P R) (R.1 * (P.2.2 * P.2.2))
set_option maxHeartbeats 4000000 in
theorem p_pow {w : aW} {d : Nat} (hd : 5 ≤ d) {h : aH} {c : Nat} (ci : CI h c) {aP : Nat} {P : T3} (tP : TB h c aP P (20)) {aR : Nat} {R : T4} (tR : QB h c aR R (20))  : WP w d 84 [aO (some (c + 6)), aO (some aP), aO (some aR)] h (RO (fun r h1 => ∃ p, r = some p ∧ Gr h h1 c 8 ∧ TB h1 c p (p_pow_S P R) (223))) := by
  obtain ⟨d, rfl⟩ : ∃ d1, d = d1 + 1 := ⟨d - 1, by omega⟩
  refine WP.enter (cd := cd_X2_powerOf) rfl ?_
  have G0 := Gr.refl ci
  obtain ⟨Px, Py, Pw, fP, wPx, wPy, wPw⟩ := tP
  obtain ⟨Rk, Ra, Rb, Re, fR, wRk, wRa, wRb, wRe⟩ := tR
  have hls : largs 0 [aO (some (c + 6)), aO (some aP), aO (some aR)] = [(0, aO (some (c + 6))), (1, aO (some aP)), (2, aO (some aR))] := rfl
  rw [hls]
  clear hls
  refine g_aload_n rfl rfl ?_
  refine g_aload_n rfl rfl ?_
  refine g_aload_n rfl rfl ?_
  refine g_aload_n rfl rfl ?_
  refine g_callVO [aO (some aP), aO (some aR)] [aO (some (c + 6))] rfl rfl rfl rfl (Nat.le_of_ble_eq_true rfl) (G0.cs.kd 6 (by omega) rfl) (p_inEq (by omega) G0.ci (show TB h c aP P (20) from ⟨_, _, _, fP, (wPx.up (by omega)), (wPy.up (by omega)), (wPw.up (by omega))⟩) (show QB h c aR R (180) from ⟨_, _, _, _, fR, (wRk.up (by omega)), (wRa.up (by omega)), (wRb.up (by omega)), (wRe.up (by omega))⟩)) ?_
  rintro _ h1 ⟨p1, rfl, g1, wp1⟩
  have G1 := G0.trans g1
  refine g_aload_n rfl rfl ?_
  refine g_getR rfl (G1.cs.kd 6 (by omega) rfl) (G1.cs.rf 5 (by omega) rfl) ?_
  refine g_aload_n rfl rfl ?_
  refine g_getR rfl (g1.rf fR).1.2.2 (g1.rf fR).2.1 ?_
  refine g_aload_n rfl rfl ?_
  refine g_getR rfl (G1.cs.kd 6 (by omega) rfl) (G1.cs.rf 5 (by omega) rfl) ?_
  refine g_aload_n rfl rfl ?_
  refine g_getR rfl (g1.tf fP).1.2.2 (g1.tf fP).2.2.2 ?_
  refine g_aload_n rfl rfl ?_
  refine g_getR rfl (g1.tf fP).1.2.2 (g1.tf fP).2.2.2 ?_
  refine g_callVO [aO (some Pw), aO (some Pw)] [aO (some Rk), aO (some (c + 1)), aO (some p1), aO (some (c + 6))] rfl rfl rfl rfl (Nat.le_of_ble_eq_true rfl) (G1.cs.kd 1 (by omega) rfl) (s_times (by omega) G1.ci (g1.wb wPw) (g1.wb wPw) (by omega)) ?_
  rintro _ h2 ⟨p2, rfl, g2, wp2⟩
  have G2 := G1.trans g2
  refine g_callVO [aO (some Rk), aO (some p2)] [aO (some p1), aO (some (c + 6))] rfl rfl rfl rfl (Nat.le_of_ble_eq_true rfl) (G2.cs.kd 1 (by omega) rfl) (s_times (by omega) G2.ci (g2.wb (g1.wb wRk)) wp2 (by omega)) ?_
  rintro _ h3 ⟨p3, rfl, g3, wp3⟩
  have G3 := G2.trans g3
  refine g_callVO [aO (some p1), aO (some p3)] [] rfl rfl rfl rfl (Nat.le_of_ble_eq_true rfl) (G3.cs.kd 6 (by omega) rfl) (p_quot (by omega) G3.ci (show WB h3 c p1 (p_inEq_S P R) (223) from ((g3.wb (g2.wb wp1)).up (by omega))) (show WB h3 c p3 (R.1 * (P.2.2 * P.2.2)) (223) from (wp3.up (by omega)))) ?_
  rintro _ h4 ⟨p4, rfl, g4, p4x, p4y, p4w, f4, wp4x, wp4y, wp4w⟩
  have G4 := G3.trans g4
  refine g_aret rfl ?_
  exact ⟨p4, rfl, G4.mono (by omega), _, _, _, f4, (wp4x.up (by omega)), (wp4y.up (by omega)), (wp4w.up (by omega))⟩
def p_inv_S (P : T3) (R : T4) : T3 := p_cross_S (p_polar_S P R) (p_cross_S P (p_midR_S R))
def p_inv_O (P : T3) (R : T4) : Option T3 := if P.2.2 = 0 ∨ ((p_cross_S P (p_midR_S R)).1 = 0 ∧ (p_cross_S P (p_midR_S R)).2.1 = 0 ∧ (p_cross_S P (p_midR_S R)).2.2 = 0) then none else some (p_inv_S P R)
set_option maxHeartbeats 4000000 in
theorem p_inv {w : aW} {d : Nat} (hd : 5 ≤ d) {h : aH} {c : Nat} (ci : CI h c) {aP : Nat} {P : T3} (tP : TB h c aP P (20)) {aR : Nat} {R : T4} (tR : QB h c aR R (20))  : WP w d 57 [aO (some (c + 6)), aO (some aP), aO (some aR)] h (RO (fun r h1 => Gr h h1 c 33 ∧ OT h1 c r (p_inv_O P R) (87))) := by
  obtain ⟨d, rfl⟩ : ∃ d1, d = d1 + 1 := ⟨d - 1, by omega⟩
  refine WP.enter (cd := cd_X2_inverse) rfl ?_
  have G0 := Gr.refl ci
  obtain ⟨Px, Py, Pw, fP, wPx, wPy, wPw⟩ := tP
  obtain ⟨Rk, Ra, Rb, Re, fR, wRk, wRa, wRb, wRe⟩ := tR
  have hls : largs 0 [aO (some (c + 6)), aO (some aP), aO (some aR)] = [(0, aO (some (c + 6))), (1, aO (some aP)), (2, aO (some aR))] := rfl
  rw [hls]
  clear hls
  refine g_aload_n rfl rfl ?_
  refine g_aload_n rfl rfl ?_
  refine g_callVO [aO (some aR)] [] rfl rfl rfl rfl (Nat.le_of_ble_eq_true rfl) (G0.cs.kd 6 (by omega) rfl) (p_midR (by omega) G0.ci (show QB h c aR R (20) from ⟨_, _, _, _, fR, (wRk.up (by omega)), (wRa.up (by omega)), (wRb.up (by omega)), (wRe.up (by omega))⟩) (by omega)) ?_
  rintro _ h1 ⟨p1, rfl, g1, p1x, p1y, p1w, f1, wp1x, wp1y, wp1w⟩
  have G1 := G0.trans g1
  refine g_astore_n (l1 := [(3, aO (some p1)), (0, aO (some (c + 6))), (1, aO (some aP)), (2, aO (some aR))]) rfl rfl ?_
  refine g_aload_n rfl rfl ?_
  refine g_ifnull_f rfl ?_
  refine g_aload_n rfl rfl ?_
  refine g_aload_n rfl rfl ?_
  refine g_callVI [aO (some aP)] [] rfl rfl rfl rfl (Nat.le_of_ble_eq_true rfl) (G1.cs.kd 6 (by omega) rfl) (p_isFar (by omega) G1.ci (show TB h1 c aP P (20) from ⟨_, _, _, (g1.tf fP), ((g1.wb wPx).up (by omega)), ((g1.wb wPy).up (by omega)), ((g1.wb wPw).up (by omega))⟩)) ?_
  rintro _ hx2 ⟨ehx2, rfl⟩
  rw [ehx2]
  clear ehx2 hx2
  refine g_b_ne rfl (fun c15 => ?_) (fun c15 => ?_)
  · skip
    refine g_null rfl ?_
    refine g_aret rfl ?_
    refine ⟨G1.mono (by omega), ?_⟩
    unfold p_inv_O
    rw [if_pos (by omega)]
    rfl
  · skip
    refine g_aload_n rfl rfl ?_
    refine g_aload_n rfl rfl ?_
    refine g_aload_n rfl rfl ?_
    refine g_callVI [aO (some aP), aO (some p1)] [] rfl rfl rfl rfl (Nat.le_of_ble_eq_true rfl) (G1.cs.kd 6 (by omega) rfl) (p_areSame (by omega) G1.ci (show TB h1 c aP P (21) from ⟨_, _, _, (g1.tf fP), ((g1.wb wPx).up (by omega)), ((g1.wb wPy).up (by omega)), ((g1.wb wPw).up (by omega))⟩) (show TB h1 c p1 (p_midR_S R) (21) from ⟨_, _, _, f1, (wp1x.up (by omega)), (wp1y.up (by omega)), (wp1w.up (by omega))⟩) (by omega)) ?_
    rintro _ h3 ⟨g3, rfl⟩
    have G3 := G1.trans g3
    refine g_b_eq rfl (fun c24 => ?_) (fun c24 => ?_)
    · skip
      refine g_aload_n rfl rfl ?_
      refine g_aload_n rfl rfl ?_
      refine g_aload_n rfl rfl ?_
      refine g_aload_n rfl rfl ?_
      refine g_callVO [aO (some aP), aO (some aR)] [aO (some (c + 6))] rfl rfl rfl rfl (Nat.le_of_ble_eq_true rfl) (G3.cs.kd 6 (by omega) rfl) (p_polar (by omega) G3.ci (show TB h3 c aP P (20) from ⟨_, _, _, (g3.tf (g1.tf fP)), ((g3.wb (g1.wb wPx)).up (by omega)), ((g3.wb (g1.wb wPy)).up (by omega)), ((g3.wb (g1.wb wPw)).up (by omega))⟩) (show QB h3 c aR R (20) from ⟨_, _, _, _, (g3.rf (g1.rf fR)), ((g3.wb (g1.wb wRk)).up (by omega)), ((g3.wb (g1.wb wRa)).up (by omega)), ((g3.wb (g1.wb wRb)).up (by omega)), ((g3.wb (g1.wb wRe)).up (by omega))⟩) (by omega)) ?_
      rintro _ h4 ⟨p4, rfl, g4, p4x, p4y, p4w, f4, wp4x, wp4y, wp4w⟩
      have G4 := G3.trans g4
      refine g_aload_n rfl rfl ?_
      refine g_aload_n rfl rfl ?_
      refine g_aload_n rfl rfl ?_
      refine g_callVO [aO (some aP), aO (some p1)] [aO (some p4), aO (some (c + 6))] rfl rfl rfl rfl (Nat.le_of_ble_eq_true rfl) (G4.cs.kd 6 (by omega) rfl) (p_cross (by omega) G4.ci (show TB h4 c aP P (21) from ⟨_, _, _, (g4.tf (g3.tf (g1.tf fP))), ((g4.wb (g3.wb (g1.wb wPx))).up (by omega)), ((g4.wb (g3.wb (g1.wb wPy))).up (by omega)), ((g4.wb (g3.wb (g1.wb wPw))).up (by omega))⟩) (show TB h4 c p1 (p_midR_S R) (21) from ⟨_, _, _, (g4.tf (g3.tf f1)), ((g4.wb (g3.wb wp1x)).up (by omega)), ((g4.wb (g3.wb wp1y)).up (by omega)), ((g4.wb (g3.wb wp1w)).up (by omega))⟩) (by omega)) ?_
      rintro _ h5 ⟨p5, rfl, g5, p5x, p5y, p5w, f5, wp5x, wp5y, wp5w⟩
      have G5 := G4.trans g5
      refine g_callVO [aO (some p4), aO (some p5)] [] rfl rfl rfl rfl (Nat.le_of_ble_eq_true rfl) (G5.cs.kd 6 (by omega) rfl) (p_cross (by omega) G5.ci (show TB h5 c p4 (p_polar_S P R) (43) from ⟨_, _, _, (g5.tf f4), ((g5.wb wp4x).up (by omega)), ((g5.wb wp4y).up (by omega)), ((g5.wb wp4w).up (by omega))⟩) (show TB h5 c p5 (p_cross_S P (p_midR_S R)) (43) from ⟨_, _, _, f5, (wp5x.up (by omega)), (wp5y.up (by omega)), (wp5w.up (by omega))⟩) (by omega)) ?_
      rintro _ h6 ⟨p6, rfl, g6, p6x, p6y, p6w, f6, wp6x, wp6y, wp6w⟩
      have G6 := G5.trans g6
      refine g_aret rfl ?_
      refine ⟨G6.mono (by omega), ?_⟩
      unfold p_inv_O
      rw [if_neg (by omega)]
      exact ⟨p6, rfl, _, _, _, f6, (wp6x.up (by omega)), (wp6y.up (by omega)), (wp6w.up (by omega))⟩
    · skip
      refine g_null rfl ?_
      refine g_aret rfl ?_
      refine ⟨G3.mono (by omega), ?_⟩
      unfold p_inv_O
      rw [if_pos (by omega)]
      rfl
