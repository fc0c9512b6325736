/-! the class's statements, kind by kind: printed by wip/whole/da.py -/
set_option maxHeartbeats 4000000 in
theorem o_tr0 {w : aW} {d : Nat} (hd : 6 ≤ d) {h : aH} {c : Nat} (ci : CI h c) {S : aS} (xt : XT h c S) (ok : OkT S) (a : Int) (ha : 0 ≤ a ∧ a < sT S) (b : Int) (hb : 0 ≤ b ∧ b < sT S) (e : Int) (he : 0 ≤ e ∧ e < sT S)  : WP w d 145 [aO (some (c + 10)), aI 0, aI a, aI b, aI e] h (RI (fun r h1 => Gr h h1 c 22 ∧ r = if p_det_S (tpT S a) (tpT S b) (tpT S e) = 0 then 1 else 0)) := by
  obtain ⟨d, rfl⟩ : ∃ d1, d = d1 + 1 := ⟨d - 1, by omega⟩
  refine WP.enter (cd := cd_X6_isSoOfTriples) rfl ?_
  have G0 := Gr.refl ci
  have hls : largs 0 [aO (some (c + 10)), aI 0, aI a, aI b, aI e] = [(0, aO (some (c + 10))), (1, aI 0), (2, aI a), (3, aI b), (4, aI e)] := rfl
  rw [hls]
  clear hls
  refine g_aload_n rfl rfl ?_
  refine g_getR rfl (G0.cs.kd 10 (by omega) rfl) (G0.cs.rf 14 (by omega) rfl) ?_
  refine g_iload_n rfl rfl ?_
  refine g_callVO [aI a] [] rfl rfl rfl rfl (Nat.le_of_ble_eq_true rfl) (G0.cs.kd 7 (by omega) rfl) (t_triple (by omega) G0.ci xt ok a ha) ?_
  rintro _ h1 ⟨p1, rfl, g1, p1x, p1y, p1w, f1, wp1x, wp1y, wp1w⟩
  have G1 := G0.trans g1
  refine g_astore (l1 := [(5, aO (some p1)), (0, aO (some (c + 10))), (1, aI 0), (2, aI a), (3, aI b), (4, aI e)]) rfl rfl ?_
  refine g_aload_n rfl rfl ?_
  refine g_getR rfl (G1.cs.kd 10 (by omega) rfl) (G1.cs.rf 14 (by omega) rfl) ?_
  refine g_iload_n rfl rfl ?_
  refine g_callVO [aI b] [] rfl rfl rfl rfl (Nat.le_of_ble_eq_true rfl) (G1.cs.kd 7 (by omega) rfl) (t_triple (by omega) G1.ci (g1.xt G0.ci xt) ok b hb) ?_
  rintro _ h2 ⟨p2, rfl, g2, p2x, p2y, p2w, f2, wp2x, wp2y, wp2w⟩
  have G2 := G1.trans g2
  refine g_astore (l1 := [(6, aO (some p2)), (5, aO (some p1)), (0, aO (some (c + 10))), (1, aI 0), (2, aI a), (3, aI b), (4, aI e)]) rfl rfl ?_
  refine g_iload_n rfl rfl ?_
  refine g_tsw (t := 180) rfl (by rfl) ?_
  refine g_aload_n rfl rfl ?_
  refine g_getR rfl (G2.cs.kd 10 (by omega) rfl) (G2.cs.rf 12 (by omega) rfl) ?_
  refine g_aload_n rfl rfl ?_
  refine g_getR rfl (G2.cs.kd 10 (by omega) rfl) (G2.cs.rf 13 (by omega) rfl) ?_
  refine g_aload rfl rfl ?_
  refine g_aload rfl rfl ?_
  refine g_aload_n rfl rfl ?_
  refine g_getR rfl (G2.cs.kd 10 (by omega) rfl) (G2.cs.rf 14 (by omega) rfl) ?_
  refine g_iload rfl rfl ?_
  refine g_callVO [aI e] [aO (some p2), aO (some p1), aO (some (c + 6)), aO (some (c + 1))] rfl rfl rfl rfl (Nat.le_of_ble_eq_true rfl) (G2.cs.kd 7 (by omega) rfl) (t_triple (by omega) G2.ci (g2.xt G1.ci (g1.xt G0.ci xt)) ok e he) ?_
  rintro _ h3 ⟨p3, rfl, g3, p3x, p3y, p3w, f3, wp3x, wp3y, wp3w⟩
  have G3 := G2.trans g3
  refine g_callVO [aO (some p1), aO (some p2), aO (some p3)] [aO (some (c + 1))] rfl rfl rfl rfl (Nat.le_of_ble_eq_true rfl) (G3.cs.kd 6 (by omega) rfl) (p_det (by omega) G3.ci (show TB h3 c p1 (tpT S a) (20) from ⟨_, _, _, (g3.tf (g2.tf f1)), ((g3.wb (g2.wb wp1x)).up (by omega)), ((g3.wb (g2.wb wp1y)).up (by omega)), ((g3.wb (g2.wb wp1w)).up (by omega))⟩) (show TB h3 c p2 (tpT S b) (20) from ⟨_, _, _, (g3.tf f2), ((g3.wb wp2x).up (by omega)), ((g3.wb wp2y).up (by omega)), ((g3.wb wp2w).up (by omega))⟩) (show TB h3 c p3 (tpT S e) (20) from ⟨_, _, _, f3, (wp3x.up (by omega)), (wp3y.up (by omega)), (wp3w.up (by omega))⟩) (by omega)) ?_
  rintro _ h4 ⟨p4, rfl, g4, wp4⟩
  have G4 := G3.trans g4
  refine g_callVI [aO (some p4)] [] rfl rfl rfl rfl (Nat.le_of_ble_eq_true rfl) (G4.cs.kd 1 (by omega) rfl) (s_isZero (by omega) G4.ci wp4) ?_
  rintro _ hx5 ⟨ehx5, rfl⟩
  rw [ehx5]
  clear ehx5 hx5
  refine g_zret rfl (by omega) ?_
  refine ⟨G4.mono (by omega), ?_⟩
  first
    | rfl
    | (refine (if_pos ?_).symm; assumption)
    | (refine (if_neg fun q => ?_).symm; contradiction)
    | (split <;> first | (refine (if_pos ?_).symm; assumption) | (refine (if_neg fun q => ?_).symm; contradiction))
set_option maxHeartbeats 4000000 in
theorem o_tr1 {w : aW} {d : Nat} (hd : 6 ≤ d) {h : aH} {c : Nat} (ci : CI h c) {S : aS} (xt : XT h c S) (ok : OkT S) (a : Int) (ha : 0 ≤ a ∧ a < sT S) (b : Int) (hb : 0 ≤ b ∧ b < sT S) (e : Int) (he : 0 ≤ e ∧ e < sT S)  : WP w d 145 [aO (some (c + 10)), aI 1, aI a, aI b, aI e] h (RI (fun r h1 => Gr h h1 c 22 ∧ r = if p_det_S (tpT S a) (tpT S b) (tpT S e) = 0 then 1 else 0)) := by
  obtain ⟨d, rfl⟩ : ∃ d1, d = d1 + 1 := ⟨d - 1, by omega⟩
  refine WP.enter (cd := cd_X6_isSoOfTriples) rfl ?_
  have G0 := Gr.refl ci
  have hls : largs 0 [aO (some (c + 10)), aI 1, aI a, aI b, aI e] = [(0, aO (some (c + 10))), (1, aI 1), (2, aI a), (3, aI b), (4, aI e)] := rfl
  rw [hls]
  clear hls
  refine g_aload_n rfl rfl ?_
  refine g_getR rfl (G0.cs.kd 10 (by omega) rfl) (G0.cs.rf 14 (by omega) rfl) ?_
  refine g_iload_n rfl rfl ?_
  refine g_callVO [aI a] [] rfl rfl rfl rfl (Nat.le_of_ble_eq_true rfl) (G0.cs.kd 7 (by omega) rfl) (t_triple (by omega) G0.ci xt ok a ha) ?_
  rintro _ h1 ⟨p1, rfl, g1, p1x, p1y, p1w, f1, wp1x, wp1y, wp1w⟩
  have G1 := G0.trans g1
  refine g_astore (l1 := [(5, aO (some p1)), (0, aO (some (c + 10))), (1, aI 1), (2, aI a), (3, aI b), (4, aI e)]) rfl rfl ?_
  refine g_aload_n rfl rfl ?_
  refine g_getR rfl (G1.cs.kd 10 (by omega) rfl) (G1.cs.rf 14 (by omega) rfl) ?_
  refine g_iload_n rfl rfl ?_
  refine g_callVO [aI b] [] rfl rfl rfl rfl (Nat.le_of_ble_eq_true rfl) (G1.cs.kd 7 (by omega) rfl) (t_triple (by omega) G1.ci (g1.xt G0.ci xt) ok b hb) ?_
  rintro _ h2 ⟨p2, rfl, g2, p2x, p2y, p2w, f2, wp2x, wp2y, wp2w⟩
  have G2 := G1.trans g2
  refine g_astore (l1 := [(6, aO (some p2)), (5, aO (some p1)), (0, aO (some (c + 10))), (1, aI 1), (2, aI a), (3, aI b), (4, aI e)]) rfl rfl ?_
  refine g_iload_n rfl rfl ?_
  refine g_tsw (t := 180) rfl (by rfl) ?_
  refine g_aload_n rfl rfl ?_
  refine g_getR rfl (G2.cs.kd 10 (by omega) rfl) (G2.cs.rf 12 (by omega) rfl) ?_
  refine g_aload_n rfl rfl ?_
  refine g_getR rfl (G2.cs.kd 10 (by omega) rfl) (G2.cs.rf 13 (by omega) rfl) ?_
  refine g_aload rfl rfl ?_
  refine g_aload rfl rfl ?_
  refine g_aload_n rfl rfl ?_
  refine g_getR rfl (G2.cs.kd 10 (by omega) rfl) (G2.cs.rf 14 (by omega) rfl) ?_
  refine g_iload rfl rfl ?_
  refine g_callVO [aI e] [aO (some p2), aO (some p1), aO (some (c + 6)), aO (some (c + 1))] rfl rfl rfl rfl (Nat.le_of_ble_eq_true rfl) (G2.cs.kd 7 (by omega) rfl) (t_triple (by omega) G2.ci (g2.xt G1.ci (g1.xt G0.ci xt)) ok e he) ?_
  rintro _ h3 ⟨p3, rfl, g3, p3x, p3y, p3w, f3, wp3x, wp3y, wp3w⟩
  have G3 := G2.trans g3
  refine g_callVO [aO (some p1), aO (some p2), aO (some p3)] [aO (some (c + 1))] rfl rfl rfl rfl (Nat.le_of_ble_eq_true rfl) (G3.cs.kd 6 (by omega) rfl) (p_det (by omega) G3.ci (show TB h3 c p1 (tpT S a) (20) from ⟨_, _, _, (g3.tf (g2.tf f1)), ((g3.wb (g2.wb wp1x)).up (by omega)), ((g3.wb (g2.wb wp1y)).up (by omega)), ((g3.wb (g2.wb wp1w)).up (by omega))⟩) (show TB h3 c p2 (tpT S b) (20) from ⟨_, _, _, (g3.tf f2), ((g3.wb wp2x).up (by omega)), ((g3.wb wp2y).up (by omega)), ((g3.wb wp2w).up (by omega))⟩) (show TB h3 c p3 (tpT S e) (20) from ⟨_, _, _, f3, (wp3x.up (by omega)), (wp3y.up (by omega)), (wp3w.up (by omega))⟩) (by omega)) ?_
  rintro _ h4 ⟨p4, rfl, g4, wp4⟩
  have G4 := G3.trans g4
  refine g_callVI [aO (some p4)] [] rfl rfl rfl rfl (Nat.le_of_ble_eq_true rfl) (G4.cs.kd 1 (by omega) rfl) (s_isZero (by omega) G4.ci wp4) ?_
  rintro _ hx5 ⟨ehx5, rfl⟩
  rw [ehx5]
  clear ehx5 hx5
  refine g_zret rfl (by omega) ?_
  refine ⟨G4.mono (by omega), ?_⟩
  first
    | rfl
    | (refine (if_pos ?_).symm; assumption)
    | (refine (if_neg fun q => ?_).symm; contradiction)
    | (split <;> first | (refine (if_pos ?_).symm; assumption) | (refine (if_neg fun q => ?_).symm; contradiction))
set_option maxHeartbeats 4000000 in
theorem o_tr2 {w : aW} {d : Nat} (hd : 6 ≤ d) {h : aH} {c : Nat} (ci : CI h c) {S : aS} (xt : XT h c S) (ok : OkT S) (a : Int) (ha : 0 ≤ a ∧ a < sT S) (b : Int) (hb : 0 ≤ b ∧ b < sT S) (e : Int)  : WP w d 145 [aO (some (c + 10)), aI 2, aI a, aI b, aI e] h (RI (fun r h1 => Gr h h1 c 11 ∧ r = if p_dot_S (tpT S a) (tpT S b) = 0 then 1 else 0)) := by
  obtain ⟨d, rfl⟩ : ∃ d1, d = d1 + 1 := ⟨d - 1, by omega⟩
  refine WP.enter (cd := cd_X6_isSoOfTriples) rfl ?_
  have G0 := Gr.refl ci
  have hls : largs 0 [aO (some (c + 10)), aI 2, aI a, aI b, aI e] = [(0, aO (some (c + 10))), (1, aI 2), (2, aI a), (3, aI b), (4, aI e)] := rfl
  rw [hls]
  clear hls
  refine g_aload_n rfl rfl ?_
  refine g_getR rfl (G0.cs.kd 10 (by omega) rfl) (G0.cs.rf 14 (by omega) rfl) ?_
  refine g_iload_n rfl rfl ?_
  refine g_callVO [aI a] [] rfl rfl rfl rfl (Nat.le_of_ble_eq_true rfl) (G0.cs.kd 7 (by omega) rfl) (t_triple (by omega) G0.ci xt ok a ha) ?_
  rintro _ h1 ⟨p1, rfl, g1, p1x, p1y, p1w, f1, wp1x, wp1y, wp1w⟩
  have G1 := G0.trans g1
  refine g_astore (l1 := [(5, aO (some p1)), (0, aO (some (c + 10))), (1, aI 2), (2, aI a), (3, aI b), (4, aI e)]) rfl rfl ?_
  refine g_aload_n rfl rfl ?_
  refine g_getR rfl (G1.cs.kd 10 (by omega) rfl) (G1.cs.rf 14 (by omega) rfl) ?_
  refine g_iload_n rfl rfl ?_
  refine g_callVO [aI b] [] rfl rfl rfl rfl (Nat.le_of_ble_eq_true rfl) (G1.cs.kd 7 (by omega) rfl) (t_triple (by omega) G1.ci (g1.xt G0.ci xt) ok b hb) ?_
  rintro _ h2 ⟨p2, rfl, g2, p2x, p2y, p2w, f2, wp2x, wp2y, wp2w⟩
  have G2 := G1.trans g2
  refine g_astore (l1 := [(6, aO (some p2)), (5, aO (some p1)), (0, aO (some (c + 10))), (1, aI 2), (2, aI a), (3, aI b), (4, aI e)]) rfl rfl ?_
  refine g_iload_n rfl rfl ?_
  refine g_tsw (t := 52) rfl (by rfl) ?_
  refine g_aload_n rfl rfl ?_
  refine g_getR rfl (G2.cs.kd 10 (by omega) rfl) (G2.cs.rf 12 (by omega) rfl) ?_
  refine g_aload_n rfl rfl ?_
  refine g_getR rfl (G2.cs.kd 10 (by omega) rfl) (G2.cs.rf 13 (by omega) rfl) ?_
  refine g_aload rfl rfl ?_
  refine g_aload rfl rfl ?_
  refine g_callVO [aO (some p1), aO (some p2)] [aO (some (c + 1))] rfl rfl rfl rfl (Nat.le_of_ble_eq_true rfl) (G2.cs.kd 6 (by omega) rfl) (p_dot (by omega) G2.ci (show TB h2 c p1 (tpT S a) (20) from ⟨_, _, _, (g2.tf f1), ((g2.wb wp1x).up (by omega)), ((g2.wb wp1y).up (by omega)), ((g2.wb wp1w).up (by omega))⟩) (show TB h2 c p2 (tpT S b) (20) from ⟨_, _, _, f2, (wp2x.up (by omega)), (wp2y.up (by omega)), (wp2w.up (by omega))⟩) (by omega)) ?_
  rintro _ h3 ⟨p3, rfl, g3, wp3⟩
  have G3 := G2.trans g3
  refine g_callVI [aO (some p3)] [] rfl rfl rfl rfl (Nat.le_of_ble_eq_true rfl) (G3.cs.kd 1 (by omega) rfl) (s_isZero (by omega) G3.ci wp3) ?_
  rintro _ hx4 ⟨ehx4, rfl⟩
  rw [ehx4]
  clear ehx4 hx4
  refine g_zret rfl (by omega) ?_
  refine ⟨G3.mono (by omega), ?_⟩
  first
    | rfl
    | (refine (if_pos ?_).symm; assumption)
    | (refine (if_neg fun q => ?_).symm; contradiction)
    | (split <;> first | (refine (if_pos ?_).symm; assumption) | (refine (if_neg fun q => ?_).symm; contradiction))
set_option maxHeartbeats 4000000 in
theorem o_tr4 {w : aW} {d : Nat} (hd : 6 ≤ d) {h : aH} {c : Nat} (ci : CI h c) {S : aS} (xt : XT h c S) (ok : OkT S) (a : Int) (ha : 0 ≤ a ∧ a < sT S) (b : Int) (hb : 0 ≤ b ∧ b < sT S) (e : Int)  : WP w d 145 [aO (some (c + 10)), aI 4, aI a, aI b, aI e] h (RI (fun r h1 => Gr h h1 c 10 ∧ r = if (tpT S a).1 * (tpT S b).2.1 = (tpT S a).2.1 * (tpT S b).1 then 1 else 0)) := by
  obtain ⟨d, rfl⟩ : ∃ d1, d = d1 + 1 := ⟨d - 1, by omega⟩
  refine WP.enter (cd := cd_X6_isSoOfTriples) rfl ?_
  have G0 := Gr.refl ci
  have hls : largs 0 [aO (some (c + 10)), aI 4, aI a, aI b, aI e] = [(0, aO (some (c + 10))), (1, aI 4), (2, aI a), (3, aI b), (4, aI e)] := rfl
  rw [hls]
  clear hls
  refine g_aload_n rfl rfl ?_
  refine g_getR rfl (G0.cs.kd 10 (by omega) rfl) (G0.cs.rf 14 (by omega) rfl) ?_
  refine g_iload_n rfl rfl ?_
  refine g_callVO [aI a] [] rfl rfl rfl rfl (Nat.le_of_ble_eq_true rfl) (G0.cs.kd 7 (by omega) rfl) (t_triple (by omega) G0.ci xt ok a ha) ?_
  rintro _ h1 ⟨p1, rfl, g1, p1x, p1y, p1w, f1, wp1x, wp1y, wp1w⟩
  have G1 := G0.trans g1
  refine g_astore (l1 := [(5, aO (some p1)), (0, aO (some (c + 10))), (1, aI 4), (2, aI a), (3, aI b), (4, aI e)]) rfl rfl ?_
  refine g_aload_n rfl rfl ?_
  refine g_getR rfl (G1.cs.kd 10 (by omega) rfl) (G1.cs.rf 14 (by omega) rfl) ?_
  refine g_iload_n rfl rfl ?_
  refine g_callVO [aI b] [] rfl rfl rfl rfl (Nat.le_of_ble_eq_true rfl) (G1.cs.kd 7 (by omega) rfl) (t_triple (by omega) G1.ci (g1.xt G0.ci xt) ok b hb) ?_
  rintro _ h2 ⟨p2, rfl, g2, p2x, p2y, p2w, f2, wp2x, wp2y, wp2w⟩
  have G2 := G1.trans g2
  refine g_astore (l1 := [(6, aO (some p2)), (5, aO (some p1)), (0, aO (some (c + 10))), (1, aI 4), (2, aI a), (3, aI b), (4, aI e)]) rfl rfl ?_
  refine g_iload_n rfl rfl ?_
  refine g_tsw (t := 71) rfl (by rfl) ?_
  refine g_aload_n rfl rfl ?_
  refine g_getR rfl (G2.cs.kd 10 (by omega) rfl) (G2.cs.rf 12 (by omega) rfl) ?_
  refine g_aload_n rfl rfl ?_
  refine g_getR rfl (G2.cs.kd 10 (by omega) rfl) (G2.cs.rf 12 (by omega) rfl) ?_
  refine g_aload rfl rfl ?_
  refine g_getR rfl (g2.tf f1).1.2.2 (g2.tf f1).2.1 ?_
  refine g_aload rfl rfl ?_
  refine g_getR rfl f2.1.2.2 f2.2.2.1 ?_
  refine g_callVO [aO (some p1x), aO (some p2y)] [aO (some (c + 1))] rfl rfl rfl rfl (Nat.le_of_ble_eq_true rfl) (G2.cs.kd 1 (by omega) rfl) (s_times (by omega) G2.ci (g2.wb wp1x) wp2y (by omega)) ?_
  rintro _ h3 ⟨p3, rfl, g3, wp3⟩
  have G3 := G2.trans g3
  refine g_aload_n rfl rfl ?_
  refine g_getR rfl (G3.cs.kd 10 (by omega) rfl) (G3.cs.rf 12 (by omega) rfl) ?_
  refine g_aload rfl rfl ?_
  refine g_getR rfl (g3.tf (g2.tf f1)).1.2.2 (g3.tf (g2.tf f1)).2.2.1 ?_
  refine g_aload rfl rfl ?_
  refine g_getR rfl (g3.tf f2).1.2.2 (g3.tf f2).2.1 ?_
  refine g_callVO [aO (some p1y), aO (some p2x)] [aO (some p3), aO (some (c + 1))] rfl rfl rfl rfl (Nat.le_of_ble_eq_true rfl) (G3.cs.kd 1 (by omega) rfl) (s_times (by omega) G3.ci (g3.wb (g2.wb wp1y)) (g3.wb wp2x) (by omega)) ?_
  rintro _ h4 ⟨p4, rfl, g4, wp4⟩
  have G4 := G3.trans g4
  refine g_callVI [aO (some p3), aO (some p4)] [] rfl rfl rfl rfl (Nat.le_of_ble_eq_true rfl) (G4.cs.kd 1 (by omega) rfl) (s_areEqual (by omega) G4.ci (g4.wb wp3) wp4) ?_
  rintro _ hx5 ⟨ehx5, rfl⟩
  rw [ehx5]
  clear ehx5 hx5
  refine g_zret rfl (by omega) ?_
  refine ⟨G4.mono (by omega), ?_⟩
  first
    | rfl
    | (refine (if_pos ?_).symm; assumption)
    | (refine (if_neg fun q => ?_).symm; contradiction)
    | (split <;> first | (refine (if_pos ?_).symm; assumption) | (refine (if_neg fun q => ?_).symm; contradiction))
set_option maxHeartbeats 4000000 in
theorem o_tr5 {w : aW} {d : Nat} (hd : 6 ≤ d) {h : aH} {c : Nat} (ci : CI h c) {S : aS} (xt : XT h c S) (ok : OkT S) (a : Int) (ha : 0 ≤ a ∧ a < sT S) (b : Int) (hb : 0 ≤ b ∧ b < sT S) (e : Int)  : WP w d 145 [aO (some (c + 10)), aI 5, aI a, aI b, aI e] h (RI (fun r h1 => Gr h h1 c 9 ∧ r = if ¬((tpT S a).1 = 0 ∧ (tpT S a).2.1 = 0) ∧ ¬((tpT S b).1 = 0 ∧ (tpT S b).2.1 = 0) ∧ (tpT S a).1 * (tpT S b).1 + (tpT S a).2.1 * (tpT S b).2.1 = 0 then 1 else 0)) := by
  obtain ⟨d, rfl⟩ : ∃ d1, d = d1 + 1 := ⟨d - 1, by omega⟩
  refine WP.enter (cd := cd_X6_isSoOfTriples) rfl ?_
  have G0 := Gr.refl ci
  have hls : largs 0 [aO (some (c + 10)), aI 5, aI a, aI b, aI e] = [(0, aO (some (c + 10))), (1, aI 5), (2, aI a), (3, aI b), (4, aI e)] := rfl
  rw [hls]
  clear hls
  refine g_aload_n rfl rfl ?_
  refine g_getR rfl (G0.cs.kd 10 (by omega) rfl) (G0.cs.rf 14 (by omega) rfl) ?_
  refine g_iload_n rfl rfl ?_
  refine g_callVO [aI a] [] rfl rfl rfl rfl (Nat.le_of_ble_eq_true rfl) (G0.cs.kd 7 (by omega) rfl) (t_triple (by omega) G0.ci xt ok a ha) ?_
  rintro _ h1 ⟨p1, rfl, g1, p1x, p1y, p1w, f1, wp1x, wp1y, wp1w⟩
  have G1 := G0.trans g1
  refine g_astore (l1 := [(5, aO (some p1)), (0, aO (some (c + 10))), (1, aI 5), (2, aI a), (3, aI b), (4, aI e)]) rfl rfl ?_
  refine g_aload_n rfl rfl ?_
  refine g_getR rfl (G1.cs.kd 10 (by omega) rfl) (G1.cs.rf 14 (by omega) rfl) ?_
  refine g_iload_n rfl rfl ?_
  refine g_callVO [aI b] [] rfl rfl rfl rfl (Nat.le_of_ble_eq_true rfl) (G1.cs.kd 7 (by omega) rfl) (t_triple (by omega) G1.ci (g1.xt G0.ci xt) ok b hb) ?_
  rintro _ h2 ⟨p2, rfl, g2, p2x, p2y, p2w, f2, wp2x, wp2y, wp2w⟩
  have G2 := G1.trans g2
  refine g_astore (l1 := [(6, aO (some p2)), (5, aO (some p1)), (0, aO (some (c + 10))), (1, aI 5), (2, aI a), (3, aI b), (4, aI e)]) rfl rfl ?_
  refine g_iload_n rfl rfl ?_
  refine g_tsw (t := 113) rfl (by rfl) ?_
  refine g_aload_n rfl rfl ?_
  refine g_getR rfl (G2.cs.kd 10 (by omega) rfl) (G2.cs.rf 13 (by omega) rfl) ?_
  refine g_aload rfl rfl ?_
  refine g_callVI [aO (some p1)] [] rfl rfl rfl rfl (Nat.le_of_ble_eq_true rfl) (G2.cs.kd 6 (by omega) rfl) (p_hasAllFar (by omega) G2.ci (show TB h2 c p1 (tpT S a) (20) from ⟨_, _, _, (g2.tf f1), ((g2.wb wp1x).up (by omega)), ((g2.wb wp1y).up (by omega)), ((g2.wb wp1w).up (by omega))⟩)) ?_
  rintro _ hx3 ⟨ehx3, rfl⟩
  rw [ehx3]
  clear ehx3 hx3
  refine g_b_ne rfl (fun c122 => ?_) (fun c122 => ?_)
  · skip
    refine g_iconst rfl ?_
    refine g_zret rfl (by omega) ?_
    refine ⟨G2.mono (by omega), ?_⟩
    first
      | rfl
      | (refine (if_pos ?_).symm; refine ⟨?_, ?_, ?_⟩ <;> assumption)
      | (refine (if_neg fun q => ?_).symm; obtain ⟨q0, q1, q2⟩ := q; contradiction)
      | (split <;> first | (refine (if_pos ?_).symm; refine ⟨?_, ?_, ?_⟩ <;> assumption) | (refine (if_neg fun q => ?_).symm; obtain ⟨q0, q1, q2⟩ := q; contradiction))
  · skip
    refine g_aload_n rfl rfl ?_
    refine g_getR rfl (G2.cs.kd 10 (by omega) rfl) (G2.cs.rf 13 (by omega) rfl) ?_
    refine g_aload rfl rfl ?_
    refine g_callVI [aO (some p2)] [] rfl rfl rfl rfl (Nat.le_of_ble_eq_true rfl) (G2.cs.kd 6 (by omega) rfl) (p_hasAllFar (by omega) G2.ci (show TB h2 c p2 (tpT S b) (20) from ⟨_, _, _, f2, (wp2x.up (by omega)), (wp2y.up (by omega)), (wp2w.up (by omega))⟩)) ?_
    rintro _ hx4 ⟨ehx4, rfl⟩
    rw [ehx4]
    clear ehx4 hx4
    refine g_b_ne rfl (fun c134 => ?_) (fun c134 => ?_)
    · skip
      refine g_iconst rfl ?_
      refine g_zret rfl (by omega) ?_
      refine ⟨G2.mono (by omega), ?_⟩
      first
        | rfl
        | (refine (if_pos ?_).symm; refine ⟨?_, ?_, ?_⟩ <;> assumption)
        | (refine (if_neg fun q => ?_).symm; obtain ⟨q0, q1, q2⟩ := q; contradiction)
        | (split <;> first | (refine (if_pos ?_).symm; refine ⟨?_, ?_, ?_⟩ <;> assumption) | (refine (if_neg fun q => ?_).symm; obtain ⟨q0, q1, q2⟩ := q; contradiction))
    · skip
      refine g_aload_n rfl rfl ?_
      refine g_getR rfl (G2.cs.kd 10 (by omega) rfl) (G2.cs.rf 12 (by omega) rfl) ?_
      refine g_aload_n rfl rfl ?_
      refine g_getR rfl (G2.cs.kd 10 (by omega) rfl) (G2.cs.rf 12 (by omega) rfl) ?_
      refine g_aload rfl rfl ?_
      refine g_getR rfl (g2.tf f1).1.2.2 (g2.tf f1).2.1 ?_
      refine g_aload rfl rfl ?_
      refine g_getR rfl f2.1.2.2 f2.2.1 ?_
      refine g_aload rfl rfl ?_
      refine g_getR rfl (g2.tf f1).1.2.2 (g2.tf f1).2.2.1 ?_
      refine g_aload rfl rfl ?_
      refine g_getR rfl f2.1.2.2 f2.2.2.1 ?_
      refine g_callVO [aO (some p1x), aO (some p2x), aO (some p1y), aO (some p2y)] [aO (some (c + 1))] rfl rfl rfl rfl (Nat.le_of_ble_eq_true rfl) (G2.cs.kd 1 (by omega) rfl) (s_added (by omega) G2.ci (g2.wb wp1x) wp2x (g2.wb wp1y) wp2y (41) (by omega) (by omega) (by omega)) ?_
      rintro _ h5 ⟨p5, rfl, g5, wp5⟩
      have G5 := G2.trans g5
      refine g_callVI [aO (some p5)] [] rfl rfl rfl rfl (Nat.le_of_ble_eq_true rfl) (G5.cs.kd 1 (by omega) rfl) (s_isZero (by omega) G5.ci wp5) ?_
      rintro _ hx6 ⟨ehx6, rfl⟩
      rw [ehx6]
      clear ehx6 hx6
      refine g_b_eq rfl (fun c171 => ?_) (fun c171 => ?_)
      · skip
        refine g_iconst rfl ?_
        refine g_zret rfl (by omega) ?_
        refine ⟨G5.mono (by omega), ?_⟩
        first
          | rfl
          | (refine (if_pos ?_).symm; refine ⟨?_, ?_, ?_⟩ <;> assumption)
          | (refine (if_neg fun q => ?_).symm; obtain ⟨q0, q1, q2⟩ := q; contradiction)
          | (split <;> first | (refine (if_pos ?_).symm; refine ⟨?_, ?_, ?_⟩ <;> assumption) | (refine (if_neg fun q => ?_).symm; obtain ⟨q0, q1, q2⟩ := q; contradiction))
      · skip
        refine g_iconst rfl ?_
        refine g_goto rfl ?_
        refine g_zret rfl (by omega) ?_
        refine ⟨G5.mono (by omega), ?_⟩
        first
          | rfl
          | (refine (if_pos ?_).symm; refine ⟨?_, ?_, ?_⟩ <;> assumption)
          | (refine (if_neg fun q => ?_).symm; obtain ⟨q0, q1, q2⟩ := q; contradiction)
          | (split <;> first | (refine (if_pos ?_).symm; refine ⟨?_, ?_, ?_⟩ <;> assumption) | (refine (if_neg fun q => ?_).symm; obtain ⟨q0, q1, q2⟩ := q; contradiction))
set_option maxHeartbeats 4000000 in
theorem o_so0 {w : aW} {d : Nat} (hd : 8 ≤ d) {h : aH} {c : Nat} (ci : CI h c) {S : aS} (xt : XT h c S) (ok : OkT S) (a : Int) (ha : 0 ≤ a ∧ a < sT S) (b : Int) (hb : 0 ≤ b ∧ b < sT S) (e : Int) (he : 0 ≤ e ∧ e < sT S) (f : Int)  : WP w d 144 [aO (some (c + 10)), aI 0, aI a, aI b, aI e, aI f] h (RI (fun r h1 => Gr h h1 c 22 ∧ r = if p_det_S (tpT S a) (tpT S b) (tpT S e) = 0 then 1 else 0)) := by
  obtain ⟨d, rfl⟩ : ∃ d1, d = d1 + 1 := ⟨d - 1, by omega⟩
  refine WP.enter (cd := cd_X6_isSo) rfl ?_
  have G0 := Gr.refl ci
  have hls : largs 0 [aO (some (c + 10)), aI 0, aI a, aI b, aI e, aI f] = [(0, aO (some (c + 10))), (1, aI 0), (2, aI a), (3, aI b), (4, aI e), (5, aI f)] := rfl
  rw [hls]
  clear hls
  refine g_iload_n rfl rfl ?_
  refine g_tsw (t := 262) rfl (by rfl) ?_
  refine g_aload_n rfl rfl ?_
  refine g_iload_n rfl rfl ?_
  refine g_iload_n rfl rfl ?_
  refine g_iload_n rfl rfl ?_
  refine g_iload rfl rfl ?_
  refine g_callVI [aI 0, aI a, aI b, aI e] [] rfl rfl rfl rfl (Nat.le_of_ble_eq_true rfl) (G0.cs.kd 10 (by omega) rfl) (o_tr0 (by omega) G0.ci xt ok a ha b hb e he) ?_
  rintro _ h1 ⟨g1, rfl⟩
  have G1 := G0.trans g1
  refine g_zret rfl (by omega) ?_
  refine ⟨G1.mono (by omega), ?_⟩
  rfl
set_option maxHeartbeats 4000000 in
theorem o_so1 {w : aW} {d : Nat} (hd : 8 ≤ d) {h : aH} {c : Nat} (ci : CI h c) {S : aS} (xt : XT h c S) (ok : OkT S) (a : Int) (ha : 0 ≤ a ∧ a < sT S) (b : Int) (hb : 0 ≤ b ∧ b < sT S) (e : Int) (he : 0 ≤ e ∧ e < sT S) (f : Int)  : WP w d 144 [aO (some (c + 10)), aI 1, aI a, aI b, aI e, aI f] h (RI (fun r h1 => Gr h h1 c 22 ∧ r = if p_det_S (tpT S a) (tpT S b) (tpT S e) = 0 then 1 else 0)) := by
  obtain ⟨d, rfl⟩ : ∃ d1, d = d1 + 1 := ⟨d - 1, by omega⟩
  refine WP.enter (cd := cd_X6_isSo) rfl ?_
  have G0 := Gr.refl ci
  have hls : largs 0 [aO (some (c + 10)), aI 1, aI a, aI b, aI e, aI f] = [(0, aO (some (c + 10))), (1, aI 1), (2, aI a), (3, aI b), (4, aI e), (5, aI f)] := rfl
  rw [hls]
  clear hls
  refine g_iload_n rfl rfl ?_
  refine g_tsw (t := 262) rfl (by rfl) ?_
  refine g_aload_n rfl rfl ?_
  refine g_iload_n rfl rfl ?_
  refine g_iload_n rfl rfl ?_
  refine g_iload_n rfl rfl ?_
  refine g_iload rfl rfl ?_
  refine g_callVI [aI 1, aI a, aI b, aI e] [] rfl rfl rfl rfl (Nat.le_of_ble_eq_true rfl) (G0.cs.kd 10 (by omega) rfl) (o_tr1 (by omega) G0.ci xt ok a ha b hb e he) ?_
  rintro _ h1 ⟨g1, rfl⟩
  have G1 := G0.trans g1
  refine g_zret rfl (by omega) ?_
  refine ⟨G1.mono (by omega), ?_⟩
  rfl
set_option maxHeartbeats 4000000 in
theorem o_so2 {w : aW} {d : Nat} (hd : 8 ≤ d) {h : aH} {c : Nat} (ci : CI h c) {S : aS} (xt : XT h c S) (ok : OkT S) (a : Int) (ha : 0 ≤ a ∧ a < sT S) (b : Int) (hb : 0 ≤ b ∧ b < sT S) (e : Int) (f : Int)  : WP w d 144 [aO (some (c + 10)), aI 2, aI a, aI b, aI e, aI f] h (RI (fun r h1 => Gr h h1 c 11 ∧ r = if p_dot_S (tpT S a) (tpT S b) = 0 then 1 else 0)) := by
  obtain ⟨d, rfl⟩ : ∃ d1, d = d1 + 1 := ⟨d - 1, by omega⟩
  refine WP.enter (cd := cd_X6_isSo) rfl ?_
  have G0 := Gr.refl ci
  have hls : largs 0 [aO (some (c + 10)), aI 2, aI a, aI b, aI e, aI f] = [(0, aO (some (c + 10))), (1, aI 2), (2, aI a), (3, aI b), (4, aI e), (5, aI f)] := rfl
  rw [hls]
  clear hls
  refine g_iload_n rfl rfl ?_
  refine g_tsw (t := 262) rfl (by rfl) ?_
  refine g_aload_n rfl rfl ?_
  refine g_iload_n rfl rfl ?_
  refine g_iload_n rfl rfl ?_
  refine g_iload_n rfl rfl ?_
  refine g_iload rfl rfl ?_
  refine g_callVI [aI 2, aI a, aI b, aI e] [] rfl rfl rfl rfl (Nat.le_of_ble_eq_true rfl) (G0.cs.kd 10 (by omega) rfl) (o_tr2 (by omega) G0.ci xt ok a ha b hb e) ?_
  rintro _ h1 ⟨g1, rfl⟩
  have G1 := G0.trans g1
  refine g_zret rfl (by omega) ?_
  refine ⟨G1.mono (by omega), ?_⟩
  rfl
set_option maxHeartbeats 4000000 in
theorem o_so3 {w : aW} {d : Nat} (hd : 8 ≤ d) {h : aH} {c : Nat} (ci : CI h c) {S : aS} (xt : XT h c S) (ok : OkT S) (a : Int) (ha : 0 ≤ a ∧ a < sT S) (b : Int) (hb : 0 ≤ b ∧ b < sT S) (e : Int) (f : Int)  : WP w d 144 [aO (some (c + 10)), aI 3, aI a, aI b, aI e, aI f] h (RI (fun r h1 => Gr h h1 c 14 ∧ r = if ¬ (tpT S a).2.2 = 0 ∧ p_inEq_S (tpT S a) (tpR S b) = 0 then 1 else 0)) := by
  obtain ⟨d, rfl⟩ : ∃ d1, d = d1 + 1 := ⟨d - 1, by omega⟩
  refine WP.enter (cd := cd_X6_isSo) rfl ?_
  have G0 := Gr.refl ci
  have hls : largs 0 [aO (some (c + 10)), aI 3, aI a, aI b, aI e, aI f] = [(0, aO (some (c + 10))), (1, aI 3), (2, aI a), (3, aI b), (4, aI e), (5, aI f)] := rfl
  rw [hls]
  clear hls
  refine g_iload_n rfl rfl ?_
  refine g_tsw (t := 64) rfl (by rfl) ?_
  refine g_aload_n rfl rfl ?_
  refine g_aload_n rfl rfl ?_
  refine g_getR rfl (G0.cs.kd 10 (by omega) rfl) (G0.cs.rf 14 (by omega) rfl) ?_
  refine g_iload_n rfl rfl ?_
  refine g_callVO [aI a] [aO (some (c + 10))] rfl rfl rfl rfl (Nat.le_of_ble_eq_true rfl) (G0.cs.kd 7 (by omega) rfl) (t_triple (by omega) G0.ci xt ok a ha) ?_
  rintro _ h1 ⟨p1, rfl, g1, p1x, p1y, p1w, f1, wp1x, wp1y, wp1w⟩
  have G1 := G0.trans g1
  refine g_aload_n rfl rfl ?_
  refine g_getR rfl (G1.cs.kd 10 (by omega) rfl) (G1.cs.rf 14 (by omega) rfl) ?_
  refine g_iload_n rfl rfl ?_
  refine g_callVO [aI b] [aO (some p1), aO (some (c + 10))] rfl rfl rfl rfl (Nat.le_of_ble_eq_true rfl) (G1.cs.kd 7 (by omega) rfl) (t_ring (by omega) G1.ci (g1.xt G0.ci xt) ok b hb) ?_
  rintro _ h2 ⟨p2, rfl, g2, p2k, p2a, p2b, p2e, f2, wp2k, wp2a, wp2b, wp2e⟩
  have G2 := G1.trans g2
  refine g_callVI [aO (some p1), aO (some p2)] [] rfl rfl rfl rfl (Nat.le_of_ble_eq_true rfl) (G2.cs.kd 10 (by omega) rfl) (o_onRing (by omega) G2.ci (show TB h2 c p1 (tpT S a) (20) from ⟨_, _, _, (g2.tf f1), ((g2.wb wp1x).up (by omega)), ((g2.wb wp1y).up (by omega)), ((g2.wb wp1w).up (by omega))⟩) (show QB h2 c p2 (tpR S b) (180) from ⟨_, _, _, _, f2, (wp2k.up (by omega)), (wp2a.up (by omega)), (wp2b.up (by omega)), (wp2e.up (by omega))⟩)) ?_
  rintro _ h3 ⟨g3, rfl⟩
  have G3 := G2.trans g3
  refine g_zret rfl (by omega) ?_
  refine ⟨G3.mono (by omega), ?_⟩
  rfl
set_option maxHeartbeats 4000000 in
theorem o_so4 {w : aW} {d : Nat} (hd : 8 ≤ d) {h : aH} {c : Nat} (ci : CI h c) {S : aS} (xt : XT h c S) (ok : OkT S) (a : Int) (ha : 0 ≤ a ∧ a < sT S) (b : Int) (hb : 0 ≤ b ∧ b < sT S) (e : Int) (f : Int)  : WP w d 144 [aO (some (c + 10)), aI 4, aI a, aI b, aI e, aI f] h (RI (fun r h1 => Gr h h1 c 10 ∧ r = if (tpT S a).1 * (tpT S b).2.1 = (tpT S a).2.1 * (tpT S b).1 then 1 else 0)) := by
  obtain ⟨d, rfl⟩ : ∃ d1, d = d1 + 1 := ⟨d - 1, by omega⟩
  refine WP.enter (cd := cd_X6_isSo) rfl ?_
  have G0 := Gr.refl ci
  have hls : largs 0 [aO (some (c + 10)), aI 4, aI a, aI b, aI e, aI f] = [(0, aO (some (c + 10))), (1, aI 4), (2, aI a), (3, aI b), (4, aI e), (5, aI f)] := rfl
  rw [hls]
  clear hls
  refine g_iload_n rfl rfl ?_
  refine g_tsw (t := 262) rfl (by rfl) ?_
  refine g_aload_n rfl rfl ?_
  refine g_iload_n rfl rfl ?_
  refine g_iload_n rfl rfl ?_
  refine g_iload_n rfl rfl ?_
  refine g_iload rfl rfl ?_
  refine g_callVI [aI 4, aI a, aI b, aI e] [] rfl rfl rfl rfl (Nat.le_of_ble_eq_true rfl) (G0.cs.kd 10 (by omega) rfl) (o_tr4 (by omega) G0.ci xt ok a ha b hb e) ?_
  rintro _ h1 ⟨g1, rfl⟩
  have G1 := G0.trans g1
  refine g_zret rfl (by omega) ?_
  refine ⟨G1.mono (by omega), ?_⟩
  rfl
set_option maxHeartbeats 4000000 in
theorem o_so5 {w : aW} {d : Nat} (hd : 8 ≤ d) {h : aH} {c : Nat} (ci : CI h c) {S : aS} (xt : XT h c S) (ok : OkT S) (a : Int) (ha : 0 ≤ a ∧ a < sT S) (b : Int) (hb : 0 ≤ b ∧ b < sT S) (e : Int) (f : Int)  : WP w d 144 [aO (some (c + 10)), aI 5, aI a, aI b, aI e, aI f] h (RI (fun r h1 => Gr h h1 c 9 ∧ r = if ¬((tpT S a).1 = 0 ∧ (tpT S a).2.1 = 0) ∧ ¬((tpT S b).1 = 0 ∧ (tpT S b).2.1 = 0) ∧ (tpT S a).1 * (tpT S b).1 + (tpT S a).2.1 * (tpT S b).2.1 = 0 then 1 else 0)) := by
  obtain ⟨d, rfl⟩ : ∃ d1, d = d1 + 1 := ⟨d - 1, by omega⟩
  refine WP.enter (cd := cd_X6_isSo) rfl ?_
  have G0 := Gr.refl ci
  have hls : largs 0 [aO (some (c + 10)), aI 5, aI a, aI b, aI e, aI f] = [(0, aO (some (c + 10))), (1, aI 5), (2, aI a), (3, aI b), (4, aI e), (5, aI f)] := rfl
  rw [hls]
  clear hls
  refine g_iload_n rfl rfl ?_
  refine g_tsw (t := 262) rfl (by rfl) ?_
  refine g_aload_n rfl rfl ?_
  refine g_iload_n rfl rfl ?_
  refine g_iload_n rfl rfl ?_
  refine g_iload_n rfl rfl ?_
  refine g_iload rfl rfl ?_
  refine g_callVI [aI 5, aI a, aI b, aI e] [] rfl rfl rfl rfl (Nat.le_of_ble_eq_true rfl) (G0.cs.kd 10 (by omega) rfl) (o_tr5 (by omega) G0.ci xt ok a ha b hb e) ?_
  rintro _ h1 ⟨g1, rfl⟩
  have G1 := G0.trans g1
  refine g_zret rfl (by omega) ?_
  refine ⟨G1.mono (by omega), ?_⟩
  rfl
set_option maxHeartbeats 4000000 in
theorem o_so6 {w : aW} {d : Nat} (hd : 8 ≤ d) {h : aH} {c : Nat} (ci : CI h c) {S : aS} (xt : XT h c S) (ok : OkT S) (a : Int) (ha : 0 ≤ a ∧ a < sT S) (b : Int) (hb : 0 ≤ b ∧ b < sT S) (e : Int) (he : 0 ≤ e ∧ e < sT S) (f : Int) (hf : 0 ≤ f ∧ f < sT S)  : WP w d 144 [aO (some (c + 10)), aI 6, aI a, aI b, aI e, aI f] h (RI (fun r h1 => Gr h h1 c 34 ∧ r = if ¬((tpT S a).2.2 = 0 ∨ (tpT S b).2.2 = 0) ∧ ¬((tpT S e).2.2 = 0 ∨ (tpT S f).2.2 = 0) ∧ (p_way_S (tpT S a) (tpT S b)).1 * (p_way_S (tpT S e) (tpT S f)).2.2 = (p_way_S (tpT S e) (tpT S f)).1 * (p_way_S (tpT S a) (tpT S b)).2.2 then 1 else 0)) := by
  obtain ⟨d, rfl⟩ : ∃ d1, d = d1 + 1 := ⟨d - 1, by omega⟩
  refine WP.enter (cd := cd_X6_isSo) rfl ?_
  have G0 := Gr.refl ci
  have hls : largs 0 [aO (some (c + 10)), aI 6, aI a, aI b, aI e, aI f] = [(0, aO (some (c + 10))), (1, aI 6), (2, aI a), (3, aI b), (4, aI e), (5, aI f)] := rfl
  rw [hls]
  clear hls
  refine g_iload_n rfl rfl ?_
  refine g_tsw (t := 85) rfl (by rfl) ?_
  refine g_aload_n rfl rfl ?_
  refine g_iload_n rfl rfl ?_
  refine g_iload_n rfl rfl ?_
  refine g_iload rfl rfl ?_
  refine g_iload rfl rfl ?_
  refine g_callVI [aI a, aI b, aI e, aI f] [] rfl rfl rfl rfl (Nat.le_of_ble_eq_true rfl) (G0.cs.kd 10 (by omega) rfl) (o_asFar (by omega) G0.ci xt ok a ha b hb e he f hf) ?_
  rintro _ h1 ⟨g1, rfl⟩
  have G1 := G0.trans g1
  refine g_zret rfl (by omega) ?_
  refine ⟨G1.mono (by omega), ?_⟩
  rfl
set_option maxHeartbeats 4000000 in
theorem o_so7 {w : aW} {d : Nat} (hd : 8 ≤ d) {h : aH} {c : Nat} (ci : CI h c) {S : aS} (xt : XT h c S) (ok : OkT S) (a : Int) (ha : 0 ≤ a ∧ a < sT S) (b : Int) (hb : 0 ≤ b ∧ b < sT S) (e : Int) (he : 0 ≤ e ∧ e < sT S) (f : Int) (hf : 0 ≤ f ∧ f < sT S)  : WP w d 144 [aO (some (c + 10)), aI 7, aI a, aI b, aI e, aI f] h (RI (fun r h1 => Gr h h1 c 130 ∧ r = if ¬((tpT S a).2.2 = 0 ∨ (tpT S b).2.2 = 0 ∨ (tpT S e).2.2 = 0 ∨ p_det_S (tpT S a) (tpT S b) (tpT S e) = 0) ∧ (¬((p_cross_S ((tpT S a)) ((tpT S b))).1 = 0 ∧ (p_cross_S ((tpT S a)) ((tpT S b))).2.1 = 0 ∧ (p_cross_S ((tpT S a)) ((tpT S b))).2.2 = 0) ∧ ¬((p_cross_S ((tpT S a)) ((tpT S e))).1 = 0 ∧ (p_cross_S ((tpT S a)) ((tpT S e))).2.1 = 0 ∧ (p_cross_S ((tpT S a)) ((tpT S e))).2.2 = 0) ∧ ¬((p_cross_S ((tpT S a)) ((tpT S f))).1 = 0 ∧ (p_cross_S ((tpT S a)) ((tpT S f))).2.1 = 0 ∧ (p_cross_S ((tpT S a)) ((tpT S f))).2.2 = 0) ∧ ¬((p_cross_S ((tpT S b)) ((tpT S e))).1 = 0 ∧ (p_cross_S ((tpT S b)) ((tpT S e))).2.1 = 0 ∧ (p_cross_S ((tpT S b)) ((tpT S e))).2.2 = 0) ∧ ¬((p_cross_S ((tpT S b)) ((tpT S f))).1 = 0 ∧ (p_cross_S ((tpT S b)) ((tpT S f))).2.1 = 0 ∧ (p_cross_S ((tpT S b)) ((tpT S f))).2.2 = 0) ∧ ¬((p_cross_S ((tpT S e)) ((tpT S f))).1 = 0 ∧ (p_cross_S ((tpT S e)) ((tpT S f))).2.1 = 0 ∧ (p_cross_S ((tpT S e)) ((tpT S f))).2.2 = 0)) ∧ ¬ (tpT S f).2.2 = 0 ∧ p_inEq_S (tpT S f) (p_thr_S (tpT S a) (tpT S b) (tpT S e)) = 0 then 1 else 0)) := by
  obtain ⟨d, rfl⟩ : ∃ d1, d = d1 + 1 := ⟨d - 1, by omega⟩
  refine WP.enter (cd := cd_X6_isSo) rfl ?_
  have G0 := Gr.refl ci
  have hls : largs 0 [aO (some (c + 10)), aI 7, aI a, aI b, aI e, aI f] = [(0, aO (some (c + 10))), (1, aI 7), (2, aI a), (3, aI b), (4, aI e), (5, aI f)] := rfl
  rw [hls]
  clear hls
  refine g_iload_n rfl rfl ?_
  refine g_tsw (t := 96) rfl (by rfl) ?_
  refine g_aload_n rfl rfl ?_
  refine g_iload_n rfl rfl ?_
  refine g_iload_n rfl rfl ?_
  refine g_iload rfl rfl ?_
  refine g_iload rfl rfl ?_
  refine g_callVI [aI a, aI b, aI e, aI f] [] rfl rfl rfl rfl (Nat.le_of_ble_eq_true rfl) (G0.cs.kd 10 (by omega) rfl) (o_oneRing (by omega) G0.ci xt ok a ha b hb e he f hf) ?_
  rintro _ h1 ⟨g1, rfl⟩
  have G1 := G0.trans g1
  refine g_zret rfl (by omega) ?_
  refine ⟨G1.mono (by omega), ?_⟩
  rfl
set_option maxHeartbeats 4000000 in
theorem o_so8 {w : aW} {d : Nat} (hd : 8 ≤ d) {h : aH} {c : Nat} (ci : CI h c) {S : aS} (xt : XT h c S) (ok : OkT S) (a : Int) (ha : 0 ≤ a ∧ a < sT S) (b : Int) (hb : 0 ≤ b ∧ b < sT S) (e : Int) (f : Int)  : WP w d 144 [aO (some (c + 10)), aI 8, aI a, aI b, aI e, aI f] h (RI (fun r h1 => Gr h h1 c 21 ∧ r = if ¬((tpT S a).1 = 0 ∧ (tpT S a).2.1 = 0) ∧ p_depth_S (tpT S a) (tpR S b) = 0 then 1 else 0)) := by
  obtain ⟨d, rfl⟩ : ∃ d1, d = d1 + 1 := ⟨d - 1, by omega⟩
  refine WP.enter (cd := cd_X6_isSo) rfl ?_
  have G0 := Gr.refl ci
  have hls : largs 0 [aO (some (c + 10)), aI 8, aI a, aI b, aI e, aI f] = [(0, aO (some (c + 10))), (1, aI 8), (2, aI a), (3, aI b), (4, aI e), (5, aI f)] := rfl
  rw [hls]
  clear hls
  refine g_iload_n rfl rfl ?_
  refine g_tsw (t := 107) rfl (by rfl) ?_
  refine g_aload_n rfl rfl ?_
  refine g_aload_n rfl rfl ?_
  refine g_getR rfl (G0.cs.kd 10 (by omega) rfl) (G0.cs.rf 14 (by omega) rfl) ?_
  refine g_iload_n rfl rfl ?_
  refine g_callVO [aI a] [aO (some (c + 10))] rfl rfl rfl rfl (Nat.le_of_ble_eq_true rfl) (G0.cs.kd 7 (by omega) rfl) (t_triple (by omega) G0.ci xt ok a ha) ?_
  rintro _ h1 ⟨p1, rfl, g1, p1x, p1y, p1w, f1, wp1x, wp1y, wp1w⟩
  have G1 := G0.trans g1
  refine g_aload_n rfl rfl ?_
  refine g_getR rfl (G1.cs.kd 10 (by omega) rfl) (G1.cs.rf 14 (by omega) rfl) ?_
  refine g_iload_n rfl rfl ?_
  refine g_callVO [aI b] [aO (some p1), aO (some (c + 10))] rfl rfl rfl rfl (Nat.le_of_ble_eq_true rfl) (G1.cs.kd 7 (by omega) rfl) (t_ring (by omega) G1.ci (g1.xt G0.ci xt) ok b hb) ?_
  rintro _ h2 ⟨p2, rfl, g2, p2k, p2a, p2b, p2e, f2, wp2k, wp2a, wp2b, wp2e⟩
  have G2 := G1.trans g2
  refine g_callVI [aO (some p1), aO (some p2)] [] rfl rfl rfl rfl (Nat.le_of_ble_eq_true rfl) (G2.cs.kd 10 (by omega) rfl) (o_touches (by omega) G2.ci (show TB h2 c p1 (tpT S a) (20) from ⟨_, _, _, (g2.tf f1), ((g2.wb wp1x).up (by omega)), ((g2.wb wp1y).up (by omega)), ((g2.wb wp1w).up (by omega))⟩) (show QB h2 c p2 (tpR S b) (20) from ⟨_, _, _, _, f2, (wp2k.up (by omega)), (wp2a.up (by omega)), (wp2b.up (by omega)), (wp2e.up (by omega))⟩)) ?_
  rintro _ h3 ⟨g3, rfl⟩
  have G3 := G2.trans g3
  refine g_zret rfl (by omega) ?_
  refine ⟨G3.mono (by omega), ?_⟩
  rfl
set_option maxHeartbeats 4000000 in
theorem o_so9 {w : aW} {d : Nat} (hd : 8 ≤ d) {h : aH} {c : Nat} (ci : CI h c) {S : aS} (xt : XT h c S) (ok : OkT S) (a : Int) (ha : 0 ≤ a ∧ a < sT S) (b : Int) (hb : 0 ≤ b ∧ b < sT S) (e : Int) (f : Int)  : WP w d 144 [aO (some (c + 10)), aI 9, aI a, aI b, aI e, aI f] h (RI (fun r h1 => Gr h h1 c 29 ∧ r = if ¬((tpR S b).1 * (tpR S a).2.1 - (tpR S a).1 * (tpR S b).2.1 = 0 ∧ (tpR S b).1 * (tpR S a).2.2.1 - (tpR S a).1 * (tpR S b).2.2.1 = 0) ∧ p_depth_S (p_power_S (tpR S a) (tpR S b)) (tpR S a) = 0 then 1 else 0)) := by
  obtain ⟨d, rfl⟩ : ∃ d1, d = d1 + 1 := ⟨d - 1, by omega⟩
  refine WP.enter (cd := cd_X6_isSo) rfl ?_
  have G0 := Gr.refl ci
  have hls : largs 0 [aO (some (c + 10)), aI 9, aI a, aI b, aI e, aI f] = [(0, aO (some (c + 10))), (1, aI 9), (2, aI a), (3, aI b), (4, aI e), (5, aI f)] := rfl
  rw [hls]
  clear hls
  refine g_iload_n rfl rfl ?_
  refine g_tsw (t := 128) rfl (by rfl) ?_
  refine g_aload_n rfl rfl ?_
  refine g_aload_n rfl rfl ?_
  refine g_getR rfl (G0.cs.kd 10 (by omega) rfl) (G0.cs.rf 14 (by omega) rfl) ?_
  refine g_iload_n rfl rfl ?_
  refine g_callVO [aI a] [aO (some (c + 10))] rfl rfl rfl rfl (Nat.le_of_ble_eq_true rfl) (G0.cs.kd 7 (by omega) rfl) (t_ring (by omega) G0.ci xt ok a ha) ?_
  rintro _ h1 ⟨p1, rfl, g1, p1k, p1a, p1b, p1e, f1, wp1k, wp1a, wp1b, wp1e⟩
  have G1 := G0.trans g1
  refine g_aload_n rfl rfl ?_
  refine g_getR rfl (G1.cs.kd 10 (by omega) rfl) (G1.cs.rf 14 (by omega) rfl) ?_
  refine g_iload_n rfl rfl ?_
  refine g_callVO [aI b] [aO (some p1), aO (some (c + 10))] rfl rfl rfl rfl (Nat.le_of_ble_eq_true rfl) (G1.cs.kd 7 (by omega) rfl) (t_ring (by omega) G1.ci (g1.xt G0.ci xt) ok b hb) ?_
  rintro _ h2 ⟨p2, rfl, g2, p2k, p2a, p2b, p2e, f2, wp2k, wp2a, wp2b, wp2e⟩
  have G2 := G1.trans g2
  refine g_callVI [aO (some p1), aO (some p2)] [] rfl rfl rfl rfl (Nat.le_of_ble_eq_true rfl) (G2.cs.kd 10 (by omega) rfl) (o_rtouch (by omega) G2.ci (show QB h2 c p1 (tpR S a) (20) from ⟨_, _, _, _, (g2.rf f1), ((g2.wb wp1k).up (by omega)), ((g2.wb wp1a).up (by omega)), ((g2.wb wp1b).up (by omega)), ((g2.wb wp1e).up (by omega))⟩) (show QB h2 c p2 (tpR S b) (20) from ⟨_, _, _, _, f2, (wp2k.up (by omega)), (wp2a.up (by omega)), (wp2b.up (by omega)), (wp2e.up (by omega))⟩)) ?_
  rintro _ h3 ⟨g3, rfl⟩
  have G3 := G2.trans g3
  refine g_zret rfl (by omega) ?_
  refine ⟨G3.mono (by omega), ?_⟩
  rfl
set_option maxHeartbeats 4000000 in
theorem o_so10 {w : aW} {d : Nat} (hd : 8 ≤ d) {h : aH} {c : Nat} (ci : CI h c) {S : aS} (xt : XT h c S) (ok : OkT S) (a : Int) (ha : 0 ≤ a ∧ a < sT S) (b : Int) (hb : 0 ≤ b ∧ b < sT S) (e : Int) (f : Int)  : WP w d 144 [aO (some (c + 10)), aI 10, aI a, aI b, aI e, aI f] h (RI (fun r h1 => Gr h h1 c 13 ∧ r = if (tpR S a).2.1 * (tpR S b).2.1 + (tpR S a).2.2.1 * (tpR S b).2.2.1 = 2 * ((tpR S a).2.2.2 * (tpR S b).1 + (tpR S b).2.2.2 * (tpR S a).1) then 1 else 0)) := by
  obtain ⟨d, rfl⟩ : ∃ d1, d = d1 + 1 := ⟨d - 1, by omega⟩
  refine WP.enter (cd := cd_X6_isSo) rfl ?_
  have G0 := Gr.refl ci
  have hls : largs 0 [aO (some (c + 10)), aI 10, aI a, aI b, aI e, aI f] = [(0, aO (some (c + 10))), (1, aI 10), (2, aI a), (3, aI b), (4, aI e), (5, aI f)] := rfl
  rw [hls]
  clear hls
  refine g_iload_n rfl rfl ?_
  refine g_tsw (t := 149) rfl (by rfl) ?_
  refine g_aload_n rfl rfl ?_
  refine g_aload_n rfl rfl ?_
  refine g_getR rfl (G0.cs.kd 10 (by omega) rfl) (G0.cs.rf 14 (by omega) rfl) ?_
  refine g_iload_n rfl rfl ?_
  refine g_callVO [aI a] [aO (some (c + 10))] rfl rfl rfl rfl (Nat.le_of_ble_eq_true rfl) (G0.cs.kd 7 (by omega) rfl) (t_ring (by omega) G0.ci xt ok a ha) ?_
  rintro _ h1 ⟨p1, rfl, g1, p1k, p1a, p1b, p1e, f1, wp1k, wp1a, wp1b, wp1e⟩
  have G1 := G0.trans g1
  refine g_aload_n rfl rfl ?_
  refine g_getR rfl (G1.cs.kd 10 (by omega) rfl) (G1.cs.rf 14 (by omega) rfl) ?_
  refine g_iload_n rfl rfl ?_
  refine g_callVO [aI b] [aO (some p1), aO (some (c + 10))] rfl rfl rfl rfl (Nat.le_of_ble_eq_true rfl) (G1.cs.kd 7 (by omega) rfl) (t_ring (by omega) G1.ci (g1.xt G0.ci xt) ok b hb) ?_
  rintro _ h2 ⟨p2, rfl, g2, p2k, p2a, p2b, p2e, f2, wp2k, wp2a, wp2b, wp2e⟩
  have G2 := G1.trans g2
  refine g_callVI [aO (some p1), aO (some p2)] [] rfl rfl rfl rfl (Nat.le_of_ble_eq_true rfl) (G2.cs.kd 10 (by omega) rfl) (o_rsq (by omega) G2.ci (show QB h2 c p1 (tpR S a) (20) from ⟨_, _, _, _, (g2.rf f1), ((g2.wb wp1k).up (by omega)), ((g2.wb wp1a).up (by omega)), ((g2.wb wp1b).up (by omega)), ((g2.wb wp1e).up (by omega))⟩) (show QB h2 c p2 (tpR S b) (20) from ⟨_, _, _, _, f2, (wp2k.up (by omega)), (wp2a.up (by omega)), (wp2b.up (by omega)), (wp2e.up (by omega))⟩)) ?_
  rintro _ h3 ⟨g3, rfl⟩
  have G3 := G2.trans g3
  refine g_zret rfl (by omega) ?_
  refine ⟨G3.mono (by omega), ?_⟩
  rfl
set_option maxHeartbeats 4000000 in
theorem o_so11 {w : aW} {d : Nat} (hd : 8 ≤ d) {h : aH} {c : Nat} (ci : CI h c) {S : aS} (xt : XT h c S) (ok : OkT S) (a : Int) (ha : 0 ≤ a ∧ a < sT S) (b : Int) (hb : 0 ≤ b ∧ b < sT S) (e : Int) (he : 0 ≤ e ∧ e < sT S) (f : Int)  : WP w d 144 [aO (some (c + 10)), aI 11, aI a, aI b, aI e, aI f] h (RI (fun r h1 => Gr h h1 c 22 ∧ r = if ¬((tpT S a).2.2 = 0 ∨ (tpT S b).2.2 = 0 ∨ (tpT S e).2.2 = 0) ∧ 0 < lcmp (p_det_S (tpT S a) (tpT S b) (tpT S e)) 0 then 1 else 0)) := by
  obtain ⟨d, rfl⟩ : ∃ d1, d = d1 + 1 := ⟨d - 1, by omega⟩
  refine WP.enter (cd := cd_X6_isSo) rfl ?_
  have G0 := Gr.refl ci
  have hls : largs 0 [aO (some (c + 10)), aI 11, aI a, aI b, aI e, aI f] = [(0, aO (some (c + 10))), (1, aI 11), (2, aI a), (3, aI b), (4, aI e), (5, aI f)] := rfl
  rw [hls]
  clear hls
  refine g_iload_n rfl rfl ?_
  refine g_tsw (t := 170) rfl (by rfl) ?_
  refine g_aload_n rfl rfl ?_
  refine g_aload_n rfl rfl ?_
  refine g_getR rfl (G0.cs.kd 10 (by omega) rfl) (G0.cs.rf 14 (by omega) rfl) ?_
  refine g_iload_n rfl rfl ?_
  refine g_callVO [aI a] [aO (some (c + 10))] rfl rfl rfl rfl (Nat.le_of_ble_eq_true rfl) (G0.cs.kd 7 (by omega) rfl) (t_triple (by omega) G0.ci xt ok a ha) ?_
  rintro _ h1 ⟨p1, rfl, g1, p1x, p1y, p1w, f1, wp1x, wp1y, wp1w⟩
  have G1 := G0.trans g1
  refine g_aload_n rfl rfl ?_
  refine g_getR rfl (G1.cs.kd 10 (by omega) rfl) (G1.cs.rf 14 (by omega) rfl) ?_
  refine g_iload_n rfl rfl ?_
  refine g_callVO [aI b] [aO (some p1), aO (some (c + 10))] rfl rfl rfl rfl (Nat.le_of_ble_eq_true rfl) (G1.cs.kd 7 (by omega) rfl) (t_triple (by omega) G1.ci (g1.xt G0.ci xt) ok b hb) ?_
  rintro _ h2 ⟨p2, rfl, g2, p2x, p2y, p2w, f2, wp2x, wp2y, wp2w⟩
  have G2 := G1.trans g2
  refine g_aload_n rfl rfl ?_
  refine g_getR rfl (G2.cs.kd 10 (by omega) rfl) (G2.cs.rf 14 (by omega) rfl) ?_
  refine g_iload rfl rfl ?_
  refine g_callVO [aI e] [aO (some p2), aO (some p1), aO (some (c + 10))] rfl rfl rfl rfl (Nat.le_of_ble_eq_true rfl) (G2.cs.kd 7 (by omega) rfl) (t_triple (by omega) G2.ci (g2.xt G1.ci (g1.xt G0.ci xt)) ok e he) ?_
  rintro _ h3 ⟨p3, rfl, g3, p3x, p3y, p3w, f3, wp3x, wp3y, wp3w⟩
  have G3 := G2.trans g3
  refine g_callVI [aO (some p1), aO (some p2), aO (some p3)] [] rfl rfl rfl rfl (Nat.le_of_ble_eq_true rfl) (G3.cs.kd 10 (by omega) rfl) (o_left (by omega) G3.ci (show TB h3 c p1 (tpT S a) (20) from ⟨_, _, _, (g3.tf (g2.tf f1)), ((g3.wb (g2.wb wp1x)).up (by omega)), ((g3.wb (g2.wb wp1y)).up (by omega)), ((g3.wb (g2.wb wp1w)).up (by omega))⟩) (show TB h3 c p2 (tpT S b) (20) from ⟨_, _, _, (g3.tf f2), ((g3.wb wp2x).up (by omega)), ((g3.wb wp2y).up (by omega)), ((g3.wb wp2w).up (by omega))⟩) (show TB h3 c p3 (tpT S e) (20) from ⟨_, _, _, f3, (wp3x.up (by omega)), (wp3y.up (by omega)), (wp3w.up (by omega))⟩)) ?_
  rintro _ h4 ⟨g4, rfl⟩
  have G4 := G3.trans g4
  refine g_zret rfl (by omega) ?_
  refine ⟨G4.mono (by omega), ?_⟩
  rfl
set_option maxHeartbeats 4000000 in
theorem o_so12 {w : aW} {d : Nat} (hd : 8 ≤ d) {h : aH} {c : Nat} (ci : CI h c) {S : aS} (xt : XT h c S) (ok : OkT S) (a : Int) (ha : 0 ≤ a ∧ a < sT S) (b : Int) (hb : 0 ≤ b ∧ b < sT S) (e : Int) (f : Int)  : WP w d 144 [aO (some (c + 10)), aI 12, aI a, aI b, aI e, aI f] h (RI (fun r h1 => Gr h h1 c 14 ∧ r = if ¬ (tpT S a).2.2 = 0 ∧ lcmp (p_inEq_S (tpT S a) (tpR S b)) 0 < 0 then 1 else 0)) := by
  obtain ⟨d, rfl⟩ : ∃ d1, d = d1 + 1 := ⟨d - 1, by omega⟩
  refine WP.enter (cd := cd_X6_isSo) rfl ?_
  have G0 := Gr.refl ci
  have hls : largs 0 [aO (some (c + 10)), aI 12, aI a, aI b, aI e, aI f] = [(0, aO (some (c + 10))), (1, aI 12), (2, aI a), (3, aI b), (4, aI e), (5, aI f)] := rfl
  rw [hls]
  clear hls
  refine g_iload_n rfl rfl ?_
  refine g_tsw (t := 200) rfl (by rfl) ?_
  refine g_aload_n rfl rfl ?_
  refine g_aload_n rfl rfl ?_
  refine g_getR rfl (G0.cs.kd 10 (by omega) rfl) (G0.cs.rf 14 (by omega) rfl) ?_
  refine g_iload_n rfl rfl ?_
  refine g_callVO [aI a] [aO (some (c + 10))] rfl rfl rfl rfl (Nat.le_of_ble_eq_true rfl) (G0.cs.kd 7 (by omega) rfl) (t_triple (by omega) G0.ci xt ok a ha) ?_
  rintro _ h1 ⟨p1, rfl, g1, p1x, p1y, p1w, f1, wp1x, wp1y, wp1w⟩
  have G1 := G0.trans g1
  refine g_aload_n rfl rfl ?_
  refine g_getR rfl (G1.cs.kd 10 (by omega) rfl) (G1.cs.rf 14 (by omega) rfl) ?_
  refine g_iload_n rfl rfl ?_
  refine g_callVO [aI b] [aO (some p1), aO (some (c + 10))] rfl rfl rfl rfl (Nat.le_of_ble_eq_true rfl) (G1.cs.kd 7 (by omega) rfl) (t_ring (by omega) G1.ci (g1.xt G0.ci xt) ok b hb) ?_
  rintro _ h2 ⟨p2, rfl, g2, p2k, p2a, p2b, p2e, f2, wp2k, wp2a, wp2b, wp2e⟩
  have G2 := G1.trans g2
  refine g_callVI [aO (some p1), aO (some p2)] [] rfl rfl rfl rfl (Nat.le_of_ble_eq_true rfl) (G2.cs.kd 10 (by omega) rfl) (o_within (by omega) G2.ci (show TB h2 c p1 (tpT S a) (20) from ⟨_, _, _, (g2.tf f1), ((g2.wb wp1x).up (by omega)), ((g2.wb wp1y).up (by omega)), ((g2.wb wp1w).up (by omega))⟩) (show QB h2 c p2 (tpR S b) (20) from ⟨_, _, _, _, f2, (wp2k.up (by omega)), (wp2a.up (by omega)), (wp2b.up (by omega)), (wp2e.up (by omega))⟩)) ?_
  rintro _ h3 ⟨g3, rfl⟩
  have G3 := G2.trans g3
  refine g_zret rfl (by omega) ?_
  refine ⟨G3.mono (by omega), ?_⟩
  rfl
set_option maxHeartbeats 4000000 in
theorem o_so13 {w : aW} {d : Nat} (hd : 8 ≤ d) {h : aH} {c : Nat} (ci : CI h c) {S : aS} (xt : XT h c S) (ok : OkT S) (a : Int) (ha : 0 ≤ a ∧ a < sT S) (b : Int) (hb : 0 ≤ b ∧ b < sT S) (e : Int) (he : 0 ≤ e ∧ e < sT S) (f : Int)  : WP w d 144 [aO (some (c + 10)), aI 13, aI a, aI b, aI e, aI f] h (RI (fun r h1 => Gr h h1 c 32 ∧ r = if p_dot_S (p_pole_S (tpT S a) (tpR S e)) (tpT S b) = 0 then 1 else 0)) := by
  obtain ⟨d, rfl⟩ : ∃ d1, d = d1 + 1 := ⟨d - 1, by omega⟩
  refine WP.enter (cd := cd_X6_isSo) rfl ?_
  have G0 := Gr.refl ci
  have hls : largs 0 [aO (some (c + 10)), aI 13, aI a, aI b, aI e, aI f] = [(0, aO (some (c + 10))), (1, aI 13), (2, aI a), (3, aI b), (4, aI e), (5, aI f)] := rfl
  rw [hls]
  clear hls
  refine g_iload_n rfl rfl ?_
  refine g_tsw (t := 221) rfl (by rfl) ?_
  refine g_aload_n rfl rfl ?_
  refine g_aload_n rfl rfl ?_
  refine g_getR rfl (G0.cs.kd 10 (by omega) rfl) (G0.cs.rf 14 (by omega) rfl) ?_
  refine g_iload_n rfl rfl ?_
  refine g_callVO [aI a] [aO (some (c + 10))] rfl rfl rfl rfl (Nat.le_of_ble_eq_true rfl) (G0.cs.kd 7 (by omega) rfl) (t_triple (by omega) G0.ci xt ok a ha) ?_
  rintro _ h1 ⟨p1, rfl, g1, p1x, p1y, p1w, f1, wp1x, wp1y, wp1w⟩
  have G1 := G0.trans g1
  refine g_aload_n rfl rfl ?_
  refine g_getR rfl (G1.cs.kd 10 (by omega) rfl) (G1.cs.rf 14 (by omega) rfl) ?_
  refine g_iload_n rfl rfl ?_
  refine g_callVO [aI b] [aO (some p1), aO (some (c + 10))] rfl rfl rfl rfl (Nat.le_of_ble_eq_true rfl) (G1.cs.kd 7 (by omega) rfl) (t_triple (by omega) G1.ci (g1.xt G0.ci xt) ok b hb) ?_
  rintro _ h2 ⟨p2, rfl, g2, p2x, p2y, p2w, f2, wp2x, wp2y, wp2w⟩
  have G2 := G1.trans g2
  refine g_aload_n rfl rfl ?_
  refine g_getR rfl (G2.cs.kd 10 (by omega) rfl) (G2.cs.rf 14 (by omega) rfl) ?_
  refine g_iload rfl rfl ?_
  refine g_callVO [aI e] [aO (some p2), aO (some p1), aO (some (c + 10))] rfl rfl rfl rfl (Nat.le_of_ble_eq_true rfl) (G2.cs.kd 7 (by omega) rfl) (t_ring (by omega) G2.ci (g2.xt G1.ci (g1.xt G0.ci xt)) ok e he) ?_
  rintro _ h3 ⟨p3, rfl, g3, p3k, p3a, p3b, p3e, f3, wp3k, wp3a, wp3b, wp3e⟩
  have G3 := G2.trans g3
  refine g_callVI [aO (some p1), aO (some p2), aO (some p3)] [] rfl rfl rfl rfl (Nat.le_of_ble_eq_true rfl) (G3.cs.kd 10 (by omega) rfl) (o_pole (by omega) G3.ci (show TB h3 c p1 (tpT S a) (20) from ⟨_, _, _, (g3.tf (g2.tf f1)), ((g3.wb (g2.wb wp1x)).up (by omega)), ((g3.wb (g2.wb wp1y)).up (by omega)), ((g3.wb (g2.wb wp1w)).up (by omega))⟩) (show TB h3 c p2 (tpT S b) (20) from ⟨_, _, _, (g3.tf f2), ((g3.wb wp2x).up (by omega)), ((g3.wb wp2y).up (by omega)), ((g3.wb wp2w).up (by omega))⟩) (show QB h3 c p3 (tpR S e) (20) from ⟨_, _, _, _, f3, (wp3k.up (by omega)), (wp3a.up (by omega)), (wp3b.up (by omega)), (wp3e.up (by omega))⟩)) ?_
  rintro _ h4 ⟨g4, rfl⟩
  have G4 := G3.trans g4
  refine g_zret rfl (by omega) ?_
  refine ⟨G4.mono (by omega), ?_⟩
  rfl
set_option maxHeartbeats 4000000 in
theorem o_so14 {w : aW} {d : Nat} (hd : 8 ≤ d) {h : aH} {c : Nat} (ci : CI h c) {S : aS} (xt : XT h c S) (ok : OkT S) (a : Int) (ha : 0 ≤ a ∧ a < sT S) (b : Int) (hb : 0 ≤ b ∧ b < sT S) (e : Int) (he : 0 ≤ e ∧ e < sT S) (f : Int) (hf : 0 ≤ f ∧ f < sT S)  : WP w d 144 [aO (some (c + 10)), aI 14, aI a, aI b, aI e, aI f] h (RI (fun r h1 => Gr h h1 c 100 ∧ r = if (¬((p_cross_S ((tpT S a)) ((tpT S b))).1 = 0 ∧ (p_cross_S ((tpT S a)) ((tpT S b))).2.1 = 0 ∧ (p_cross_S ((tpT S a)) ((tpT S b))).2.2 = 0) ∧ ¬((p_cross_S ((tpT S a)) ((tpT S e))).1 = 0 ∧ (p_cross_S ((tpT S a)) ((tpT S e))).2.1 = 0 ∧ (p_cross_S ((tpT S a)) ((tpT S e))).2.2 = 0) ∧ ¬((p_cross_S ((tpT S a)) ((tpT S f))).1 = 0 ∧ (p_cross_S ((tpT S a)) ((tpT S f))).2.1 = 0 ∧ (p_cross_S ((tpT S a)) ((tpT S f))).2.2 = 0) ∧ ¬((p_cross_S ((tpT S b)) ((tpT S e))).1 = 0 ∧ (p_cross_S ((tpT S b)) ((tpT S e))).2.1 = 0 ∧ (p_cross_S ((tpT S b)) ((tpT S e))).2.2 = 0) ∧ ¬((p_cross_S ((tpT S b)) ((tpT S f))).1 = 0 ∧ (p_cross_S ((tpT S b)) ((tpT S f))).2.1 = 0 ∧ (p_cross_S ((tpT S b)) ((tpT S f))).2.2 = 0) ∧ ¬((p_cross_S ((tpT S e)) ((tpT S f))).1 = 0 ∧ (p_cross_S ((tpT S e)) ((tpT S f))).2.1 = 0 ∧ (p_cross_S ((tpT S e)) ((tpT S f))).2.2 = 0)) ∧ p_dot_S (p_cross_S (tpT S a) (tpT S b)) (tpT S e) = 0 ∧ p_dot_S (p_cross_S (tpT S a) (tpT S b)) (tpT S f) = 0 ∧ p_bra_S (tpT S a) (tpT S e) (p_cross_S (tpT S a) (tpT S b)) * p_bra_S (tpT S b) (tpT S f) (p_cross_S (tpT S a) (tpT S b)) + p_bra_S (tpT S a) (tpT S f) (p_cross_S (tpT S a) (tpT S b)) * p_bra_S (tpT S b) (tpT S e) (p_cross_S (tpT S a) (tpT S b)) = 0 then 1 else 0)) := by
  obtain ⟨d, rfl⟩ : ∃ d1, d = d1 + 1 := ⟨d - 1, by omega⟩
  refine WP.enter (cd := cd_X6_isSo) rfl ?_
  have G0 := Gr.refl ci
  have hls : largs 0 [aO (some (c + 10)), aI 14, aI a, aI b, aI e, aI f] = [(0, aO (some (c + 10))), (1, aI 14), (2, aI a), (3, aI b), (4, aI e), (5, aI f)] := rfl
  rw [hls]
  clear hls
  refine g_iload_n rfl rfl ?_
  refine g_tsw (t := 251) rfl (by rfl) ?_
  refine g_aload_n rfl rfl ?_
  refine g_iload_n rfl rfl ?_
  refine g_iload_n rfl rfl ?_
  refine g_iload rfl rfl ?_
  refine g_iload rfl rfl ?_
  refine g_callVI [aI a, aI b, aI e, aI f] [] rfl rfl rfl rfl (Nat.le_of_ble_eq_true rfl) (G0.cs.kd 10 (by omega) rfl) (o_harm (by omega) G0.ci xt ok a ha b hb e he f hf) ?_
  rintro _ h1 ⟨g1, rfl⟩
  have G1 := G0.trans g1
  refine g_zret rfl (by omega) ?_
  refine ⟨G1.mono (by omega), ?_⟩
  rfl
