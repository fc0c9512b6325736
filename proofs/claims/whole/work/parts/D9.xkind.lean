/-! the class's faces, their kinds one by one: printed by wip/whole/d9.py -/
theorem Gr.xn {h h1 : aH} {c n : Nat} (g : Gr h h1 c n) (ci : CI h c) {S : aS} (x : XN (hV h) c S) : XN (hV h1) c S := by
  have e : ∀ a, c + 1 < a → a < c + 67 → hV h1 a = hV h a := fun a q1 q2 => g.2.2.2.2.2.1 a (by have := ci.2.1; omega) (by omega) (Or.inr q2)
  refine ⟨by rw [e _ (by omega) (by omega)]; exact x.1, fun i hi => ?_⟩
  rw [e _ (by omega) (by omega), e _ (by omega) (by omega)]
  exact x.2 i hi
theorem OkN.b {S : aS} (ok : OkN S) {a : Int} (ha : 0 ≤ a ∧ a < sN S) : (-2 ^ 30 ≤ (sNu S a.toNat).1 ∧ (sNu S a.toNat).1 ≤ 2 ^ 30) ∧ (-2 ^ 30 ≤ (sNu S a.toNat).2 ∧ (sNu S a.toNat).2 ≤ 2 ^ 30) := by
  have h := ok.2 a.toNat (by omega)
  unfold NuOk at h
  omega
set_option maxHeartbeats 4000000 in
theorem f_pointAt {w : aW} {d : Nat} (hd : 4 ≤ d) {h : aH} {c : Nat} (ci : CI h c) {S : aS} (xt : XT h c S) (ok : OkT S) (xn : XN (hV h) c S) (okn : OkN S) (a : Int) (ha : 0 ≤ a ∧ a < sN S) (b : Int) (hb : 0 ≤ b ∧ b < sN S)  : WP w d 231 [aO (some c), aI a, aI b] h (RO (fun r h1 => ∃ p, r = some p ∧ Gr h h1 c 8 ∧ TB h1 c p (((sNu S a.toNat).1 * (sNu S b.toNat).2, (sNu S b.toNat).1 * (sNu S a.toNat).2, (sNu S a.toNat).2 * (sNu S b.toNat).2)) (60))) := by
  obtain ⟨d, rfl⟩ : ∃ d1, d = d1 + 1 := ⟨d - 1, by omega⟩
  refine WP.enter (cd := cd_X11_pointAt) rfl ?_
  have G0 := Gr.refl ci
  have hls : largs 0 [aO (some c), aI a, aI b] = [(0, aO (some c)), (1, aI a), (2, aI b)] := rfl
  rw [hls]
  clear hls
  refine g_aload_n rfl rfl ?_
  refine g_getR rfl (G0.cs.kd 0 (by omega) rfl) (G0.cs.rf 1 (by omega) rfl) ?_
  refine g_aload_n rfl rfl ?_
  refine g_getR rfl (G0.cs.kd 0 (by omega) rfl) (G0.cs.rf 4 (by omega) rfl) ?_
  refine g_iload_n rfl rfl ?_
  refine g_callVJ [aI a] [aO (some (c + 1))] rfl rfl rfl rfl (Nat.le_of_ble_eq_true rfl) (G0.cs.kd 3 (by omega) rfl) (x_downS (by omega) G0.cs (hV h) xn okn a ha) ?_
  rintro _ hx1 ⟨ehx1, rfl⟩
  rw [ehx1]
  clear ehx1 hx1
  refine g_hp (h2 := h) rfl ?_
  have bn1 := (okn.b ha).2
  refine g_callVO [aJ ((sNu S a.toNat).2)] [] rfl rfl rfl rfl (Nat.le_of_ble_eq_true rfl) (G0.cs.kd 1 (by omega) rfl) (s_of (by omega) G0.ci ((sNu S a.toNat).2) (by (unfold r64; omega)) 30 (by omega) (by omega)) ?_
  rintro _ h2 ⟨p2, rfl, g2, wp2⟩
  have G2 := G0.trans g2
  refine g_astore_n (l1 := [(3, aO (some p2)), (0, aO (some c)), (1, aI a), (2, aI b)]) rfl rfl ?_
  refine g_aload_n rfl rfl ?_
  refine g_getR rfl (G2.cs.kd 0 (by omega) rfl) (G2.cs.rf 1 (by omega) rfl) ?_
  refine g_aload_n rfl rfl ?_
  refine g_getR rfl (G2.cs.kd 0 (by omega) rfl) (G2.cs.rf 4 (by omega) rfl) ?_
  refine g_iload_n rfl rfl ?_
  refine g_callVJ [aI b] [aO (some (c + 1))] rfl rfl rfl rfl (Nat.le_of_ble_eq_true rfl) (G2.cs.kd 3 (by omega) rfl) (x_downS (by omega) G2.cs (hV h2) (g2.xn G0.ci xn) okn b hb) ?_
  rintro _ hx3 ⟨ehx3, rfl⟩
  rw [ehx3]
  clear ehx3 hx3
  refine g_hp (h2 := h2) rfl ?_
  have bn3 := (okn.b hb).2
  refine g_callVO [aJ ((sNu S b.toNat).2)] [] rfl rfl rfl rfl (Nat.le_of_ble_eq_true rfl) (G2.cs.kd 1 (by omega) rfl) (s_of (by omega) G2.ci ((sNu S b.toNat).2) (by (unfold r64; omega)) 30 (by omega) (by omega)) ?_
  rintro _ h4 ⟨p4, rfl, g4, wp4⟩
  have G4 := G2.trans g4
  refine g_astore (l1 := [(4, aO (some p4)), (3, aO (some p2)), (0, aO (some c)), (1, aI a), (2, aI b)]) rfl rfl ?_
  refine g_new rfl ?_
  obtain ⟨g5, ob5⟩ := Gr.mk (k := 19) (m := 3) G4.ci (by decide) (by decide)
  obtain ⟨t5, et5⟩ : ∃ t, t = hz h4 := ⟨_, rfl⟩
  obtain ⟨h5, eh5⟩ : ∃ hq9, hq9 = hnew h4 19 3 := ⟨_, rfl⟩
  rw [← eh5, ← et5] at ob5
  rw [← eh5] at g5
  refine g_hp (h2 := h5) eh5.symm ?_
  refine g_top (v2 := aO (some t5)) (by rw [et5]) ?_
  have G5 := G4.trans g5
  refine g_dup rfl rfl ?_
  refine g_aload_n rfl rfl ?_
  refine g_getR rfl (G5.cs.kd 0 (by omega) rfl) (G5.cs.rf 1 (by omega) rfl) ?_
  refine g_aload_n rfl rfl ?_
  refine g_getR rfl (G5.cs.kd 0 (by omega) rfl) (G5.cs.rf 1 (by omega) rfl) ?_
  refine g_aload_n rfl rfl ?_
  refine g_getR rfl (G5.cs.kd 0 (by omega) rfl) (G5.cs.rf 4 (by omega) rfl) ?_
  refine g_iload_n rfl rfl ?_
  refine g_callVJ [aI a] [aO (some (c + 1)), aO (some (c + 1)), aO (some t5), aO (some t5)] rfl rfl rfl rfl (Nat.le_of_ble_eq_true rfl) (G5.cs.kd 3 (by omega) rfl) (x_upS (by omega) G5.cs (hV h5) (g5.xn G4.ci (g4.xn G2.ci (g2.xn G0.ci xn))) okn a ha) ?_
  rintro _ hx6 ⟨ehx6, rfl⟩
  rw [ehx6]
  clear ehx6 hx6
  refine g_hp (h2 := h5) rfl ?_
  have bn6 := (okn.b ha).1
  refine g_callVO [aJ ((sNu S a.toNat).1)] [aO (some (c + 1)), aO (some t5), aO (some t5)] rfl rfl rfl rfl (Nat.le_of_ble_eq_true rfl) (G5.cs.kd 1 (by omega) rfl) (s_of (by omega) G5.ci ((sNu S a.toNat).1) (by (unfold r64; omega)) 30 (by omega) (by omega)) ?_
  rintro _ h7 ⟨p7, rfl, g7, wp7⟩
  have G7 := G5.trans g7
  refine g_aload rfl rfl ?_
  refine g_callVO [aO (some p7), aO (some p4)] [aO (some t5), aO (some t5)] rfl rfl rfl rfl (Nat.le_of_ble_eq_true rfl) (G7.cs.kd 1 (by omega) rfl) (s_times (by omega) G7.ci wp7 (g7.wb (g5.wb wp4)) (by omega)) ?_
  rintro _ h8 ⟨p8, rfl, g8, wp8⟩
  have G8 := G7.trans g8
  refine g_aload_n rfl rfl ?_
  refine g_getR rfl (G8.cs.kd 0 (by omega) rfl) (G8.cs.rf 1 (by omega) rfl) ?_
  refine g_aload_n rfl rfl ?_
  refine g_getR rfl (G8.cs.kd 0 (by omega) rfl) (G8.cs.rf 1 (by omega) rfl) ?_
  refine g_aload_n rfl rfl ?_
  refine g_getR rfl (G8.cs.kd 0 (by omega) rfl) (G8.cs.rf 4 (by omega) rfl) ?_
  refine g_iload_n rfl rfl ?_
  refine g_callVJ [aI b] [aO (some (c + 1)), aO (some (c + 1)), aO (some p8), aO (some t5), aO (some t5)] rfl rfl rfl rfl (Nat.le_of_ble_eq_true rfl) (G8.cs.kd 3 (by omega) rfl) (x_upS (by omega) G8.cs (hV h8) (g8.xn G7.ci (g7.xn G5.ci (g5.xn G4.ci (g4.xn G2.ci (g2.xn G0.ci xn))))) okn b hb) ?_
  rintro _ hx9 ⟨ehx9, rfl⟩
  rw [ehx9]
  clear ehx9 hx9
  refine g_hp (h2 := h8) rfl ?_
  have bn9 := (okn.b hb).1
  refine g_callVO [aJ ((sNu S b.toNat).1)] [aO (some (c + 1)), aO (some p8), aO (some t5), aO (some t5)] rfl rfl rfl rfl (Nat.le_of_ble_eq_true rfl) (G8.cs.kd 1 (by omega) rfl) (s_of (by omega) G8.ci ((sNu S b.toNat).1) (by (unfold r64; omega)) 30 (by omega) (by omega)) ?_
  rintro _ h10 ⟨p10, rfl, g10, wp10⟩
  have G10 := G8.trans g10
  refine g_aload_n rfl rfl ?_
  refine g_callVO [aO (some p10), aO (some p2)] [aO (some p8), aO (some t5), aO (some t5)] rfl rfl rfl rfl (Nat.le_of_ble_eq_true rfl) (G10.cs.kd 1 (by omega) rfl) (s_times (by omega) G10.ci wp10 (g10.wb (g8.wb (g7.wb (g5.wb (g4.wb wp2))))) (by omega)) ?_
  rintro _ h11 ⟨p11, rfl, g11, wp11⟩
  have G11 := G10.trans g11
  refine g_aload_n rfl rfl ?_
  refine g_getR rfl (G11.cs.kd 0 (by omega) rfl) (G11.cs.rf 1 (by omega) rfl) ?_
  refine g_aload_n rfl rfl ?_
  refine g_aload rfl rfl ?_
  refine g_callVO [aO (some p2), aO (some p4)] [aO (some p11), aO (some p8), aO (some t5), aO (some t5)] rfl rfl rfl rfl (Nat.le_of_ble_eq_true rfl) (G11.cs.kd 1 (by omega) rfl) (s_times (by omega) G11.ci (g11.wb (g10.wb (g8.wb (g7.wb (g5.wb (g4.wb wp2)))))) (g11.wb (g10.wb (g8.wb (g7.wb (g5.wb wp4))))) (by omega)) ?_
  rintro _ h12 ⟨p12, rfl, g12, wp12⟩
  have G12 := G11.trans g12
  refine g_callIN [aO (some p8), aO (some p11), aO (some p12)] [aO (some t5)] rfl (by decide) rfl rfl rfl (Nat.le_of_ble_eq_true rfl) (g12.ob (g11.ob (g10.ob (g8.ob (g7.ob ob5))))).2.2 (k_Triple (by omega) (g12.ob (g11.ob (g10.ob (g8.ob (g7.ob ob5))))).2.2 (g12.ob (g11.ob (g10.ob (g8.ob (g7.ob ob5))))).1 p8 p11 p12) ?_
  rintro _ rfl
  have c13 := ct3 (P := ((((sNu S a.toNat).1)) * (((sNu S b.toNat).2)), (((sNu S b.toNat).1)) * (((sNu S a.toNat).2)), (((sNu S a.toNat).2)) * (((sNu S b.toNat).2)))) (k := 60) G12 (g12.ob (g11.ob (g10.ob (g8.ob (g7.ob ob5))))) (by have := G4.2.1.1; omega) ((g12.wb (g11.wb (g10.wb wp8))).up (by omega)) ((g12.wb wp11).up (by omega)) (wp12.up (by omega))
  obtain ⟨h13, eh13⟩ : ∃ hq9, hq9 = pt3 h12 t5 p8 p11 p12 := ⟨_, rfl⟩
  refine g_hp (h2 := h13) (by rw [eh13]; rfl) ?_
  rw [← eh13] at c13
  have G13 := c13.1
  obtain ⟨q13x, q13y, q13w, f13, wq13x, wq13y, wq13w⟩ := c13.2.1
  refine g_aret rfl ?_
  refine ⟨t5, rfl, G13.mono (by omega), ?_⟩
  skip
  exact ⟨_, _, _, f13, (wq13x.up (by omega)), (wq13y.up (by omega)), (wq13w.up (by omega))⟩
set_option maxHeartbeats 4000000 in
theorem f_pt0 {w : aW} {d : Nat} (hd : 8 ≤ d) {h : aH} {c : Nat} (ci : CI h c) {S : aS} (xt : XT h c S) (ok : OkT S) (xn : XN (hV h) c S) (okn : OkN S) (a : Int) (ha : 0 ≤ a ∧ a < sN S) (b : Int) (hb : 0 ≤ b ∧ b < sN S)  : WP w d 228 [aO (some c), aI 0, aI a, aI b] h (RO (fun r h1 => Gr h h1 c 8 ∧ OT h1 c r (some ((sNu S a.toNat).1 * (sNu S b.toNat).2, (sNu S b.toNat).1 * (sNu S a.toNat).2, (sNu S a.toNat).2 * (sNu S b.toNat).2)) (60))) := by
  obtain ⟨d, rfl⟩ : ∃ d1, d = d1 + 1 := ⟨d - 1, by omega⟩
  refine WP.enter (cd := cd_X11_pointByStep) rfl ?_
  have G0 := Gr.refl ci
  have hls : largs 0 [aO (some c), aI 0, aI a, aI b] = [(0, aO (some c)), (1, aI 0), (2, aI a), (3, aI b)] := rfl
  rw [hls]
  clear hls
  refine g_iload_n rfl rfl ?_
  refine g_tsw (t := 80) rfl (by rfl) ?_
  refine g_aload_n rfl rfl ?_
  refine g_iload_n rfl rfl ?_
  refine g_iload_n rfl rfl ?_
  refine g_callVO [aI a, aI b] [] rfl rfl rfl rfl (Nat.le_of_ble_eq_true rfl) (G0.cs.kd 0 (by omega) rfl) (f_pointAt (by omega) G0.ci xt ok xn okn a ha b hb) ?_
  rintro _ h1 ⟨p1, rfl, g1, p1x, p1y, p1w, f1, wp1x, wp1y, wp1w⟩
  have G1 := G0.trans g1
  refine g_aret rfl ?_
  refine ⟨G1.mono (by omega), ?_⟩
  skip
  exact ⟨p1, rfl, _, _, _, f1, (wp1x.up (by omega)), (wp1y.up (by omega)), (wp1w.up (by omega))⟩
set_option maxHeartbeats 4000000 in
theorem f_pt2 {w : aW} {d : Nat} (hd : 8 ≤ d) {h : aH} {c : Nat} (ci : CI h c) {S : aS} (xt : XT h c S) (ok : OkT S) (xn : XN (hV h) c S) (okn : OkN S) (a : Int) (ha : 0 ≤ a ∧ a < sT S) (b : Int) (hb : 0 ≤ b ∧ b < sT S)  : WP w d 228 [aO (some c), aI 2, aI a, aI b] h (RO (fun r h1 => Gr h h1 c 15 ∧ OT h1 c r (p_common_O (tpT S a) (tpT S b)) (41))) := by
  obtain ⟨d, rfl⟩ : ∃ d1, d = d1 + 1 := ⟨d - 1, by omega⟩
  refine WP.enter (cd := cd_X11_pointByStep) rfl ?_
  have G0 := Gr.refl ci
  have hls : largs 0 [aO (some c), aI 2, aI a, aI b] = [(0, aO (some c)), (1, aI 2), (2, aI a), (3, aI b)] := rfl
  rw [hls]
  clear hls
  refine g_iload_n rfl rfl ?_
  refine g_tsw (t := 87) rfl (by rfl) ?_
  refine g_aload_n rfl rfl ?_
  refine g_getR rfl (G0.cs.kd 0 (by omega) rfl) (G0.cs.rf 6 (by omega) rfl) ?_
  refine g_aload_n rfl rfl ?_
  refine g_getR rfl (G0.cs.kd 0 (by omega) rfl) (G0.cs.rf 11 (by omega) rfl) ?_
  refine g_iload_n rfl rfl ?_
  refine g_callVO [aI a] [aO (some (c + 6))] rfl rfl rfl rfl (Nat.le_of_ble_eq_true rfl) (G0.cs.kd 7 (by omega) rfl) (t_triple (by omega) G0.ci xt ok a ha) ?_
  rintro _ h1 ⟨p1, rfl, g1, p1x, p1y, p1w, f1, wp1x, wp1y, wp1w⟩
  have G1 := G0.trans g1
  refine g_aload_n rfl rfl ?_
  refine g_getR rfl (G1.cs.kd 0 (by omega) rfl) (G1.cs.rf 11 (by omega) rfl) ?_
  refine g_iload_n rfl rfl ?_
  refine g_callVO [aI b] [aO (some p1), aO (some (c + 6))] rfl rfl rfl rfl (Nat.le_of_ble_eq_true rfl) (G1.cs.kd 7 (by omega) rfl) (t_triple (by omega) G1.ci (g1.xt G0.ci xt) ok b hb) ?_
  rintro _ h2 ⟨p2, rfl, g2, p2x, p2y, p2w, f2, wp2x, wp2y, wp2w⟩
  have G2 := G1.trans g2
  refine g_callVO [aO (some p1), aO (some p2)] [] rfl rfl rfl rfl (Nat.le_of_ble_eq_true rfl) (G2.cs.kd 6 (by omega) rfl) (p_common (by omega) G2.ci (show TB h2 c p1 (tpT S a) (20) from ⟨_, _, _, (g2.tf f1), ((g2.wb wp1x).up (by omega)), ((g2.wb wp1y).up (by omega)), ((g2.wb wp1w).up (by omega))⟩) (show TB h2 c p2 (tpT S b) (20) from ⟨_, _, _, f2, (wp2x.up (by omega)), (wp2y.up (by omega)), (wp2w.up (by omega))⟩) (by omega)) ?_
  rintro r3 h3 ⟨g3, q3⟩
  have G3 := G2.trans g3
  cases eS3 : p_common_O (tpT S a) (tpT S b) with
  | none =>
    rw [eS3] at q3
    obtain rfl : r3 = none := q3
    refine g_aret rfl ?_
    refine ⟨G3.mono (by omega), ?_⟩
    rfl
  | some P3 =>
    rw [eS3] at q3
    obtain ⟨p3, rfl, p3x, p3y, p3w, f3, wp3x, wp3y, wp3w⟩ := q3
    refine g_aret rfl ?_
    refine ⟨G3.mono (by omega), ?_⟩
    skip
    exact ⟨p3, rfl, _, _, _, f3, (wp3x.up (by omega)), (wp3y.up (by omega)), (wp3w.up (by omega))⟩
set_option maxHeartbeats 4000000 in
theorem f_pt3 {w : aW} {d : Nat} (hd : 8 ≤ d) {h : aH} {c : Nat} (ci : CI h c) {S : aS} (xt : XT h c S) (ok : OkT S) (xn : XN (hV h) c S) (okn : OkN S) (a : Int) (ha : 0 ≤ a ∧ a < sT S) (b : Int) (hb : 0 ≤ b ∧ b < sT S)  : WP w d 228 [aO (some c), aI 3, aI a, aI b] h (RO (fun r h1 => Gr h h1 c 13 ∧ OT h1 c r (p_middle_O (tpT S a) (tpT S b)) (41))) := by
  obtain ⟨d, rfl⟩ : ∃ d1, d = d1 + 1 := ⟨d - 1, by omega⟩
  refine WP.enter (cd := cd_X11_pointByStep) rfl ?_
  have G0 := Gr.refl ci
  have hls : largs 0 [aO (some c), aI 3, aI a, aI b] = [(0, aO (some c)), (1, aI 3), (2, aI a), (3, aI b)] := rfl
  rw [hls]
  clear hls
  refine g_iload_n rfl rfl ?_
  refine g_tsw (t := 111) rfl (by rfl) ?_
  refine g_aload_n rfl rfl ?_
  refine g_getR rfl (G0.cs.kd 0 (by omega) rfl) (G0.cs.rf 6 (by omega) rfl) ?_
  refine g_aload_n rfl rfl ?_
  refine g_getR rfl (G0.cs.kd 0 (by omega) rfl) (G0.cs.rf 11 (by omega) rfl) ?_
  refine g_iload_n rfl rfl ?_
  refine g_callVO [aI a] [aO (some (c + 6))] rfl rfl rfl rfl (Nat.le_of_ble_eq_true rfl) (G0.cs.kd 7 (by omega) rfl) (t_triple (by omega) G0.ci xt ok a ha) ?_
  rintro _ h1 ⟨p1, rfl, g1, p1x, p1y, p1w, f1, wp1x, wp1y, wp1w⟩
  have G1 := G0.trans g1
  refine g_aload_n rfl rfl ?_
  refine g_getR rfl (G1.cs.kd 0 (by omega) rfl) (G1.cs.rf 11 (by omega) rfl) ?_
  refine g_iload_n rfl rfl ?_
  refine g_callVO [aI b] [aO (some p1), aO (some (c + 6))] rfl rfl rfl rfl (Nat.le_of_ble_eq_true rfl) (G1.cs.kd 7 (by omega) rfl) (t_triple (by omega) G1.ci (g1.xt G0.ci xt) ok b hb) ?_
  rintro _ h2 ⟨p2, rfl, g2, p2x, p2y, p2w, f2, wp2x, wp2y, wp2w⟩
  have G2 := G1.trans g2
  refine g_callVO [aO (some p1), aO (some p2)] [] rfl rfl rfl rfl (Nat.le_of_ble_eq_true rfl) (G2.cs.kd 6 (by omega) rfl) (p_middle (by omega) G2.ci (show TB h2 c p1 (tpT S a) (20) from ⟨_, _, _, (g2.tf f1), ((g2.wb wp1x).up (by omega)), ((g2.wb wp1y).up (by omega)), ((g2.wb wp1w).up (by omega))⟩) (show TB h2 c p2 (tpT S b) (20) from ⟨_, _, _, f2, (wp2x.up (by omega)), (wp2y.up (by omega)), (wp2w.up (by omega))⟩) (by omega)) ?_
  rintro r3 h3 ⟨g3, q3⟩
  have G3 := G2.trans g3
  cases eS3 : p_middle_O (tpT S a) (tpT S b) with
  | none =>
    rw [eS3] at q3
    obtain rfl : r3 = none := q3
    refine g_aret rfl ?_
    refine ⟨G3.mono (by omega), ?_⟩
    rfl
  | some P3 =>
    rw [eS3] at q3
    obtain ⟨p3, rfl, p3x, p3y, p3w, f3, wp3x, wp3y, wp3w⟩ := q3
    refine g_aret rfl ?_
    refine ⟨G3.mono (by omega), ?_⟩
    skip
    exact ⟨p3, rfl, _, _, _, f3, (wp3x.up (by omega)), (wp3y.up (by omega)), (wp3w.up (by omega))⟩
set_option maxHeartbeats 4000000 in
theorem f_pt4 {w : aW} {d : Nat} (hd : 8 ≤ d) {h : aH} {c : Nat} (ci : CI h c) {S : aS} (xt : XT h c S) (ok : OkT S) (xn : XN (hV h) c S) (okn : OkN S) (a : Int) (ha : 0 ≤ a ∧ a < sT S) (b : Int) (hb : 0 ≤ b ∧ b < sT S)  : WP w d 228 [aO (some c), aI 4, aI a, aI b] h (RO (fun r h1 => Gr h h1 c 24 ∧ OT h1 c r (p_foot_O (tpT S a) (tpT S b)) (83))) := by
  obtain ⟨d, rfl⟩ : ∃ d1, d = d1 + 1 := ⟨d - 1, by omega⟩
  refine WP.enter (cd := cd_X11_pointByStep) rfl ?_
  have G0 := Gr.refl ci
  have hls : largs 0 [aO (some c), aI 4, aI a, aI b] = [(0, aO (some c)), (1, aI 4), (2, aI a), (3, aI b)] := rfl
  rw [hls]
  clear hls
  refine g_iload_n rfl rfl ?_
  refine g_tsw (t := 135) rfl (by rfl) ?_
  refine g_aload_n rfl rfl ?_
  refine g_getR rfl (G0.cs.kd 0 (by omega) rfl) (G0.cs.rf 6 (by omega) rfl) ?_
  refine g_aload_n rfl rfl ?_
  refine g_getR rfl (G0.cs.kd 0 (by omega) rfl) (G0.cs.rf 11 (by omega) rfl) ?_
  refine g_iload_n rfl rfl ?_
  refine g_callVO [aI a] [aO (some (c + 6))] rfl rfl rfl rfl (Nat.le_of_ble_eq_true rfl) (G0.cs.kd 7 (by omega) rfl) (t_triple (by omega) G0.ci xt ok a ha) ?_
  rintro _ h1 ⟨p1, rfl, g1, p1x, p1y, p1w, f1, wp1x, wp1y, wp1w⟩
  have G1 := G0.trans g1
  refine g_aload_n rfl rfl ?_
  refine g_getR rfl (G1.cs.kd 0 (by omega) rfl) (G1.cs.rf 11 (by omega) rfl) ?_
  refine g_iload_n rfl rfl ?_
  refine g_callVO [aI b] [aO (some p1), aO (some (c + 6))] rfl rfl rfl rfl (Nat.le_of_ble_eq_true rfl) (G1.cs.kd 7 (by omega) rfl) (t_triple (by omega) G1.ci (g1.xt G0.ci xt) ok b hb) ?_
  rintro _ h2 ⟨p2, rfl, g2, p2x, p2y, p2w, f2, wp2x, wp2y, wp2w⟩
  have G2 := G1.trans g2
  refine g_callVO [aO (some p1), aO (some p2)] [] rfl rfl rfl rfl (Nat.le_of_ble_eq_true rfl) (G2.cs.kd 6 (by omega) rfl) (p_foot (by omega) G2.ci (show TB h2 c p1 (tpT S a) (20) from ⟨_, _, _, (g2.tf f1), ((g2.wb wp1x).up (by omega)), ((g2.wb wp1y).up (by omega)), ((g2.wb wp1w).up (by omega))⟩) (show TB h2 c p2 (tpT S b) (20) from ⟨_, _, _, f2, (wp2x.up (by omega)), (wp2y.up (by omega)), (wp2w.up (by omega))⟩) (by omega)) ?_
  rintro r3 h3 ⟨g3, q3⟩
  have G3 := G2.trans g3
  cases eS3 : p_foot_O (tpT S a) (tpT S b) with
  | none =>
    rw [eS3] at q3
    obtain rfl : r3 = none := q3
    refine g_aret rfl ?_
    refine ⟨G3.mono (by omega), ?_⟩
    rfl
  | some P3 =>
    rw [eS3] at q3
    obtain ⟨p3, rfl, p3x, p3y, p3w, f3, wp3x, wp3y, wp3w⟩ := q3
    refine g_aret rfl ?_
    refine ⟨G3.mono (by omega), ?_⟩
    skip
    exact ⟨p3, rfl, _, _, _, f3, (wp3x.up (by omega)), (wp3y.up (by omega)), (wp3w.up (by omega))⟩
set_option maxHeartbeats 4000000 in
theorem f_pt7 {w : aW} {d : Nat} (hd : 8 ≤ d) {h : aH} {c : Nat} (ci : CI h c) {S : aS} (xt : XT h c S) (ok : OkT S) (xn : XN (hV h) c S) (okn : OkN S) (a : Int) (ha : 0 ≤ a ∧ a < sT S) (b : Int) (hb : 0 ≤ b ∧ b < sT S)  : WP w d 228 [aO (some c), aI 7, aI a, aI b] h (RO (fun r h1 => Gr h h1 c 31 ∧ OT h1 c r (p_mirr_O (tpT S a) (tpT S b)) (105))) := by
  obtain ⟨d, rfl⟩ : ∃ d1, d = d1 + 1 := ⟨d - 1, by omega⟩
  refine WP.enter (cd := cd_X11_pointByStep) rfl ?_
  have G0 := Gr.refl ci
  have hls : largs 0 [aO (some c), aI 7, aI a, aI b] = [(0, aO (some c)), (1, aI 7), (2, aI a), (3, aI b)] := rfl
  rw [hls]
  clear hls
  refine g_iload_n rfl rfl ?_
  refine g_tsw (t := 159) rfl (by rfl) ?_
  refine g_aload_n rfl rfl ?_
  refine g_getR rfl (G0.cs.kd 0 (by omega) rfl) (G0.cs.rf 6 (by omega) rfl) ?_
  refine g_aload_n rfl rfl ?_
  refine g_getR rfl (G0.cs.kd 0 (by omega) rfl) (G0.cs.rf 11 (by omega) rfl) ?_
  refine g_iload_n rfl rfl ?_
  refine g_callVO [aI a] [aO (some (c + 6))] rfl rfl rfl rfl (Nat.le_of_ble_eq_true rfl) (G0.cs.kd 7 (by omega) rfl) (t_triple (by omega) G0.ci xt ok a ha) ?_
  rintro _ h1 ⟨p1, rfl, g1, p1x, p1y, p1w, f1, wp1x, wp1y, wp1w⟩
  have G1 := G0.trans g1
  refine g_aload_n rfl rfl ?_
  refine g_getR rfl (G1.cs.kd 0 (by omega) rfl) (G1.cs.rf 11 (by omega) rfl) ?_
  refine g_iload_n rfl rfl ?_
  refine g_callVO [aI b] [aO (some p1), aO (some (c + 6))] rfl rfl rfl rfl (Nat.le_of_ble_eq_true rfl) (G1.cs.kd 7 (by omega) rfl) (t_triple (by omega) G1.ci (g1.xt G0.ci xt) ok b hb) ?_
  rintro _ h2 ⟨p2, rfl, g2, p2x, p2y, p2w, f2, wp2x, wp2y, wp2w⟩
  have G2 := G1.trans g2
  refine g_callVO [aO (some p1), aO (some p2)] [] rfl rfl rfl rfl (Nat.le_of_ble_eq_true rfl) (G2.cs.kd 6 (by omega) rfl) (p_mirr (by omega) G2.ci (show TB h2 c p1 (tpT S a) (20) from ⟨_, _, _, (g2.tf f1), ((g2.wb wp1x).up (by omega)), ((g2.wb wp1y).up (by omega)), ((g2.wb wp1w).up (by omega))⟩) (show TB h2 c p2 (tpT S b) (20) from ⟨_, _, _, f2, (wp2x.up (by omega)), (wp2y.up (by omega)), (wp2w.up (by omega))⟩) (by omega)) ?_
  rintro r3 h3 ⟨g3, q3⟩
  have G3 := G2.trans g3
  cases eS3 : p_mirr_O (tpT S a) (tpT S b) with
  | none =>
    rw [eS3] at q3
    obtain rfl : r3 = none := q3
    refine g_aret rfl ?_
    refine ⟨G3.mono (by omega), ?_⟩
    rfl
  | some P3 =>
    rw [eS3] at q3
    obtain ⟨p3, rfl, p3x, p3y, p3w, f3, wp3x, wp3y, wp3w⟩ := q3
    refine g_aret rfl ?_
    refine ⟨G3.mono (by omega), ?_⟩
    skip
    exact ⟨p3, rfl, _, _, _, f3, (wp3x.up (by omega)), (wp3y.up (by omega)), (wp3w.up (by omega))⟩
set_option maxHeartbeats 4000000 in
theorem f_pt8 {w : aW} {d : Nat} (hd : 8 ≤ d) {h : aH} {c : Nat} (ci : CI h c) {S : aS} (xt : XT h c S) (ok : OkT S) (xn : XN (hV h) c S) (okn : OkN S) (a : Int) (ha : 0 ≤ a ∧ a < sT S) (b : Int) (hb : 0 ≤ b ∧ b < sT S)  : WP w d 228 [aO (some c), aI 8, aI a, aI b] h (RO (fun r h1 => Gr h h1 c 42 ∧ OT h1 c r (p_inv_O (tpT S a) (tpR S b)) (87))) := by
  obtain ⟨d, rfl⟩ : ∃ d1, d = d1 + 1 := ⟨d - 1, by omega⟩
  refine WP.enter (cd := cd_X11_pointByStep) rfl ?_
  have G0 := Gr.refl ci
  have hls : largs 0 [aO (some c), aI 8, aI a, aI b] = [(0, aO (some c)), (1, aI 8), (2, aI a), (3, aI b)] := rfl
  rw [hls]
  clear hls
  refine g_iload_n rfl rfl ?_
  refine g_tsw (t := 183) rfl (by rfl) ?_
  refine g_aload_n rfl rfl ?_
  refine g_getR rfl (G0.cs.kd 0 (by omega) rfl) (G0.cs.rf 6 (by omega) rfl) ?_
  refine g_aload_n rfl rfl ?_
  refine g_getR rfl (G0.cs.kd 0 (by omega) rfl) (G0.cs.rf 11 (by omega) rfl) ?_
  refine g_iload_n rfl rfl ?_
  refine g_callVO [aI a] [aO (some (c + 6))] rfl rfl rfl rfl (Nat.le_of_ble_eq_true rfl) (G0.cs.kd 7 (by omega) rfl) (t_triple (by omega) G0.ci xt ok a ha) ?_
  rintro _ h1 ⟨p1, rfl, g1, p1x, p1y, p1w, f1, wp1x, wp1y, wp1w⟩
  have G1 := G0.trans g1
  refine g_aload_n rfl rfl ?_
  refine g_getR rfl (G1.cs.kd 0 (by omega) rfl) (G1.cs.rf 11 (by omega) rfl) ?_
  refine g_iload_n rfl rfl ?_
  refine g_callVO [aI b] [aO (some p1), aO (some (c + 6))] rfl rfl rfl rfl (Nat.le_of_ble_eq_true rfl) (G1.cs.kd 7 (by omega) rfl) (t_ring (by omega) G1.ci (g1.xt G0.ci xt) ok b hb) ?_
  rintro _ h2 ⟨p2, rfl, g2, p2k, p2a, p2b, p2e, f2, wp2k, wp2a, wp2b, wp2e⟩
  have G2 := G1.trans g2
  refine g_callVO [aO (some p1), aO (some p2)] [] rfl rfl rfl rfl (Nat.le_of_ble_eq_true rfl) (G2.cs.kd 6 (by omega) rfl) (p_inv (by omega) G2.ci (show TB h2 c p1 (tpT S a) (20) from ⟨_, _, _, (g2.tf f1), ((g2.wb wp1x).up (by omega)), ((g2.wb wp1y).up (by omega)), ((g2.wb wp1w).up (by omega))⟩) (show QB h2 c p2 (tpR S b) (20) from ⟨_, _, _, _, f2, (wp2k.up (by omega)), (wp2a.up (by omega)), (wp2b.up (by omega)), (wp2e.up (by omega))⟩)) ?_
  rintro r3 h3 ⟨g3, q3⟩
  have G3 := G2.trans g3
  cases eS3 : p_inv_O (tpT S a) (tpR S b) with
  | none =>
    rw [eS3] at q3
    obtain rfl : r3 = none := q3
    refine g_aret rfl ?_
    refine ⟨G3.mono (by omega), ?_⟩
    rfl
  | some P3 =>
    rw [eS3] at q3
    obtain ⟨p3, rfl, p3x, p3y, p3w, f3, wp3x, wp3y, wp3w⟩ := q3
    refine g_aret rfl ?_
    refine ⟨G3.mono (by omega), ?_⟩
    skip
    exact ⟨p3, rfl, _, _, _, f3, (wp3x.up (by omega)), (wp3y.up (by omega)), (wp3w.up (by omega))⟩
set_option maxHeartbeats 4000000 in
theorem f_pt10 {w : aW} {d : Nat} (hd : 8 ≤ d) {h : aH} {c : Nat} (ci : CI h c) {S : aS} (xt : XT h c S) (ok : OkT S) (xn : XN (hV h) c S) (okn : OkN S) (a : Int) (ha : 0 ≤ a ∧ a < sT S) (b : Int) (hb : 0 ≤ b ∧ b < sT S)  : WP w d 228 [aO (some c), aI 10, aI a, aI b] h (RO (fun r h1 => Gr h h1 c 25 ∧ OT h1 c r (some (p_pole_S (tpT S a) (tpR S b))) (64))) := by
  obtain ⟨d, rfl⟩ : ∃ d1, d = d1 + 1 := ⟨d - 1, by omega⟩
  refine WP.enter (cd := cd_X11_pointByStep) rfl ?_
  have G0 := Gr.refl ci
  have hls : largs 0 [aO (some c), aI 10, aI a, aI b] = [(0, aO (some c)), (1, aI 10), (2, aI a), (3, aI b)] := rfl
  rw [hls]
  clear hls
  refine g_iload_n rfl rfl ?_
  refine g_tsw (t := 207) rfl (by rfl) ?_
  refine g_aload_n rfl rfl ?_
  refine g_getR rfl (G0.cs.kd 0 (by omega) rfl) (G0.cs.rf 6 (by omega) rfl) ?_
  refine g_aload_n rfl rfl ?_
  refine g_getR rfl (G0.cs.kd 0 (by omega) rfl) (G0.cs.rf 11 (by omega) rfl) ?_
  refine g_iload_n rfl rfl ?_
  refine g_callVO [aI a] [aO (some (c + 6))] rfl rfl rfl rfl (Nat.le_of_ble_eq_true rfl) (G0.cs.kd 7 (by omega) rfl) (t_triple (by omega) G0.ci xt ok a ha) ?_
  rintro _ h1 ⟨p1, rfl, g1, p1x, p1y, p1w, f1, wp1x, wp1y, wp1w⟩
  have G1 := G0.trans g1
  refine g_aload_n rfl rfl ?_
  refine g_getR rfl (G1.cs.kd 0 (by omega) rfl) (G1.cs.rf 11 (by omega) rfl) ?_
  refine g_iload_n rfl rfl ?_
  refine g_callVO [aI b] [aO (some p1), aO (some (c + 6))] rfl rfl rfl rfl (Nat.le_of_ble_eq_true rfl) (G1.cs.kd 7 (by omega) rfl) (t_ring (by omega) G1.ci (g1.xt G0.ci xt) ok b hb) ?_
  rintro _ h2 ⟨p2, rfl, g2, p2k, p2a, p2b, p2e, f2, wp2k, wp2a, wp2b, wp2e⟩
  have G2 := G1.trans g2
  refine g_callVO [aO (some p1), aO (some p2)] [] rfl rfl rfl rfl (Nat.le_of_ble_eq_true rfl) (G2.cs.kd 6 (by omega) rfl) (p_pole (by omega) G2.ci (show TB h2 c p1 (tpT S a) (20) from ⟨_, _, _, (g2.tf f1), ((g2.wb wp1x).up (by omega)), ((g2.wb wp1y).up (by omega)), ((g2.wb wp1w).up (by omega))⟩) (show QB h2 c p2 (tpR S b) (20) from ⟨_, _, _, _, f2, (wp2k.up (by omega)), (wp2a.up (by omega)), (wp2b.up (by omega)), (wp2e.up (by omega))⟩)) ?_
  rintro _ h3 ⟨p3, rfl, g3, p3x, p3y, p3w, f3, wp3x, wp3y, wp3w⟩
  have G3 := G2.trans g3
  refine g_aret rfl ?_
  refine ⟨G3.mono (by omega), ?_⟩
  skip
  exact ⟨p3, rfl, _, _, _, f3, (wp3x.up (by omega)), (wp3y.up (by omega)), (wp3w.up (by omega))⟩
set_option maxHeartbeats 4000000 in
theorem f_pt14 {w : aW} {d : Nat} (hd : 8 ≤ d) {h : aH} {c : Nat} (ci : CI h c) {S : aS} (xt : XT h c S) (ok : OkT S) (xn : XN (hV h) c S) (okn : OkN S) (a : Int) (ha : 0 ≤ a ∧ a < sT S) (b : Int) (hb : 0 ≤ b ∧ b < sT S) (ht : hV h (c + 1) 1 ≤ 10) : WP w d 228 [aO (some c), aI 14, aI a, aI b] h (RO (fun r h1 => Gr h h1 c 41 ∧ OT h1 c r (p_cro_O false (tpT S a) (tpR S b)) (230))) := by
  obtain ⟨d, rfl⟩ : ∃ d1, d = d1 + 1 := ⟨d - 1, by omega⟩
  refine WP.enter (cd := cd_X11_pointByStep) rfl ?_
  have G0 := Gr.refl ci
  have hls : largs 0 [aO (some c), aI 14, aI a, aI b] = [(0, aO (some c)), (1, aI 14), (2, aI a), (3, aI b)] := rfl
  rw [hls]
  clear hls
  refine g_iload_n rfl rfl ?_
  refine g_tsw (t := 231) rfl (by rfl) ?_
  refine g_aload_n rfl rfl ?_
  refine g_getR rfl (G0.cs.kd 0 (by omega) rfl) (G0.cs.rf 6 (by omega) rfl) ?_
  refine g_aload_n rfl rfl ?_
  refine g_getR rfl (G0.cs.kd 0 (by omega) rfl) (G0.cs.rf 11 (by omega) rfl) ?_
  refine g_iload_n rfl rfl ?_
  refine g_callVO [aI a] [aO (some (c + 6))] rfl rfl rfl rfl (Nat.le_of_ble_eq_true rfl) (G0.cs.kd 7 (by omega) rfl) (t_triple (by omega) G0.ci xt ok a ha) ?_
  rintro _ h1 ⟨p1, rfl, g1, p1x, p1y, p1w, f1, wp1x, wp1y, wp1w⟩
  have G1 := G0.trans g1
  refine g_aload_n rfl rfl ?_
  refine g_getR rfl (G1.cs.kd 0 (by omega) rfl) (G1.cs.rf 11 (by omega) rfl) ?_
  refine g_iload_n rfl rfl ?_
  refine g_callVO [aI b] [aO (some p1), aO (some (c + 6))] rfl rfl rfl rfl (Nat.le_of_ble_eq_true rfl) (G1.cs.kd 7 (by omega) rfl) (t_ring (by omega) G1.ci (g1.xt G0.ci xt) ok b hb) ?_
  rintro _ h2 ⟨p2, rfl, g2, p2k, p2a, p2b, p2e, f2, wp2k, wp2a, wp2b, wp2e⟩
  have G2 := G1.trans g2
  refine g_iload_n rfl rfl ?_
  refine g_bipush rfl ?_
  refine g_icmp_ne_t rfl (by omega) ?_
  refine g_iconst rfl ?_
  refine g_callVO [aO (some p1), aO (some p2), aI 0] [] rfl rfl rfl rfl (Nat.le_of_ble_eq_true rfl) (G2.cs.kd 6 (by omega) rfl) (p_cro0 (by omega) G2.ci (show TB h2 c p1 (tpT S a) (20) from ⟨_, _, _, (g2.tf f1), ((g2.wb wp1x).up (by omega)), ((g2.wb wp1y).up (by omega)), ((g2.wb wp1w).up (by omega))⟩) (show QB h2 c p2 (tpR S b) (20) from ⟨_, _, _, _, f2, (wp2k.up (by omega)), (wp2a.up (by omega)), (wp2b.up (by omega)), (wp2e.up (by omega))⟩) (by have := G2.2.2.2.2.2.2.1; omega) (by omega)) ?_
  rintro r3 h3 ⟨g3, q3⟩
  have G3 := G2.trans g3
  cases eS3 : p_cro_O false (tpT S a) (tpR S b) with
  | none =>
    rw [eS3] at q3
    obtain rfl : r3 = none := q3
    refine g_aret rfl ?_
    refine ⟨G3.mono (by omega), ?_⟩
    rfl
  | some P3 =>
    rw [eS3] at q3
    obtain ⟨p3, rfl, p3x, p3y, p3w, f3, wp3x, wp3y, wp3w⟩ := q3
    refine g_aret rfl ?_
    refine ⟨G3.mono (by omega), ?_⟩
    skip
    exact ⟨p3, rfl, _, _, _, f3, (wp3x.up (by omega)), (wp3y.up (by omega)), (wp3w.up (by omega))⟩
set_option maxHeartbeats 4000000 in
theorem f_pt15 {w : aW} {d : Nat} (hd : 8 ≤ d) {h : aH} {c : Nat} (ci : CI h c) {S : aS} (xt : XT h c S) (ok : OkT S) (xn : XN (hV h) c S) (okn : OkN S) (a : Int) (ha : 0 ≤ a ∧ a < sT S) (b : Int) (hb : 0 ≤ b ∧ b < sT S) (ht : hV h (c + 1) 1 ≤ 10) : WP w d 228 [aO (some c), aI 15, aI a, aI b] h (RO (fun r h1 => Gr h h1 c 41 ∧ OT h1 c r (p_cro_O true (tpT S a) (tpR S b)) (230))) := by
  obtain ⟨d, rfl⟩ : ∃ d1, d = d1 + 1 := ⟨d - 1, by omega⟩
  refine WP.enter (cd := cd_X11_pointByStep) rfl ?_
  have G0 := Gr.refl ci
  have hls : largs 0 [aO (some c), aI 15, aI a, aI b] = [(0, aO (some c)), (1, aI 15), (2, aI a), (3, aI b)] := rfl
  rw [hls]
  clear hls
  refine g_iload_n rfl rfl ?_
  refine g_tsw (t := 231) rfl (by rfl) ?_
  refine g_aload_n rfl rfl ?_
  refine g_getR rfl (G0.cs.kd 0 (by omega) rfl) (G0.cs.rf 6 (by omega) rfl) ?_
  refine g_aload_n rfl rfl ?_
  refine g_getR rfl (G0.cs.kd 0 (by omega) rfl) (G0.cs.rf 11 (by omega) rfl) ?_
  refine g_iload_n rfl rfl ?_
  refine g_callVO [aI a] [aO (some (c + 6))] rfl rfl rfl rfl (Nat.le_of_ble_eq_true rfl) (G0.cs.kd 7 (by omega) rfl) (t_triple (by omega) G0.ci xt ok a ha) ?_
  rintro _ h1 ⟨p1, rfl, g1, p1x, p1y, p1w, f1, wp1x, wp1y, wp1w⟩
  have G1 := G0.trans g1
  refine g_aload_n rfl rfl ?_
  refine g_getR rfl (G1.cs.kd 0 (by omega) rfl) (G1.cs.rf 11 (by omega) rfl) ?_
  refine g_iload_n rfl rfl ?_
  refine g_callVO [aI b] [aO (some p1), aO (some (c + 6))] rfl rfl rfl rfl (Nat.le_of_ble_eq_true rfl) (G1.cs.kd 7 (by omega) rfl) (t_ring (by omega) G1.ci (g1.xt G0.ci xt) ok b hb) ?_
  rintro _ h2 ⟨p2, rfl, g2, p2k, p2a, p2b, p2e, f2, wp2k, wp2a, wp2b, wp2e⟩
  have G2 := G1.trans g2
  refine g_iload_n rfl rfl ?_
  refine g_bipush rfl ?_
  refine g_icmp_ne_f rfl (by omega) ?_
  refine g_iconst rfl ?_
  refine g_goto rfl ?_
  refine g_callVO [aO (some p1), aO (some p2), aI 1] [] rfl rfl rfl rfl (Nat.le_of_ble_eq_true rfl) (G2.cs.kd 6 (by omega) rfl) (p_cro1 (by omega) G2.ci (show TB h2 c p1 (tpT S a) (20) from ⟨_, _, _, (g2.tf f1), ((g2.wb wp1x).up (by omega)), ((g2.wb wp1y).up (by omega)), ((g2.wb wp1w).up (by omega))⟩) (show QB h2 c p2 (tpR S b) (20) from ⟨_, _, _, _, f2, (wp2k.up (by omega)), (wp2a.up (by omega)), (wp2b.up (by omega)), (wp2e.up (by omega))⟩) (by have := G2.2.2.2.2.2.2.1; omega) (by omega)) ?_
  rintro r3 h3 ⟨g3, q3⟩
  have G3 := G2.trans g3
  cases eS3 : p_cro_O true (tpT S a) (tpR S b) with
  | none =>
    rw [eS3] at q3
    obtain rfl : r3 = none := q3
    refine g_aret rfl ?_
    refine ⟨G3.mono (by omega), ?_⟩
    rfl
  | some P3 =>
    rw [eS3] at q3
    obtain ⟨p3, rfl, p3x, p3y, p3w, f3, wp3x, wp3y, wp3w⟩ := q3
    refine g_aret rfl ?_
    refine ⟨G3.mono (by omega), ?_⟩
    skip
    exact ⟨p3, rfl, _, _, _, f3, (wp3x.up (by omega)), (wp3y.up (by omega)), (wp3w.up (by omega))⟩
set_option maxHeartbeats 4000000 in
theorem f_pt16 {w : aW} {d : Nat} (hd : 8 ≤ d) {h : aH} {c : Nat} (ci : CI h c) {S : aS} (xt : XT h c S) (ok : OkT S) (xn : XN (hV h) c S) (okn : OkN S) (a : Int) (ha : 0 ≤ a ∧ a < sT S) (b : Int) (hb : 0 ≤ b ∧ b < sT S) (ht : hV h (c + 1) 1 ≤ 10) : WP w d 228 [aO (some c), aI 16, aI a, aI b] h (RO (fun r h1 => Gr h h1 c 49 ∧ OT h1 c r (p_rc_O false (tpR S a) (tpR S b)) (272))) := by
  obtain ⟨d, rfl⟩ : ∃ d1, d = d1 + 1 := ⟨d - 1, by omega⟩
  refine WP.enter (cd := cd_X11_pointByStep) rfl ?_
  have G0 := Gr.refl ci
  have hls : largs 0 [aO (some c), aI 16, aI a, aI b] = [(0, aO (some c)), (1, aI 16), (2, aI a), (3, aI b)] := rfl
  rw [hls]
  clear hls
  refine g_iload_n rfl rfl ?_
  refine g_tsw (t := 266) rfl (by rfl) ?_
  refine g_aload_n rfl rfl ?_
  refine g_getR rfl (G0.cs.kd 0 (by omega) rfl) (G0.cs.rf 6 (by omega) rfl) ?_
  refine g_aload_n rfl rfl ?_
  refine g_getR rfl (G0.cs.kd 0 (by omega) rfl) (G0.cs.rf 11 (by omega) rfl) ?_
  refine g_iload_n rfl rfl ?_
  refine g_callVO [aI a] [aO (some (c + 6))] rfl rfl rfl rfl (Nat.le_of_ble_eq_true rfl) (G0.cs.kd 7 (by omega) rfl) (t_ring (by omega) G0.ci xt ok a ha) ?_
  rintro _ h1 ⟨p1, rfl, g1, p1k, p1a, p1b, p1e, f1, wp1k, wp1a, wp1b, wp1e⟩
  have G1 := G0.trans g1
  refine g_aload_n rfl rfl ?_
  refine g_getR rfl (G1.cs.kd 0 (by omega) rfl) (G1.cs.rf 11 (by omega) rfl) ?_
  refine g_iload_n rfl rfl ?_
  refine g_callVO [aI b] [aO (some p1), aO (some (c + 6))] rfl rfl rfl rfl (Nat.le_of_ble_eq_true rfl) (G1.cs.kd 7 (by omega) rfl) (t_ring (by omega) G1.ci (g1.xt G0.ci xt) ok b hb) ?_
  rintro _ h2 ⟨p2, rfl, g2, p2k, p2a, p2b, p2e, f2, wp2k, wp2a, wp2b, wp2e⟩
  have G2 := G1.trans g2
  refine g_iload_n rfl rfl ?_
  refine g_bipush rfl ?_
  refine g_icmp_ne_t rfl (by omega) ?_
  refine g_iconst rfl ?_
  refine g_callVO [aO (some p1), aO (some p2), aI 0] [] rfl rfl rfl rfl (Nat.le_of_ble_eq_true rfl) (G2.cs.kd 6 (by omega) rfl) (p_rc0 (by omega) G2.ci (show QB h2 c p1 (tpR S a) (20) from ⟨_, _, _, _, (g2.rf f1), ((g2.wb wp1k).up (by omega)), ((g2.wb wp1a).up (by omega)), ((g2.wb wp1b).up (by omega)), ((g2.wb wp1e).up (by omega))⟩) (show QB h2 c p2 (tpR S b) (20) from ⟨_, _, _, _, f2, (wp2k.up (by omega)), (wp2a.up (by omega)), (wp2b.up (by omega)), (wp2e.up (by omega))⟩) (by have := G2.2.2.2.2.2.2.1; omega)) ?_
  rintro r3 h3 ⟨g3, q3⟩
  have G3 := G2.trans g3
  cases eS3 : p_rc_O false (tpR S a) (tpR S b) with
  | none =>
    rw [eS3] at q3
    obtain rfl : r3 = none := q3
    refine g_aret rfl ?_
    refine ⟨G3.mono (by omega), ?_⟩
    rfl
  | some P3 =>
    rw [eS3] at q3
    obtain ⟨p3, rfl, p3x, p3y, p3w, f3, wp3x, wp3y, wp3w⟩ := q3
    refine g_aret rfl ?_
    refine ⟨G3.mono (by omega), ?_⟩
    skip
    exact ⟨p3, rfl, _, _, _, f3, (wp3x.up (by omega)), (wp3y.up (by omega)), (wp3w.up (by omega))⟩
set_option maxHeartbeats 4000000 in
theorem f_pt17 {w : aW} {d : Nat} (hd : 8 ≤ d) {h : aH} {c : Nat} (ci : CI h c) {S : aS} (xt : XT h c S) (ok : OkT S) (xn : XN (hV h) c S) (okn : OkN S) (a : Int) (ha : 0 ≤ a ∧ a < sT S) (b : Int) (hb : 0 ≤ b ∧ b < sT S) (ht : hV h (c + 1) 1 ≤ 10) : WP w d 228 [aO (some c), aI 17, aI a, aI b] h (RO (fun r h1 => Gr h h1 c 49 ∧ OT h1 c r (p_rc_O true (tpR S a) (tpR S b)) (272))) := by
  obtain ⟨d, rfl⟩ : ∃ d1, d = d1 + 1 := ⟨d - 1, by omega⟩
  refine WP.enter (cd := cd_X11_pointByStep) rfl ?_
  have G0 := Gr.refl ci
  have hls : largs 0 [aO (some c), aI 17, aI a, aI b] = [(0, aO (some c)), (1, aI 17), (2, aI a), (3, aI b)] := rfl
  rw [hls]
  clear hls
  refine g_iload_n rfl rfl ?_
  refine g_tsw (t := 266) rfl (by rfl) ?_
  refine g_aload_n rfl rfl ?_
  refine g_getR rfl (G0.cs.kd 0 (by omega) rfl) (G0.cs.rf 6 (by omega) rfl) ?_
  refine g_aload_n rfl rfl ?_
  refine g_getR rfl (G0.cs.kd 0 (by omega) rfl) (G0.cs.rf 11 (by omega) rfl) ?_
  refine g_iload_n rfl rfl ?_
  refine g_callVO [aI a] [aO (some (c + 6))] rfl rfl rfl rfl (Nat.le_of_ble_eq_true rfl) (G0.cs.kd 7 (by omega) rfl) (t_ring (by omega) G0.ci xt ok a ha) ?_
  rintro _ h1 ⟨p1, rfl, g1, p1k, p1a, p1b, p1e, f1, wp1k, wp1a, wp1b, wp1e⟩
  have G1 := G0.trans g1
  refine g_aload_n rfl rfl ?_
  refine g_getR rfl (G1.cs.kd 0 (by omega) rfl) (G1.cs.rf 11 (by omega) rfl) ?_
  refine g_iload_n rfl rfl ?_
  refine g_callVO [aI b] [aO (some p1), aO (some (c + 6))] rfl rfl rfl rfl (Nat.le_of_ble_eq_true rfl) (G1.cs.kd 7 (by omega) rfl) (t_ring (by omega) G1.ci (g1.xt G0.ci xt) ok b hb) ?_
  rintro _ h2 ⟨p2, rfl, g2, p2k, p2a, p2b, p2e, f2, wp2k, wp2a, wp2b, wp2e⟩
  have G2 := G1.trans g2
  refine g_iload_n rfl rfl ?_
  refine g_bipush rfl ?_
  refine g_icmp_ne_f rfl (by omega) ?_
  refine g_iconst rfl ?_
  refine g_goto rfl ?_
  refine g_callVO [aO (some p1), aO (some p2), aI 1] [] rfl rfl rfl rfl (Nat.le_of_ble_eq_true rfl) (G2.cs.kd 6 (by omega) rfl) (p_rc1 (by omega) G2.ci (show QB h2 c p1 (tpR S a) (20) from ⟨_, _, _, _, (g2.rf f1), ((g2.wb wp1k).up (by omega)), ((g2.wb wp1a).up (by omega)), ((g2.wb wp1b).up (by omega)), ((g2.wb wp1e).up (by omega))⟩) (show QB h2 c p2 (tpR S b) (20) from ⟨_, _, _, _, f2, (wp2k.up (by omega)), (wp2a.up (by omega)), (wp2b.up (by omega)), (wp2e.up (by omega))⟩) (by have := G2.2.2.2.2.2.2.1; omega)) ?_
  rintro r3 h3 ⟨g3, q3⟩
  have G3 := G2.trans g3
  cases eS3 : p_rc_O true (tpR S a) (tpR S b) with
  | none =>
    rw [eS3] at q3
    obtain rfl : r3 = none := q3
    refine g_aret rfl ?_
    refine ⟨G3.mono (by omega), ?_⟩
    rfl
  | some P3 =>
    rw [eS3] at q3
    obtain ⟨p3, rfl, p3x, p3y, p3w, f3, wp3x, wp3y, wp3w⟩ := q3
    refine g_aret rfl ?_
    refine ⟨G3.mono (by omega), ?_⟩
    skip
    exact ⟨p3, rfl, _, _, _, f3, (wp3x.up (by omega)), (wp3y.up (by omega)), (wp3w.up (by omega))⟩
set_option maxHeartbeats 4000000 in
theorem f_ln1 {w : aW} {d : Nat} (hd : 8 ≤ d) {h : aH} {c : Nat} (ci : CI h c) {S : aS} (xt : XT h c S) (ok : OkT S) (xn : XN (hV h) c S) (okn : OkN S) (a : Int) (ha : 0 ≤ a ∧ a < sT S) (b : Int) (hb : 0 ≤ b ∧ b < sT S)  : WP w d 229 [aO (some c), aI 1, aI a, aI b] h (RO (fun r h1 => Gr h h1 c 15 ∧ OT h1 c r (p_common_O (tpT S a) (tpT S b)) (41))) := by
  obtain ⟨d, rfl⟩ : ∃ d1, d = d1 + 1 := ⟨d - 1, by omega⟩
  refine WP.enter (cd := cd_X11_lineByStep) rfl ?_
  have G0 := Gr.refl ci
  have hls : largs 0 [aO (some c), aI 1, aI a, aI b] = [(0, aO (some c)), (1, aI 1), (2, aI a), (3, aI b)] := rfl
  rw [hls]
  clear hls
  refine g_iload_n rfl rfl ?_
  refine g_tsw (t := 60) rfl (by rfl) ?_
  refine g_aload_n rfl rfl ?_
  refine g_getR rfl (G0.cs.kd 0 (by omega) rfl) (G0.cs.rf 6 (by omega) rfl) ?_
  refine g_aload_n rfl rfl ?_
  refine g_getR rfl (G0.cs.kd 0 (by omega) rfl) (G0.cs.rf 11 (by omega) rfl) ?_
  refine g_iload_n rfl rfl ?_
  refine g_callVO [aI a] [aO (some (c + 6))] rfl rfl rfl rfl (Nat.le_of_ble_eq_true rfl) (G0.cs.kd 7 (by omega) rfl) (t_triple (by omega) G0.ci xt ok a ha) ?_
  rintro _ h1 ⟨p1, rfl, g1, p1x, p1y, p1w, f1, wp1x, wp1y, wp1w⟩
  have G1 := G0.trans g1
  refine g_aload_n rfl rfl ?_
  refine g_getR rfl (G1.cs.kd 0 (by omega) rfl) (G1.cs.rf 11 (by omega) rfl) ?_
  refine g_iload_n rfl rfl ?_
  refine g_callVO [aI b] [aO (some p1), aO (some (c + 6))] rfl rfl rfl rfl (Nat.le_of_ble_eq_true rfl) (G1.cs.kd 7 (by omega) rfl) (t_triple (by omega) G1.ci (g1.xt G0.ci xt) ok b hb) ?_
  rintro _ h2 ⟨p2, rfl, g2, p2x, p2y, p2w, f2, wp2x, wp2y, wp2w⟩
  have G2 := G1.trans g2
  refine g_callVO [aO (some p1), aO (some p2)] [] rfl rfl rfl rfl (Nat.le_of_ble_eq_true rfl) (G2.cs.kd 6 (by omega) rfl) (p_common (by omega) G2.ci (show TB h2 c p1 (tpT S a) (20) from ⟨_, _, _, (g2.tf f1), ((g2.wb wp1x).up (by omega)), ((g2.wb wp1y).up (by omega)), ((g2.wb wp1w).up (by omega))⟩) (show TB h2 c p2 (tpT S b) (20) from ⟨_, _, _, f2, (wp2x.up (by omega)), (wp2y.up (by omega)), (wp2w.up (by omega))⟩) (by omega)) ?_
  rintro r3 h3 ⟨g3, q3⟩
  have G3 := G2.trans g3
  cases eS3 : p_common_O (tpT S a) (tpT S b) with
  | none =>
    rw [eS3] at q3
    obtain rfl : r3 = none := q3
    refine g_aret rfl ?_
    refine ⟨G3.mono (by omega), ?_⟩
    rfl
  | some P3 =>
    rw [eS3] at q3
    obtain ⟨p3, rfl, p3x, p3y, p3w, f3, wp3x, wp3y, wp3w⟩ := q3
    refine g_aret rfl ?_
    refine ⟨G3.mono (by omega), ?_⟩
    skip
    exact ⟨p3, rfl, _, _, _, f3, (wp3x.up (by omega)), (wp3y.up (by omega)), (wp3w.up (by omega))⟩
set_option maxHeartbeats 4000000 in
theorem f_ln5 {w : aW} {d : Nat} (hd : 8 ≤ d) {h : aH} {c : Nat} (ci : CI h c) {S : aS} (xt : XT h c S) (ok : OkT S) (xn : XN (hV h) c S) (okn : OkN S) (a : Int) (ha : 0 ≤ a ∧ a < sT S) (b : Int) (hb : 0 ≤ b ∧ b < sT S)  : WP w d 229 [aO (some c), aI 5, aI a, aI b] h (RO (fun r h1 => Gr h h1 c 18 ∧ OT h1 c r (p_along_O (tpT S a) (tpT S b)) (41))) := by
  obtain ⟨d, rfl⟩ : ∃ d1, d = d1 + 1 := ⟨d - 1, by omega⟩
  refine WP.enter (cd := cd_X11_lineByStep) rfl ?_
  have G0 := Gr.refl ci
  have hls : largs 0 [aO (some c), aI 5, aI a, aI b] = [(0, aO (some c)), (1, aI 5), (2, aI a), (3, aI b)] := rfl
  rw [hls]
  clear hls
  refine g_iload_n rfl rfl ?_
  refine g_tsw (t := 84) rfl (by rfl) ?_
  refine g_aload_n rfl rfl ?_
  refine g_getR rfl (G0.cs.kd 0 (by omega) rfl) (G0.cs.rf 6 (by omega) rfl) ?_
  refine g_aload_n rfl rfl ?_
  refine g_getR rfl (G0.cs.kd 0 (by omega) rfl) (G0.cs.rf 11 (by omega) rfl) ?_
  refine g_iload_n rfl rfl ?_
  refine g_callVO [aI a] [aO (some (c + 6))] rfl rfl rfl rfl (Nat.le_of_ble_eq_true rfl) (G0.cs.kd 7 (by omega) rfl) (t_triple (by omega) G0.ci xt ok a ha) ?_
  rintro _ h1 ⟨p1, rfl, g1, p1x, p1y, p1w, f1, wp1x, wp1y, wp1w⟩
  have G1 := G0.trans g1
  refine g_aload_n rfl rfl ?_
  refine g_getR rfl (G1.cs.kd 0 (by omega) rfl) (G1.cs.rf 11 (by omega) rfl) ?_
  refine g_iload_n rfl rfl ?_
  refine g_callVO [aI b] [aO (some p1), aO (some (c + 6))] rfl rfl rfl rfl (Nat.le_of_ble_eq_true rfl) (G1.cs.kd 7 (by omega) rfl) (t_triple (by omega) G1.ci (g1.xt G0.ci xt) ok b hb) ?_
  rintro _ h2 ⟨p2, rfl, g2, p2x, p2y, p2w, f2, wp2x, wp2y, wp2w⟩
  have G2 := G1.trans g2
  refine g_callVO [aO (some p1), aO (some p2)] [] rfl rfl rfl rfl (Nat.le_of_ble_eq_true rfl) (G2.cs.kd 6 (by omega) rfl) (p_along (by omega) G2.ci (show TB h2 c p1 (tpT S a) (20) from ⟨_, _, _, (g2.tf f1), ((g2.wb wp1x).up (by omega)), ((g2.wb wp1y).up (by omega)), ((g2.wb wp1w).up (by omega))⟩) (show TB h2 c p2 (tpT S b) (20) from ⟨_, _, _, f2, (wp2x.up (by omega)), (wp2y.up (by omega)), (wp2w.up (by omega))⟩) (by omega)) ?_
  rintro r3 h3 ⟨g3, q3⟩
  have G3 := G2.trans g3
  cases eS3 : p_along_O (tpT S a) (tpT S b) with
  | none =>
    rw [eS3] at q3
    obtain rfl : r3 = none := q3
    refine g_aret rfl ?_
    refine ⟨G3.mono (by omega), ?_⟩
    rfl
  | some P3 =>
    rw [eS3] at q3
    obtain ⟨p3, rfl, p3x, p3y, p3w, f3, wp3x, wp3y, wp3w⟩ := q3
    refine g_aret rfl ?_
    refine ⟨G3.mono (by omega), ?_⟩
    skip
    exact ⟨p3, rfl, _, _, _, f3, (wp3x.up (by omega)), (wp3y.up (by omega)), (wp3w.up (by omega))⟩
set_option maxHeartbeats 4000000 in
theorem f_ln6 {w : aW} {d : Nat} (hd : 8 ≤ d) {h : aH} {c : Nat} (ci : CI h c) {S : aS} (xt : XT h c S) (ok : OkT S) (xn : XN (hV h) c S) (okn : OkN S) (a : Int) (ha : 0 ≤ a ∧ a < sT S) (b : Int) (hb : 0 ≤ b ∧ b < sT S)  : WP w d 229 [aO (some c), aI 6, aI a, aI b] h (RO (fun r h1 => Gr h h1 c 17 ∧ OT h1 c r (p_across_O (tpT S a) (tpT S b)) (41))) := by
  obtain ⟨d, rfl⟩ : ∃ d1, d = d1 + 1 := ⟨d - 1, by omega⟩
  refine WP.enter (cd := cd_X11_lineByStep) rfl ?_
  have G0 := Gr.refl ci
  have hls : largs 0 [aO (some c), aI 6, aI a, aI b] = [(0, aO (some c)), (1, aI 6), (2, aI a), (3, aI b)] := rfl
  rw [hls]
  clear hls
  refine g_iload_n rfl rfl ?_
  refine g_tsw (t := 108) rfl (by rfl) ?_
  refine g_aload_n rfl rfl ?_
  refine g_getR rfl (G0.cs.kd 0 (by omega) rfl) (G0.cs.rf 6 (by omega) rfl) ?_
  refine g_aload_n rfl rfl ?_
  refine g_getR rfl (G0.cs.kd 0 (by omega) rfl) (G0.cs.rf 11 (by omega) rfl) ?_
  refine g_iload_n rfl rfl ?_
  refine g_callVO [aI a] [aO (some (c + 6))] rfl rfl rfl rfl (Nat.le_of_ble_eq_true rfl) (G0.cs.kd 7 (by omega) rfl) (t_triple (by omega) G0.ci xt ok a ha) ?_
  rintro _ h1 ⟨p1, rfl, g1, p1x, p1y, p1w, f1, wp1x, wp1y, wp1w⟩
  have G1 := G0.trans g1
  refine g_aload_n rfl rfl ?_
  refine g_getR rfl (G1.cs.kd 0 (by omega) rfl) (G1.cs.rf 11 (by omega) rfl) ?_
  refine g_iload_n rfl rfl ?_
  refine g_callVO [aI b] [aO (some p1), aO (some (c + 6))] rfl rfl rfl rfl (Nat.le_of_ble_eq_true rfl) (G1.cs.kd 7 (by omega) rfl) (t_triple (by omega) G1.ci (g1.xt G0.ci xt) ok b hb) ?_
  rintro _ h2 ⟨p2, rfl, g2, p2x, p2y, p2w, f2, wp2x, wp2y, wp2w⟩
  have G2 := G1.trans g2
  refine g_callVO [aO (some p1), aO (some p2)] [] rfl rfl rfl rfl (Nat.le_of_ble_eq_true rfl) (G2.cs.kd 6 (by omega) rfl) (p_across (by omega) G2.ci (show TB h2 c p1 (tpT S a) (20) from ⟨_, _, _, (g2.tf f1), ((g2.wb wp1x).up (by omega)), ((g2.wb wp1y).up (by omega)), ((g2.wb wp1w).up (by omega))⟩) (show TB h2 c p2 (tpT S b) (20) from ⟨_, _, _, f2, (wp2x.up (by omega)), (wp2y.up (by omega)), (wp2w.up (by omega))⟩) (by omega)) ?_
  rintro r3 h3 ⟨g3, q3⟩
  have G3 := G2.trans g3
  cases eS3 : p_across_O (tpT S a) (tpT S b) with
  | none =>
    rw [eS3] at q3
    obtain rfl : r3 = none := q3
    refine g_aret rfl ?_
    refine ⟨G3.mono (by omega), ?_⟩
    rfl
  | some P3 =>
    rw [eS3] at q3
    obtain ⟨p3, rfl, p3x, p3y, p3w, f3, wp3x, wp3y, wp3w⟩ := q3
    refine g_aret rfl ?_
    refine ⟨G3.mono (by omega), ?_⟩
    skip
    exact ⟨p3, rfl, _, _, _, f3, (wp3x.up (by omega)), (wp3y.up (by omega)), (wp3w.up (by omega))⟩
set_option maxHeartbeats 4000000 in
theorem f_ln9 {w : aW} {d : Nat} (hd : 8 ≤ d) {h : aH} {c : Nat} (ci : CI h c) {S : aS} (xt : XT h c S) (ok : OkT S) (xn : XN (hV h) c S) (okn : OkN S) (a : Int) (ha : 0 ≤ a ∧ a < sT S) (b : Int) (hb : 0 ≤ b ∧ b < sT S)  : WP w d 229 [aO (some c), aI 9, aI a, aI b] h (RO (fun r h1 => Gr h h1 c 17 ∧ OT h1 c r (some (p_polar_S (tpT S a) (tpR S b))) (42))) := by
  obtain ⟨d, rfl⟩ : ∃ d1, d = d1 + 1 := ⟨d - 1, by omega⟩
  refine WP.enter (cd := cd_X11_lineByStep) rfl ?_
  have G0 := Gr.refl ci
  have hls : largs 0 [aO (some c), aI 9, aI a, aI b] = [(0, aO (some c)), (1, aI 9), (2, aI a), (3, aI b)] := rfl
  rw [hls]
  clear hls
  refine g_iload_n rfl rfl ?_
  refine g_tsw (t := 132) rfl (by rfl) ?_
  refine g_aload_n rfl rfl ?_
  refine g_getR rfl (G0.cs.kd 0 (by omega) rfl) (G0.cs.rf 6 (by omega) rfl) ?_
  refine g_aload_n rfl rfl ?_
  refine g_getR rfl (G0.cs.kd 0 (by omega) rfl) (G0.cs.rf 11 (by omega) rfl) ?_
  refine g_iload_n rfl rfl ?_
  refine g_callVO [aI a] [aO (some (c + 6))] rfl rfl rfl rfl (Nat.le_of_ble_eq_true rfl) (G0.cs.kd 7 (by omega) rfl) (t_triple (by omega) G0.ci xt ok a ha) ?_
  rintro _ h1 ⟨p1, rfl, g1, p1x, p1y, p1w, f1, wp1x, wp1y, wp1w⟩
  have G1 := G0.trans g1
  refine g_aload_n rfl rfl ?_
  refine g_getR rfl (G1.cs.kd 0 (by omega) rfl) (G1.cs.rf 11 (by omega) rfl) ?_
  refine g_iload_n rfl rfl ?_
  refine g_callVO [aI b] [aO (some p1), aO (some (c + 6))] rfl rfl rfl rfl (Nat.le_of_ble_eq_true rfl) (G1.cs.kd 7 (by omega) rfl) (t_ring (by omega) G1.ci (g1.xt G0.ci xt) ok b hb) ?_
  rintro _ h2 ⟨p2, rfl, g2, p2k, p2a, p2b, p2e, f2, wp2k, wp2a, wp2b, wp2e⟩
  have G2 := G1.trans g2
  refine g_callVO [aO (some p1), aO (some p2)] [] rfl rfl rfl rfl (Nat.le_of_ble_eq_true rfl) (G2.cs.kd 6 (by omega) rfl) (p_polar (by omega) G2.ci (show TB h2 c p1 (tpT S a) (20) from ⟨_, _, _, (g2.tf f1), ((g2.wb wp1x).up (by omega)), ((g2.wb wp1y).up (by omega)), ((g2.wb wp1w).up (by omega))⟩) (show QB h2 c p2 (tpR S b) (20) from ⟨_, _, _, _, f2, (wp2k.up (by omega)), (wp2a.up (by omega)), (wp2b.up (by omega)), (wp2e.up (by omega))⟩) (by omega)) ?_
  rintro _ h3 ⟨p3, rfl, g3, p3x, p3y, p3w, f3, wp3x, wp3y, wp3w⟩
  have G3 := G2.trans g3
  refine g_aret rfl ?_
  refine ⟨G3.mono (by omega), ?_⟩
  skip
  exact ⟨p3, rfl, _, _, _, f3, (wp3x.up (by omega)), (wp3y.up (by omega)), (wp3w.up (by omega))⟩
set_option maxHeartbeats 4000000 in
theorem f_ln11 {w : aW} {d : Nat} (hd : 8 ≤ d) {h : aH} {c : Nat} (ci : CI h c) {S : aS} (xt : XT h c S) (ok : OkT S) (xn : XN (hV h) c S) (okn : OkN S) (a : Int) (ha : 0 ≤ a ∧ a < sT S) (b : Int) (hb : 0 ≤ b ∧ b < sT S)  : WP w d 229 [aO (some c), aI 11, aI a, aI b] h (RO (fun r h1 => Gr h h1 c 17 ∧ OT h1 c r (p_power_O (tpR S a) (tpR S b)) (41))) := by
  obtain ⟨d, rfl⟩ : ∃ d1, d = d1 + 1 := ⟨d - 1, by omega⟩
  refine WP.enter (cd := cd_X11_lineByStep) rfl ?_
  have G0 := Gr.refl ci
  have hls : largs 0 [aO (some c), aI 11, aI a, aI b] = [(0, aO (some c)), (1, aI 11), (2, aI a), (3, aI b)] := rfl
  rw [hls]
  clear hls
  refine g_iload_n rfl rfl ?_
  refine g_tsw (t := 156) rfl (by rfl) ?_
  refine g_aload_n rfl rfl ?_
  refine g_getR rfl (G0.cs.kd 0 (by omega) rfl) (G0.cs.rf 6 (by omega) rfl) ?_
  refine g_aload_n rfl rfl ?_
  refine g_getR rfl (G0.cs.kd 0 (by omega) rfl) (G0.cs.rf 11 (by omega) rfl) ?_
  refine g_iload_n rfl rfl ?_
  refine g_callVO [aI a] [aO (some (c + 6))] rfl rfl rfl rfl (Nat.le_of_ble_eq_true rfl) (G0.cs.kd 7 (by omega) rfl) (t_ring (by omega) G0.ci xt ok a ha) ?_
  rintro _ h1 ⟨p1, rfl, g1, p1k, p1a, p1b, p1e, f1, wp1k, wp1a, wp1b, wp1e⟩
  have G1 := G0.trans g1
  refine g_aload_n rfl rfl ?_
  refine g_getR rfl (G1.cs.kd 0 (by omega) rfl) (G1.cs.rf 11 (by omega) rfl) ?_
  refine g_iload_n rfl rfl ?_
  refine g_callVO [aI b] [aO (some p1), aO (some (c + 6))] rfl rfl rfl rfl (Nat.le_of_ble_eq_true rfl) (G1.cs.kd 7 (by omega) rfl) (t_ring (by omega) G1.ci (g1.xt G0.ci xt) ok b hb) ?_
  rintro _ h2 ⟨p2, rfl, g2, p2k, p2a, p2b, p2e, f2, wp2k, wp2a, wp2b, wp2e⟩
  have G2 := G1.trans g2
  refine g_callVO [aO (some p1), aO (some p2)] [] rfl rfl rfl rfl (Nat.le_of_ble_eq_true rfl) (G2.cs.kd 6 (by omega) rfl) (p_power (by omega) G2.ci (show QB h2 c p1 (tpR S a) (20) from ⟨_, _, _, _, (g2.rf f1), ((g2.wb wp1k).up (by omega)), ((g2.wb wp1a).up (by omega)), ((g2.wb wp1b).up (by omega)), ((g2.wb wp1e).up (by omega))⟩) (show QB h2 c p2 (tpR S b) (20) from ⟨_, _, _, _, f2, (wp2k.up (by omega)), (wp2a.up (by omega)), (wp2b.up (by omega)), (wp2e.up (by omega))⟩)) ?_
  rintro r3 h3 ⟨g3, q3⟩
  have G3 := G2.trans g3
  cases eS3 : p_power_O (tpR S a) (tpR S b) with
  | none =>
    rw [eS3] at q3
    obtain rfl : r3 = none := q3
    refine g_aret rfl ?_
    refine ⟨G3.mono (by omega), ?_⟩
    rfl
  | some P3 =>
    rw [eS3] at q3
    obtain ⟨p3, rfl, p3x, p3y, p3w, f3, wp3x, wp3y, wp3w⟩ := q3
    refine g_aret rfl ?_
    refine ⟨G3.mono (by omega), ?_⟩
    skip
    exact ⟨p3, rfl, _, _, _, f3, (wp3x.up (by omega)), (wp3y.up (by omega)), (wp3w.up (by omega))⟩
set_option maxHeartbeats 4000000 in
theorem f_ln18 {w : aW} {d : Nat} (hd : 8 ≤ d) {h : aH} {c : Nat} (ci : CI h c) {S : aS} (xt : XT h c S) (ok : OkT S) (xn : XN (hV h) c S) (okn : OkN S) (a : Int) (ha : 0 ≤ a ∧ a < sT S) (b : Int) (hb : 0 ≤ b ∧ b < sT S) (ht : hV h (c + 1) 1 ≤ 10) : WP w d 229 [aO (some c), aI 18, aI a, aI b] h (RO (fun r h1 => Gr h h1 c 133 ∧ OT h1 c r (p_tan_O false (tpT S a) (tpR S b)) (296))) := by
  obtain ⟨d, rfl⟩ : ∃ d1, d = d1 + 1 := ⟨d - 1, by omega⟩
  refine WP.enter (cd := cd_X11_lineByStep) rfl ?_
  have G0 := Gr.refl ci
  have hls : largs 0 [aO (some c), aI 18, aI a, aI b] = [(0, aO (some c)), (1, aI 18), (2, aI a), (3, aI b)] := rfl
  rw [hls]
  clear hls
  refine g_iload_n rfl rfl ?_
  refine g_tsw (t := 180) rfl (by rfl) ?_
  refine g_aload_n rfl rfl ?_
  refine g_getR rfl (G0.cs.kd 0 (by omega) rfl) (G0.cs.rf 6 (by omega) rfl) ?_
  refine g_aload_n rfl rfl ?_
  refine g_getR rfl (G0.cs.kd 0 (by omega) rfl) (G0.cs.rf 11 (by omega) rfl) ?_
  refine g_iload_n rfl rfl ?_
  refine g_callVO [aI a] [aO (some (c + 6))] rfl rfl rfl rfl (Nat.le_of_ble_eq_true rfl) (G0.cs.kd 7 (by omega) rfl) (t_triple (by omega) G0.ci xt ok a ha) ?_
  rintro _ h1 ⟨p1, rfl, g1, p1x, p1y, p1w, f1, wp1x, wp1y, wp1w⟩
  have G1 := G0.trans g1
  refine g_aload_n rfl rfl ?_
  refine g_getR rfl (G1.cs.kd 0 (by omega) rfl) (G1.cs.rf 11 (by omega) rfl) ?_
  refine g_iload_n rfl rfl ?_
  refine g_callVO [aI b] [aO (some p1), aO (some (c + 6))] rfl rfl rfl rfl (Nat.le_of_ble_eq_true rfl) (G1.cs.kd 7 (by omega) rfl) (t_ring (by omega) G1.ci (g1.xt G0.ci xt) ok b hb) ?_
  rintro _ h2 ⟨p2, rfl, g2, p2k, p2a, p2b, p2e, f2, wp2k, wp2a, wp2b, wp2e⟩
  have G2 := G1.trans g2
  refine g_iload_n rfl rfl ?_
  refine g_bipush rfl ?_
  refine g_icmp_ne_t rfl (by omega) ?_
  refine g_iconst rfl ?_
  refine g_callVO [aO (some p1), aO (some p2), aI 0] [] rfl rfl rfl rfl (Nat.le_of_ble_eq_true rfl) (G2.cs.kd 6 (by omega) rfl) (p_tan0 (by omega) G2.ci (show TB h2 c p1 (tpT S a) (20) from ⟨_, _, _, (g2.tf f1), ((g2.wb wp1x).up (by omega)), ((g2.wb wp1y).up (by omega)), ((g2.wb wp1w).up (by omega))⟩) (show QB h2 c p2 (tpR S b) (20) from ⟨_, _, _, _, f2, (wp2k.up (by omega)), (wp2a.up (by omega)), (wp2b.up (by omega)), (wp2e.up (by omega))⟩) (by have := G2.2.2.2.2.2.2.1; omega)) ?_
  rintro r3 h3 ⟨g3, q3⟩
  have G3 := G2.trans g3
  cases eS3 : p_tan_O false (tpT S a) (tpR S b) with
  | none =>
    rw [eS3] at q3
    obtain rfl : r3 = none := q3
    refine g_aret rfl ?_
    refine ⟨G3.mono (by omega), ?_⟩
    rfl
  | some P3 =>
    rw [eS3] at q3
    obtain ⟨p3, rfl, p3x, p3y, p3w, f3, wp3x, wp3y, wp3w⟩ := q3
    refine g_aret rfl ?_
    refine ⟨G3.mono (by omega), ?_⟩
    skip
    exact ⟨p3, rfl, _, _, _, f3, (wp3x.up (by omega)), (wp3y.up (by omega)), (wp3w.up (by omega))⟩
set_option maxHeartbeats 4000000 in
theorem f_ln19 {w : aW} {d : Nat} (hd : 8 ≤ d) {h : aH} {c : Nat} (ci : CI h c) {S : aS} (xt : XT h c S) (ok : OkT S) (xn : XN (hV h) c S) (okn : OkN S) (a : Int) (ha : 0 ≤ a ∧ a < sT S) (b : Int) (hb : 0 ≤ b ∧ b < sT S) (ht : hV h (c + 1) 1 ≤ 10) : WP w d 229 [aO (some c), aI 19, aI a, aI b] h (RO (fun r h1 => Gr h h1 c 133 ∧ OT h1 c r (p_tan_O true (tpT S a) (tpR S b)) (296))) := by
  obtain ⟨d, rfl⟩ : ∃ d1, d = d1 + 1 := ⟨d - 1, by omega⟩
  refine WP.enter (cd := cd_X11_lineByStep) rfl ?_
  have G0 := Gr.refl ci
  have hls : largs 0 [aO (some c), aI 19, aI a, aI b] = [(0, aO (some c)), (1, aI 19), (2, aI a), (3, aI b)] := rfl
  rw [hls]
  clear hls
  refine g_iload_n rfl rfl ?_
  refine g_tsw (t := 180) rfl (by rfl) ?_
  refine g_aload_n rfl rfl ?_
  refine g_getR rfl (G0.cs.kd 0 (by omega) rfl) (G0.cs.rf 6 (by omega) rfl) ?_
  refine g_aload_n rfl rfl ?_
  refine g_getR rfl (G0.cs.kd 0 (by omega) rfl) (G0.cs.rf 11 (by omega) rfl) ?_
  refine g_iload_n rfl rfl ?_
  refine g_callVO [aI a] [aO (some (c + 6))] rfl rfl rfl rfl (Nat.le_of_ble_eq_true rfl) (G0.cs.kd 7 (by omega) rfl) (t_triple (by omega) G0.ci xt ok a ha) ?_
  rintro _ h1 ⟨p1, rfl, g1, p1x, p1y, p1w, f1, wp1x, wp1y, wp1w⟩
  have G1 := G0.trans g1
  refine g_aload_n rfl rfl ?_
  refine g_getR rfl (G1.cs.kd 0 (by omega) rfl) (G1.cs.rf 11 (by omega) rfl) ?_
  refine g_iload_n rfl rfl ?_
  refine g_callVO [aI b] [aO (some p1), aO (some (c + 6))] rfl rfl rfl rfl (Nat.le_of_ble_eq_true rfl) (G1.cs.kd 7 (by omega) rfl) (t_ring (by omega) G1.ci (g1.xt G0.ci xt) ok b hb) ?_
  rintro _ h2 ⟨p2, rfl, g2, p2k, p2a, p2b, p2e, f2, wp2k, wp2a, wp2b, wp2e⟩
  have G2 := G1.trans g2
  refine g_iload_n rfl rfl ?_
  refine g_bipush rfl ?_
  refine g_icmp_ne_f rfl (by omega) ?_
  refine g_iconst rfl ?_
  refine g_goto rfl ?_
  refine g_callVO [aO (some p1), aO (some p2), aI 1] [] rfl rfl rfl rfl (Nat.le_of_ble_eq_true rfl) (G2.cs.kd 6 (by omega) rfl) (p_tan1 (by omega) G2.ci (show TB h2 c p1 (tpT S a) (20) from ⟨_, _, _, (g2.tf f1), ((g2.wb wp1x).up (by omega)), ((g2.wb wp1y).up (by omega)), ((g2.wb wp1w).up (by omega))⟩) (show QB h2 c p2 (tpR S b) (20) from ⟨_, _, _, _, f2, (wp2k.up (by omega)), (wp2a.up (by omega)), (wp2b.up (by omega)), (wp2e.up (by omega))⟩) (by have := G2.2.2.2.2.2.2.1; omega)) ?_
  rintro r3 h3 ⟨g3, q3⟩
  have G3 := G2.trans g3
  cases eS3 : p_tan_O true (tpT S a) (tpR S b) with
  | none =>
    rw [eS3] at q3
    obtain rfl : r3 = none := q3
    refine g_aret rfl ?_
    refine ⟨G3.mono (by omega), ?_⟩
    rfl
  | some P3 =>
    rw [eS3] at q3
    obtain ⟨p3, rfl, p3x, p3y, p3w, f3, wp3x, wp3y, wp3w⟩ := q3
    refine g_aret rfl ?_
    refine ⟨G3.mono (by omega), ?_⟩
    skip
    exact ⟨p3, rfl, _, _, _, f3, (wp3x.up (by omega)), (wp3y.up (by omega)), (wp3w.up (by omega))⟩
set_option maxHeartbeats 4000000 in
theorem f_rg12 {w : aW} {d : Nat} (hd : 7 ≤ d) {h : aH} {c : Nat} (ci : CI h c) {S : aS} (xt : XT h c S) (ok : OkT S) (xn : XN (hV h) c S) (okn : OkN S) (a : Int) (ha : 0 ≤ a ∧ a < sT S) (b : Int) (hb : 0 ≤ b ∧ b < sT S)  : WP w d 230 [aO (some c), aI 12, aI a, aI b] h (RO (fun r h1 => Gr h h1 c 29 ∧ OQ h1 c r (p_around_O (tpT S a) (tpT S b)) (63))) := by
  obtain ⟨d, rfl⟩ : ∃ d1, d = d1 + 1 := ⟨d - 1, by omega⟩
  refine WP.enter (cd := cd_X11_ringByStep) rfl ?_
  have G0 := Gr.refl ci
  have hls : largs 0 [aO (some c), aI 12, aI a, aI b] = [(0, aO (some c)), (1, aI 12), (2, aI a), (3, aI b)] := rfl
  rw [hls]
  clear hls
  refine g_aload_n rfl rfl ?_
  refine g_getR rfl (G0.cs.kd 0 (by omega) rfl) (G0.cs.rf 11 (by omega) rfl) ?_
  refine g_iload_n rfl rfl ?_
  refine g_callVO [aI a] [] rfl rfl rfl rfl (Nat.le_of_ble_eq_true rfl) (G0.cs.kd 7 (by omega) rfl) (t_triple (by omega) G0.ci xt ok a ha) ?_
  rintro _ h1 ⟨p1, rfl, g1, p1x, p1y, p1w, f1, wp1x, wp1y, wp1w⟩
  have G1 := G0.trans g1
  refine g_astore (l1 := [(4, aO (some p1)), (0, aO (some c)), (1, aI 12), (2, aI a), (3, aI b)]) rfl rfl ?_
  refine g_aload_n rfl rfl ?_
  refine g_getR rfl (G1.cs.kd 0 (by omega) rfl) (G1.cs.rf 11 (by omega) rfl) ?_
  refine g_iload_n rfl rfl ?_
  refine g_callVO [aI b] [] rfl rfl rfl rfl (Nat.le_of_ble_eq_true rfl) (G1.cs.kd 7 (by omega) rfl) (t_triple (by omega) G1.ci (g1.xt G0.ci xt) ok b hb) ?_
  rintro _ h2 ⟨p2, rfl, g2, p2x, p2y, p2w, f2, wp2x, wp2y, wp2w⟩
  have G2 := G1.trans g2
  refine g_astore (l1 := [(5, aO (some p2)), (4, aO (some p1)), (0, aO (some c)), (1, aI 12), (2, aI a), (3, aI b)]) rfl rfl ?_
  refine g_iload_n rfl rfl ?_
  refine g_bipush rfl ?_
  refine g_icmp_ne_f rfl (by omega) ?_
  refine g_aload_n rfl rfl ?_
  refine g_getR rfl (G2.cs.kd 0 (by omega) rfl) (G2.cs.rf 6 (by omega) rfl) ?_
  refine g_aload rfl rfl ?_
  refine g_aload rfl rfl ?_
  refine g_callVO [aO (some p1), aO (some p2)] [] rfl rfl rfl rfl (Nat.le_of_ble_eq_true rfl) (G2.cs.kd 6 (by omega) rfl) (p_around (by omega) G2.ci (show TB h2 c p1 (tpT S a) (20) from ⟨_, _, _, (g2.tf f1), ((g2.wb wp1x).up (by omega)), ((g2.wb wp1y).up (by omega)), ((g2.wb wp1w).up (by omega))⟩) (show TB h2 c p2 (tpT S b) (20) from ⟨_, _, _, f2, (wp2x.up (by omega)), (wp2y.up (by omega)), (wp2w.up (by omega))⟩)) ?_
  rintro r3 h3 ⟨g3, q3⟩
  have G3 := G2.trans g3
  cases eS3 : p_around_O (tpT S a) (tpT S b) with
  | none =>
    rw [eS3] at q3
    obtain rfl : r3 = none := q3
    refine g_goto rfl ?_
    refine g_aret rfl ?_
    refine ⟨G3.mono (by omega), ?_⟩
    rfl
  | some P3 =>
    rw [eS3] at q3
    obtain ⟨p3, rfl, p3k, p3a, p3b, p3e, f3, wp3k, wp3a, wp3b, wp3e⟩ := q3
    refine g_goto rfl ?_
    refine g_aret rfl ?_
    refine ⟨G3.mono (by omega), ?_⟩
    skip
    exact ⟨p3, rfl, _, _, _, _, f3, (wp3k.up (by omega)), (wp3a.up (by omega)), (wp3b.up (by omega)), (wp3e.up (by omega))⟩
set_option maxHeartbeats 4000000 in
theorem f_rg13 {w : aW} {d : Nat} (hd : 7 ≤ d) {h : aH} {c : Nat} (ci : CI h c) {S : aS} (xt : XT h c S) (ok : OkT S) (xn : XN (hV h) c S) (okn : OkN S) (a : Int) (ha : 0 ≤ a ∧ a < sT S) (b : Int) (hb : 0 ≤ b ∧ b < sT S)  : WP w d 230 [aO (some c), aI 13, aI a, aI b] h (RO (fun r h1 => Gr h h1 c 22 ∧ OQ h1 c r (p_over_O (tpT S a) (tpT S b)) (41))) := by
  obtain ⟨d, rfl⟩ : ∃ d1, d = d1 + 1 := ⟨d - 1, by omega⟩
  refine WP.enter (cd := cd_X11_ringByStep) rfl ?_
  have G0 := Gr.refl ci
  have hls : largs 0 [aO (some c), aI 13, aI a, aI b] = [(0, aO (some c)), (1, aI 13), (2, aI a), (3, aI b)] := rfl
  rw [hls]
  clear hls
  refine g_aload_n rfl rfl ?_
  refine g_getR rfl (G0.cs.kd 0 (by omega) rfl) (G0.cs.rf 11 (by omega) rfl) ?_
  refine g_iload_n rfl rfl ?_
  refine g_callVO [aI a] [] rfl rfl rfl rfl (Nat.le_of_ble_eq_true rfl) (G0.cs.kd 7 (by omega) rfl) (t_triple (by omega) G0.ci xt ok a ha) ?_
  rintro _ h1 ⟨p1, rfl, g1, p1x, p1y, p1w, f1, wp1x, wp1y, wp1w⟩
  have G1 := G0.trans g1
  refine g_astore (l1 := [(4, aO (some p1)), (0, aO (some c)), (1, aI 13), (2, aI a), (3, aI b)]) rfl rfl ?_
  refine g_aload_n rfl rfl ?_
  refine g_getR rfl (G1.cs.kd 0 (by omega) rfl) (G1.cs.rf 11 (by omega) rfl) ?_
  refine g_iload_n rfl rfl ?_
  refine g_callVO [aI b] [] rfl rfl rfl rfl (Nat.le_of_ble_eq_true rfl) (G1.cs.kd 7 (by omega) rfl) (t_triple (by omega) G1.ci (g1.xt G0.ci xt) ok b hb) ?_
  rintro _ h2 ⟨p2, rfl, g2, p2x, p2y, p2w, f2, wp2x, wp2y, wp2w⟩
  have G2 := G1.trans g2
  refine g_astore (l1 := [(5, aO (some p2)), (4, aO (some p1)), (0, aO (some c)), (1, aI 13), (2, aI a), (3, aI b)]) rfl rfl ?_
  refine g_iload_n rfl rfl ?_
  refine g_bipush rfl ?_
  refine g_icmp_ne_t rfl (by omega) ?_
  refine g_aload_n rfl rfl ?_
  refine g_getR rfl (G2.cs.kd 0 (by omega) rfl) (G2.cs.rf 6 (by omega) rfl) ?_
  refine g_aload rfl rfl ?_
  refine g_aload rfl rfl ?_
  refine g_callVO [aO (some p1), aO (some p2)] [] rfl rfl rfl rfl (Nat.le_of_ble_eq_true rfl) (G2.cs.kd 6 (by omega) rfl) (p_over (by omega) G2.ci (show TB h2 c p1 (tpT S a) (20) from ⟨_, _, _, (g2.tf f1), ((g2.wb wp1x).up (by omega)), ((g2.wb wp1y).up (by omega)), ((g2.wb wp1w).up (by omega))⟩) (show TB h2 c p2 (tpT S b) (20) from ⟨_, _, _, f2, (wp2x.up (by omega)), (wp2y.up (by omega)), (wp2w.up (by omega))⟩)) ?_
  rintro r3 h3 ⟨g3, q3⟩
  have G3 := G2.trans g3
  cases eS3 : p_over_O (tpT S a) (tpT S b) with
  | none =>
    rw [eS3] at q3
    obtain rfl : r3 = none := q3
    refine g_aret rfl ?_
    refine ⟨G3.mono (by omega), ?_⟩
    rfl
  | some P3 =>
    rw [eS3] at q3
    obtain ⟨p3, rfl, p3k, p3a, p3b, p3e, f3, wp3k, wp3a, wp3b, wp3e⟩ := q3
    refine g_aret rfl ?_
    refine ⟨G3.mono (by omega), ?_⟩
    skip
    exact ⟨p3, rfl, _, _, _, _, f3, (wp3k.up (by omega)), (wp3a.up (by omega)), (wp3b.up (by omega)), (wp3e.up (by omega))⟩
def p_cen_O (P Q R : T3) : Option T3 := match p_thr_O P Q R with
  | none => none
  | some U => some (p_midR_S U)
def p_nine_O (P Q R : T3) : Option T4 := match p_middle_O P Q with
  | none => none
  | some A => match p_middle_O Q R with
    | none => none
    | some B => match p_middle_O R P with
      | none => none
      | some C => p_thr_O A B C
set_option maxHeartbeats 4000000 in
theorem f_pth1 {w : aW} {d : Nat} (hd : 7 ≤ d) {h : aH} {c : Nat} (ci : CI h c) {S : aS} (xt : XT h c S) (ok : OkT S) (xn : XN (hV h) c S) (okn : OkN S) (a : Int) (ha : 0 ≤ a ∧ a < sT S) (b : Int) (hb : 0 ≤ b ∧ b < sT S) (e : Int) (he : 0 ≤ e ∧ e < sT S)  : WP w d 232 [aO (some c), aI 1, aI a, aI b, aI e] h (RO (fun r h1 => Gr h h1 c 23 ∧ OT h1 c r (p_mid3_O (tpT S a) (tpT S b) (tpT S e)) (62))) := by
  obtain ⟨d, rfl⟩ : ∃ d1, d = d1 + 1 := ⟨d - 1, by omega⟩
  refine WP.enter (cd := cd_X11_pointByThree) rfl ?_
  have G0 := Gr.refl ci
  have hls : largs 0 [aO (some c), aI 1, aI a, aI b, aI e] = [(0, aO (some c)), (1, aI 1), (2, aI a), (3, aI b), (4, aI e)] := rfl
  rw [hls]
  clear hls
  refine g_aload_n rfl rfl ?_
  refine g_getR rfl (G0.cs.kd 0 (by omega) rfl) (G0.cs.rf 11 (by omega) rfl) ?_
  refine g_iload_n rfl rfl ?_
  refine g_callVO [aI a] [] rfl rfl rfl rfl (Nat.le_of_ble_eq_true rfl) (G0.cs.kd 7 (by omega) rfl) (t_triple (by omega) G0.ci xt ok a ha) ?_
  rintro _ h1 ⟨p1, rfl, g1, p1x, p1y, p1w, f1, wp1x, wp1y, wp1w⟩
  have G1 := G0.trans g1
  refine g_astore (l1 := [(5, aO (some p1)), (0, aO (some c)), (1, aI 1), (2, aI a), (3, aI b), (4, aI e)]) rfl rfl ?_
  refine g_aload_n rfl rfl ?_
  refine g_getR rfl (G1.cs.kd 0 (by omega) rfl) (G1.cs.rf 11 (by omega) rfl) ?_
  refine g_iload rfl rfl ?_
  refine g_callVO [aI e] [] rfl rfl rfl rfl (Nat.le_of_ble_eq_true rfl) (G1.cs.kd 7 (by omega) rfl) (t_triple (by omega) G1.ci (g1.xt G0.ci xt) ok e he) ?_
  rintro _ h2 ⟨p2, rfl, g2, p2x, p2y, p2w, f2, wp2x, wp2y, wp2w⟩
  have G2 := G1.trans g2
  refine g_astore (l1 := [(6, aO (some p2)), (5, aO (some p1)), (0, aO (some c)), (1, aI 1), (2, aI a), (3, aI b), (4, aI e)]) rfl rfl ?_
  refine g_iload_n rfl rfl ?_
  refine g_bipush rfl ?_
  refine g_icmp_ne_t rfl (by omega) ?_
  refine g_iload_n rfl rfl ?_
  refine g_bipush rfl ?_
  refine g_icmp_ne_t rfl (by omega) ?_
  refine g_aload_n rfl rfl ?_
  refine g_getR rfl (G2.cs.kd 0 (by omega) rfl) (G2.cs.rf 11 (by omega) rfl) ?_
  refine g_iload_n rfl rfl ?_
  refine g_callVO [aI b] [] rfl rfl rfl rfl (Nat.le_of_ble_eq_true rfl) (G2.cs.kd 7 (by omega) rfl) (t_triple (by omega) G2.ci (g2.xt G1.ci (g1.xt G0.ci xt)) ok b hb) ?_
  rintro _ h3 ⟨p3, rfl, g3, p3x, p3y, p3w, f3, wp3x, wp3y, wp3w⟩
  have G3 := G2.trans g3
  refine g_astore (l1 := [(7, aO (some p3)), (6, aO (some p2)), (5, aO (some p1)), (0, aO (some c)), (1, aI 1), (2, aI a), (3, aI b), (4, aI e)]) rfl rfl ?_
  refine g_iload_n rfl rfl ?_
  refine g_tsw (t := 132) rfl (by rfl) ?_
  refine g_aload_n rfl rfl ?_
  refine g_getR rfl (G3.cs.kd 0 (by omega) rfl) (G3.cs.rf 6 (by omega) rfl) ?_
  refine g_aload rfl rfl ?_
  refine g_aload rfl rfl ?_
  refine g_aload rfl rfl ?_
  refine g_callVO [aO (some p1), aO (some p3), aO (some p2)] [] rfl rfl rfl rfl (Nat.le_of_ble_eq_true rfl) (G3.cs.kd 6 (by omega) rfl) (p_mid3 (by omega) G3.ci (show TB h3 c p1 (tpT S a) (20) from ⟨_, _, _, (g3.tf (g2.tf f1)), ((g3.wb (g2.wb wp1x)).up (by omega)), ((g3.wb (g2.wb wp1y)).up (by omega)), ((g3.wb (g2.wb wp1w)).up (by omega))⟩) (show TB h3 c p3 (tpT S b) (20) from ⟨_, _, _, f3, (wp3x.up (by omega)), (wp3y.up (by omega)), (wp3w.up (by omega))⟩) (show TB h3 c p2 (tpT S e) (20) from ⟨_, _, _, (g3.tf f2), ((g3.wb wp2x).up (by omega)), ((g3.wb wp2y).up (by omega)), ((g3.wb wp2w).up (by omega))⟩)) ?_
  rintro r4 h4 ⟨g4, q4⟩
  have G4 := G3.trans g4
  cases eS4 : p_mid3_O (tpT S a) (tpT S b) (tpT S e) with
  | none =>
    rw [eS4] at q4
    obtain rfl : r4 = none := q4
    refine g_aret rfl ?_
    refine ⟨G4.mono (by omega), ?_⟩
    rfl
  | some P4 =>
    rw [eS4] at q4
    obtain ⟨p4, rfl, p4x, p4y, p4w, f4, wp4x, wp4y, wp4w⟩ := q4
    refine g_aret rfl ?_
    refine ⟨G4.mono (by omega), ?_⟩
    skip
    exact ⟨p4, rfl, _, _, _, f4, (wp4x.up (by omega)), (wp4y.up (by omega)), (wp4w.up (by omega))⟩
set_option maxHeartbeats 4000000 in
theorem f_pth2 {w : aW} {d : Nat} (hd : 7 ≤ d) {h : aH} {c : Nat} (ci : CI h c) {S : aS} (xt : XT h c S) (ok : OkT S) (xn : XN (hV h) c S) (okn : OkN S) (a : Int) (ha : 0 ≤ a ∧ a < sT S) (b : Int) (hb : 0 ≤ b ∧ b < sT S) (e : Int) (he : 0 ≤ e ∧ e < sT S)  : WP w d 232 [aO (some c), aI 2, aI a, aI b, aI e] h (RO (fun r h1 => Gr h h1 c 61 ∧ OT h1 c r (p_heights_O (tpT S a) (tpT S b) (tpT S e)) (167))) := by
  obtain ⟨d, rfl⟩ : ∃ d1, d = d1 + 1 := ⟨d - 1, by omega⟩
  refine WP.enter (cd := cd_X11_pointByThree) rfl ?_
  have G0 := Gr.refl ci
  have hls : largs 0 [aO (some c), aI 2, aI a, aI b, aI e] = [(0, aO (some c)), (1, aI 2), (2, aI a), (3, aI b), (4, aI e)] := rfl
  rw [hls]
  clear hls
  refine g_aload_n rfl rfl ?_
  refine g_getR rfl (G0.cs.kd 0 (by omega) rfl) (G0.cs.rf 11 (by omega) rfl) ?_
  refine g_iload_n rfl rfl ?_
  refine g_callVO [aI a] [] rfl rfl rfl rfl (Nat.le_of_ble_eq_true rfl) (G0.cs.kd 7 (by omega) rfl) (t_triple (by omega) G0.ci xt ok a ha) ?_
  rintro _ h1 ⟨p1, rfl, g1, p1x, p1y, p1w, f1, wp1x, wp1y, wp1w⟩
  have G1 := G0.trans g1
  refine g_astore (l1 := [(5, aO (some p1)), (0, aO (some c)), (1, aI 2), (2, aI a), (3, aI b), (4, aI e)]) rfl rfl ?_
  refine g_aload_n rfl rfl ?_
  refine g_getR rfl (G1.cs.kd 0 (by omega) rfl) (G1.cs.rf 11 (by omega) rfl) ?_
  refine g_iload rfl rfl ?_
  refine g_callVO [aI e] [] rfl rfl rfl rfl (Nat.le_of_ble_eq_true rfl) (G1.cs.kd 7 (by omega) rfl) (t_triple (by omega) G1.ci (g1.xt G0.ci xt) ok e he) ?_
  rintro _ h2 ⟨p2, rfl, g2, p2x, p2y, p2w, f2, wp2x, wp2y, wp2w⟩
  have G2 := G1.trans g2
  refine g_astore (l1 := [(6, aO (some p2)), (5, aO (some p1)), (0, aO (some c)), (1, aI 2), (2, aI a), (3, aI b), (4, aI e)]) rfl rfl ?_
  refine g_iload_n rfl rfl ?_
  refine g_bipush rfl ?_
  refine g_icmp_ne_t rfl (by omega) ?_
  refine g_iload_n rfl rfl ?_
  refine g_bipush rfl ?_
  refine g_icmp_ne_t rfl (by omega) ?_
  refine g_aload_n rfl rfl ?_
  refine g_getR rfl (G2.cs.kd 0 (by omega) rfl) (G2.cs.rf 11 (by omega) rfl) ?_
  refine g_iload_n rfl rfl ?_
  refine g_callVO [aI b] [] rfl rfl rfl rfl (Nat.le_of_ble_eq_true rfl) (G2.cs.kd 7 (by omega) rfl) (t_triple (by omega) G2.ci (g2.xt G1.ci (g1.xt G0.ci xt)) ok b hb) ?_
  rintro _ h3 ⟨p3, rfl, g3, p3x, p3y, p3w, f3, wp3x, wp3y, wp3w⟩
  have G3 := G2.trans g3
  refine g_astore (l1 := [(7, aO (some p3)), (6, aO (some p2)), (5, aO (some p1)), (0, aO (some c)), (1, aI 2), (2, aI a), (3, aI b), (4, aI e)]) rfl rfl ?_
  refine g_iload_n rfl rfl ?_
  refine g_tsw (t := 146) rfl (by rfl) ?_
  refine g_aload_n rfl rfl ?_
  refine g_getR rfl (G3.cs.kd 0 (by omega) rfl) (G3.cs.rf 6 (by omega) rfl) ?_
  refine g_aload rfl rfl ?_
  refine g_aload rfl rfl ?_
  refine g_aload rfl rfl ?_
  refine g_callVO [aO (some p1), aO (some p3), aO (some p2)] [] rfl rfl rfl rfl (Nat.le_of_ble_eq_true rfl) (G3.cs.kd 6 (by omega) rfl) (p_heights (by omega) G3.ci (show TB h3 c p1 (tpT S a) (20) from ⟨_, _, _, (g3.tf (g2.tf f1)), ((g3.wb (g2.wb wp1x)).up (by omega)), ((g3.wb (g2.wb wp1y)).up (by omega)), ((g3.wb (g2.wb wp1w)).up (by omega))⟩) (show TB h3 c p3 (tpT S b) (20) from ⟨_, _, _, f3, (wp3x.up (by omega)), (wp3y.up (by omega)), (wp3w.up (by omega))⟩) (show TB h3 c p2 (tpT S e) (20) from ⟨_, _, _, (g3.tf f2), ((g3.wb wp2x).up (by omega)), ((g3.wb wp2y).up (by omega)), ((g3.wb wp2w).up (by omega))⟩)) ?_
  rintro r4 h4 ⟨g4, q4⟩
  have G4 := G3.trans g4
  cases eS4 : p_heights_O (tpT S a) (tpT S b) (tpT S e) with
  | none =>
    rw [eS4] at q4
    obtain rfl : r4 = none := q4
    refine g_aret rfl ?_
    refine ⟨G4.mono (by omega), ?_⟩
    rfl
  | some P4 =>
    rw [eS4] at q4
    obtain ⟨p4, rfl, p4x, p4y, p4w, f4, wp4x, wp4y, wp4w⟩ := q4
    refine g_aret rfl ?_
    refine ⟨G4.mono (by omega), ?_⟩
    skip
    exact ⟨p4, rfl, _, _, _, f4, (wp4x.up (by omega)), (wp4y.up (by omega)), (wp4w.up (by omega))⟩
set_option maxHeartbeats 4000000 in
theorem f_pth3 {w : aW} {d : Nat} (hd : 7 ≤ d) {h : aH} {c : Nat} (ci : CI h c) {S : aS} (xt : XT h c S) (ok : OkT S) (xn : XN (hV h) c S) (okn : OkN S) (a : Int) (ha : 0 ≤ a ∧ a < sT S) (b : Int) (hb : 0 ≤ b ∧ b < sT S) (e : Int) (he : 0 ≤ e ∧ e < sT S)  : WP w d 232 [aO (some c), aI 3, aI a, aI b, aI e] h (RO (fun r h1 => Gr h h1 c 83 ∧ OT h1 c r (p_cen_O (tpT S a) (tpT S b) (tpT S e)) (169))) := by
  obtain ⟨d, rfl⟩ : ∃ d1, d = d1 + 1 := ⟨d - 1, by omega⟩
  refine WP.enter (cd := cd_X11_pointByThree) rfl ?_
  have G0 := Gr.refl ci
  have hls : largs 0 [aO (some c), aI 3, aI a, aI b, aI e] = [(0, aO (some c)), (1, aI 3), (2, aI a), (3, aI b), (4, aI e)] := rfl
  rw [hls]
  clear hls
  refine g_aload_n rfl rfl ?_
  refine g_getR rfl (G0.cs.kd 0 (by omega) rfl) (G0.cs.rf 11 (by omega) rfl) ?_
  refine g_iload_n rfl rfl ?_
  refine g_callVO [aI a] [] rfl rfl rfl rfl (Nat.le_of_ble_eq_true rfl) (G0.cs.kd 7 (by omega) rfl) (t_triple (by omega) G0.ci xt ok a ha) ?_
  rintro _ h1 ⟨p1, rfl, g1, p1x, p1y, p1w, f1, wp1x, wp1y, wp1w⟩
  have G1 := G0.trans g1
  refine g_astore (l1 := [(5, aO (some p1)), (0, aO (some c)), (1, aI 3), (2, aI a), (3, aI b), (4, aI e)]) rfl rfl ?_
  refine g_aload_n rfl rfl ?_
  refine g_getR rfl (G1.cs.kd 0 (by omega) rfl) (G1.cs.rf 11 (by omega) rfl) ?_
  refine g_iload rfl rfl ?_
  refine g_callVO [aI e] [] rfl rfl rfl rfl (Nat.le_of_ble_eq_true rfl) (G1.cs.kd 7 (by omega) rfl) (t_triple (by omega) G1.ci (g1.xt G0.ci xt) ok e he) ?_
  rintro _ h2 ⟨p2, rfl, g2, p2x, p2y, p2w, f2, wp2x, wp2y, wp2w⟩
  have G2 := G1.trans g2
  refine g_astore (l1 := [(6, aO (some p2)), (5, aO (some p1)), (0, aO (some c)), (1, aI 3), (2, aI a), (3, aI b), (4, aI e)]) rfl rfl ?_
  refine g_iload_n rfl rfl ?_
  refine g_bipush rfl ?_
  refine g_icmp_ne_t rfl (by omega) ?_
  refine g_iload_n rfl rfl ?_
  refine g_bipush rfl ?_
  refine g_icmp_ne_t rfl (by omega) ?_
  refine g_aload_n rfl rfl ?_
  refine g_getR rfl (G2.cs.kd 0 (by omega) rfl) (G2.cs.rf 11 (by omega) rfl) ?_
  refine g_iload_n rfl rfl ?_
  refine g_callVO [aI b] [] rfl rfl rfl rfl (Nat.le_of_ble_eq_true rfl) (G2.cs.kd 7 (by omega) rfl) (t_triple (by omega) G2.ci (g2.xt G1.ci (g1.xt G0.ci xt)) ok b hb) ?_
  rintro _ h3 ⟨p3, rfl, g3, p3x, p3y, p3w, f3, wp3x, wp3y, wp3w⟩
  have G3 := G2.trans g3
  refine g_astore (l1 := [(7, aO (some p3)), (6, aO (some p2)), (5, aO (some p1)), (0, aO (some c)), (1, aI 3), (2, aI a), (3, aI b), (4, aI e)]) rfl rfl ?_
  refine g_iload_n rfl rfl ?_
  refine g_tsw (t := 160) rfl (by rfl) ?_
  refine g_aload_n rfl rfl ?_
  refine g_getR rfl (G3.cs.kd 0 (by omega) rfl) (G3.cs.rf 6 (by omega) rfl) ?_
  refine g_aload_n rfl rfl ?_
  refine g_getR rfl (G3.cs.kd 0 (by omega) rfl) (G3.cs.rf 6 (by omega) rfl) ?_
  refine g_aload rfl rfl ?_
  refine g_aload rfl rfl ?_
  refine g_aload rfl rfl ?_
  refine g_callVO [aO (some p1), aO (some p3), aO (some p2)] [aO (some (c + 6))] rfl rfl rfl rfl (Nat.le_of_ble_eq_true rfl) (G3.cs.kd 6 (by omega) rfl) (p_thr (by omega) G3.ci (show TB h3 c p1 (tpT S a) (20) from ⟨_, _, _, (g3.tf (g2.tf f1)), ((g3.wb (g2.wb wp1x)).up (by omega)), ((g3.wb (g2.wb wp1y)).up (by omega)), ((g3.wb (g2.wb wp1w)).up (by omega))⟩) (show TB h3 c p3 (tpT S b) (20) from ⟨_, _, _, f3, (wp3x.up (by omega)), (wp3y.up (by omega)), (wp3w.up (by omega))⟩) (show TB h3 c p2 (tpT S e) (20) from ⟨_, _, _, (g3.tf f2), ((g3.wb wp2x).up (by omega)), ((g3.wb wp2y).up (by omega)), ((g3.wb wp2w).up (by omega))⟩) (by omega)) ?_
  rintro r4 h4 ⟨g4, q4⟩
  have G4 := G3.trans g4
  cases eS4 : p_thr_O (tpT S a) (tpT S b) (tpT S e) with
  | none =>
    rw [eS4] at q4
    obtain rfl : r4 = none := q4
    refine g_callVO [aO none] [] rfl rfl rfl rfl (Nat.le_of_ble_eq_true rfl) (G4.cs.kd 6 (by omega) rfl) (p_midR0 (by omega) G4.ci) ?_
    rintro _ hx5 ⟨ehx5, rfl⟩
    rw [ehx5]
    clear ehx5 hx5
    refine g_aret rfl ?_
    refine ⟨G4.mono (by omega), ?_⟩
    unfold p_cen_O
    simp only [eS4]
    rfl
  | some P4 =>
    rw [eS4] at q4
    obtain ⟨p4, rfl, p4k, p4a, p4b, p4e, f4, wp4k, wp4a, wp4b, wp4e⟩ := q4
    refine g_callVO [aO (some p4)] [] rfl rfl rfl rfl (Nat.le_of_ble_eq_true rfl) (G4.cs.kd 6 (by omega) rfl) (p_midR (by omega) G4.ci (show QB h4 c p4 P4 (168) from ⟨_, _, _, _, f4, (wp4k.up (by omega)), (wp4a.up (by omega)), (wp4b.up (by omega)), (wp4e.up (by omega))⟩) (by omega)) ?_
    rintro _ h6 ⟨p6, rfl, g6, p6x, p6y, p6w, f6, wp6x, wp6y, wp6w⟩
    have G6 := G4.trans g6
    refine g_aret rfl ?_
    refine ⟨G6.mono (by omega), ?_⟩
    unfold p_cen_O
    simp only [eS4]
    exact ⟨p6, rfl, _, _, _, f6, (wp6x.up (by omega)), (wp6y.up (by omega)), (wp6w.up (by omega))⟩
set_option maxHeartbeats 4000000 in
theorem f_pth5 {w : aW} {d : Nat} (hd : 7 ≤ d) {h : aH} {c : Nat} (ci : CI h c) {S : aS} (xt : XT h c S) (ok : OkT S) (xn : XN (hV h) c S) (okn : OkN S) (a : Int) (ha : 0 ≤ a ∧ a < sT S) (b : Int) (hb : 0 ≤ b ∧ b < sT S) (e : Int) (he : 0 ≤ e ∧ e < sT S)  : WP w d 232 [aO (some c), aI 5, aI a, aI b, aI e] h (RO (fun r h1 => Gr h h1 c 57 ∧ OT h1 c r (p_harm_O (tpT S a) (tpT S b) (tpT S e)) (62))) := by
  obtain ⟨d, rfl⟩ : ∃ d1, d = d1 + 1 := ⟨d - 1, by omega⟩
  refine WP.enter (cd := cd_X11_pointByThree) rfl ?_
  have G0 := Gr.refl ci
  have hls : largs 0 [aO (some c), aI 5, aI a, aI b, aI e] = [(0, aO (some c)), (1, aI 5), (2, aI a), (3, aI b), (4, aI e)] := rfl
  rw [hls]
  clear hls
  refine g_aload_n rfl rfl ?_
  refine g_getR rfl (G0.cs.kd 0 (by omega) rfl) (G0.cs.rf 11 (by omega) rfl) ?_
  refine g_iload_n rfl rfl ?_
  refine g_callVO [aI a] [] rfl rfl rfl rfl (Nat.le_of_ble_eq_true rfl) (G0.cs.kd 7 (by omega) rfl) (t_triple (by omega) G0.ci xt ok a ha) ?_
  rintro _ h1 ⟨p1, rfl, g1, p1x, p1y, p1w, f1, wp1x, wp1y, wp1w⟩
  have G1 := G0.trans g1
  refine g_astore (l1 := [(5, aO (some p1)), (0, aO (some c)), (1, aI 5), (2, aI a), (3, aI b), (4, aI e)]) rfl rfl ?_
  refine g_aload_n rfl rfl ?_
  refine g_getR rfl (G1.cs.kd 0 (by omega) rfl) (G1.cs.rf 11 (by omega) rfl) ?_
  refine g_iload rfl rfl ?_
  refine g_callVO [aI e] [] rfl rfl rfl rfl (Nat.le_of_ble_eq_true rfl) (G1.cs.kd 7 (by omega) rfl) (t_triple (by omega) G1.ci (g1.xt G0.ci xt) ok e he) ?_
  rintro _ h2 ⟨p2, rfl, g2, p2x, p2y, p2w, f2, wp2x, wp2y, wp2w⟩
  have G2 := G1.trans g2
  refine g_astore (l1 := [(6, aO (some p2)), (5, aO (some p1)), (0, aO (some c)), (1, aI 5), (2, aI a), (3, aI b), (4, aI e)]) rfl rfl ?_
  refine g_iload_n rfl rfl ?_
  refine g_bipush rfl ?_
  refine g_icmp_ne_t rfl (by omega) ?_
  refine g_iload_n rfl rfl ?_
  refine g_bipush rfl ?_
  refine g_icmp_ne_t rfl (by omega) ?_
  refine g_aload_n rfl rfl ?_
  refine g_getR rfl (G2.cs.kd 0 (by omega) rfl) (G2.cs.rf 11 (by omega) rfl) ?_
  refine g_iload_n rfl rfl ?_
  refine g_callVO [aI b] [] rfl rfl rfl rfl (Nat.le_of_ble_eq_true rfl) (G2.cs.kd 7 (by omega) rfl) (t_triple (by omega) G2.ci (g2.xt G1.ci (g1.xt G0.ci xt)) ok b hb) ?_
  rintro _ h3 ⟨p3, rfl, g3, p3x, p3y, p3w, f3, wp3x, wp3y, wp3w⟩
  have G3 := G2.trans g3
  refine g_astore (l1 := [(7, aO (some p3)), (6, aO (some p2)), (5, aO (some p1)), (0, aO (some c)), (1, aI 5), (2, aI a), (3, aI b), (4, aI e)]) rfl rfl ?_
  refine g_iload_n rfl rfl ?_
  refine g_tsw (t := 181) rfl (by rfl) ?_
  refine g_aload_n rfl rfl ?_
  refine g_getR rfl (G3.cs.kd 0 (by omega) rfl) (G3.cs.rf 6 (by omega) rfl) ?_
  refine g_aload rfl rfl ?_
  refine g_aload rfl rfl ?_
  refine g_aload rfl rfl ?_
  refine g_callVO [aO (some p1), aO (some p3), aO (some p2)] [] rfl rfl rfl rfl (Nat.le_of_ble_eq_true rfl) (G3.cs.kd 6 (by omega) rfl) (p_harm (by omega) G3.ci (show TB h3 c p1 (tpT S a) (20) from ⟨_, _, _, (g3.tf (g2.tf f1)), ((g3.wb (g2.wb wp1x)).up (by omega)), ((g3.wb (g2.wb wp1y)).up (by omega)), ((g3.wb (g2.wb wp1w)).up (by omega))⟩) (show TB h3 c p3 (tpT S b) (20) from ⟨_, _, _, f3, (wp3x.up (by omega)), (wp3y.up (by omega)), (wp3w.up (by omega))⟩) (show TB h3 c p2 (tpT S e) (20) from ⟨_, _, _, (g3.tf f2), ((g3.wb wp2x).up (by omega)), ((g3.wb wp2y).up (by omega)), ((g3.wb wp2w).up (by omega))⟩)) ?_
  rintro r4 h4 ⟨g4, q4⟩
  have G4 := G3.trans g4
  cases eS4 : p_harm_O (tpT S a) (tpT S b) (tpT S e) with
  | none =>
    rw [eS4] at q4
    obtain rfl : r4 = none := q4
    refine g_aret rfl ?_
    refine ⟨G4.mono (by omega), ?_⟩
    rfl
  | some P4 =>
    rw [eS4] at q4
    obtain ⟨p4, rfl, p4x, p4y, p4w, f4, wp4x, wp4y, wp4w⟩ := q4
    refine g_aret rfl ?_
    refine ⟨G4.mono (by omega), ?_⟩
    skip
    exact ⟨p4, rfl, _, _, _, f4, (wp4x.up (by omega)), (wp4y.up (by omega)), (wp4w.up (by omega))⟩
set_option maxHeartbeats 4000000 in
theorem f_pth6 {w : aW} {d : Nat} (hd : 7 ≤ d) {h : aH} {c : Nat} (ci : CI h c) {S : aS} (xt : XT h c S) (ok : OkT S) (xn : XN (hV h) c S) (okn : OkN S) (a : Int) (ha : 0 ≤ a ∧ a < sT S) (b : Int) (hb : 0 ≤ b ∧ b < sT S) (e : Int) (he : 0 ≤ e ∧ e < sT S)  : WP w d 232 [aO (some c), aI 6, aI a, aI b, aI e] h (RO (fun r h1 => Gr h h1 c 23 ∧ OT h1 c r (p_moved_O (tpT S a) (tpT S b) (tpT S e)) (62))) := by
  obtain ⟨d, rfl⟩ : ∃ d1, d = d1 + 1 := ⟨d - 1, by omega⟩
  refine WP.enter (cd := cd_X11_pointByThree) rfl ?_
  have G0 := Gr.refl ci
  have hls : largs 0 [aO (some c), aI 6, aI a, aI b, aI e] = [(0, aO (some c)), (1, aI 6), (2, aI a), (3, aI b), (4, aI e)] := rfl
  rw [hls]
  clear hls
  refine g_aload_n rfl rfl ?_
  refine g_getR rfl (G0.cs.kd 0 (by omega) rfl) (G0.cs.rf 11 (by omega) rfl) ?_
  refine g_iload_n rfl rfl ?_
  refine g_callVO [aI a] [] rfl rfl rfl rfl (Nat.le_of_ble_eq_true rfl) (G0.cs.kd 7 (by omega) rfl) (t_triple (by omega) G0.ci xt ok a ha) ?_
  rintro _ h1 ⟨p1, rfl, g1, p1x, p1y, p1w, f1, wp1x, wp1y, wp1w⟩
  have G1 := G0.trans g1
  refine g_astore (l1 := [(5, aO (some p1)), (0, aO (some c)), (1, aI 6), (2, aI a), (3, aI b), (4, aI e)]) rfl rfl ?_
  refine g_aload_n rfl rfl ?_
  refine g_getR rfl (G1.cs.kd 0 (by omega) rfl) (G1.cs.rf 11 (by omega) rfl) ?_
  refine g_iload rfl rfl ?_
  refine g_callVO [aI e] [] rfl rfl rfl rfl (Nat.le_of_ble_eq_true rfl) (G1.cs.kd 7 (by omega) rfl) (t_triple (by omega) G1.ci (g1.xt G0.ci xt) ok e he) ?_
  rintro _ h2 ⟨p2, rfl, g2, p2x, p2y, p2w, f2, wp2x, wp2y, wp2w⟩
  have G2 := G1.trans g2
  refine g_astore (l1 := [(6, aO (some p2)), (5, aO (some p1)), (0, aO (some c)), (1, aI 6), (2, aI a), (3, aI b), (4, aI e)]) rfl rfl ?_
  refine g_iload_n rfl rfl ?_
  refine g_bipush rfl ?_
  refine g_icmp_ne_t rfl (by omega) ?_
  refine g_iload_n rfl rfl ?_
  refine g_bipush rfl ?_
  refine g_icmp_ne_t rfl (by omega) ?_
  refine g_aload_n rfl rfl ?_
  refine g_getR rfl (G2.cs.kd 0 (by omega) rfl) (G2.cs.rf 11 (by omega) rfl) ?_
  refine g_iload_n rfl rfl ?_
  refine g_callVO [aI b] [] rfl rfl rfl rfl (Nat.le_of_ble_eq_true rfl) (G2.cs.kd 7 (by omega) rfl) (t_triple (by omega) G2.ci (g2.xt G1.ci (g1.xt G0.ci xt)) ok b hb) ?_
  rintro _ h3 ⟨p3, rfl, g3, p3x, p3y, p3w, f3, wp3x, wp3y, wp3w⟩
  have G3 := G2.trans g3
  refine g_astore (l1 := [(7, aO (some p3)), (6, aO (some p2)), (5, aO (some p1)), (0, aO (some c)), (1, aI 6), (2, aI a), (3, aI b), (4, aI e)]) rfl rfl ?_
  refine g_iload_n rfl rfl ?_
  refine g_tsw (t := 195) rfl (by rfl) ?_
  refine g_aload_n rfl rfl ?_
  refine g_getR rfl (G3.cs.kd 0 (by omega) rfl) (G3.cs.rf 6 (by omega) rfl) ?_
  refine g_aload rfl rfl ?_
  refine g_aload rfl rfl ?_
  refine g_aload rfl rfl ?_
  refine g_callVO [aO (some p1), aO (some p3), aO (some p2)] [] rfl rfl rfl rfl (Nat.le_of_ble_eq_true rfl) (G3.cs.kd 6 (by omega) rfl) (p_moved (by omega) G3.ci (show TB h3 c p1 (tpT S a) (20) from ⟨_, _, _, (g3.tf (g2.tf f1)), ((g3.wb (g2.wb wp1x)).up (by omega)), ((g3.wb (g2.wb wp1y)).up (by omega)), ((g3.wb (g2.wb wp1w)).up (by omega))⟩) (show TB h3 c p3 (tpT S b) (20) from ⟨_, _, _, f3, (wp3x.up (by omega)), (wp3y.up (by omega)), (wp3w.up (by omega))⟩) (show TB h3 c p2 (tpT S e) (20) from ⟨_, _, _, (g3.tf f2), ((g3.wb wp2x).up (by omega)), ((g3.wb wp2y).up (by omega)), ((g3.wb wp2w).up (by omega))⟩)) ?_
  rintro r4 h4 ⟨g4, q4⟩
  have G4 := G3.trans g4
  cases eS4 : p_moved_O (tpT S a) (tpT S b) (tpT S e) with
  | none =>
    rw [eS4] at q4
    obtain rfl : r4 = none := q4
    refine g_aret rfl ?_
    refine ⟨G4.mono (by omega), ?_⟩
    rfl
  | some P4 =>
    rw [eS4] at q4
    obtain ⟨p4, rfl, p4x, p4y, p4w, f4, wp4x, wp4y, wp4w⟩ := q4
    refine g_aret rfl ?_
    refine ⟨G4.mono (by omega), ?_⟩
    skip
    exact ⟨p4, rfl, _, _, _, f4, (wp4x.up (by omega)), (wp4y.up (by omega)), (wp4w.up (by omega))⟩
set_option maxHeartbeats 4000000 in
theorem f_pth7 {w : aW} {d : Nat} (hd : 7 ≤ d) {h : aH} {c : Nat} (ci : CI h c) {S : aS} (xt : XT h c S) (ok : OkT S) (xn : XN (hV h) c S) (okn : OkN S) (a : Int) (ha : 0 ≤ a ∧ a < sT S) (b : Int) (e : Int) (he : 0 ≤ e ∧ e < sT S)  : WP w d 232 [aO (some c), aI 7, aI a, aI b, aI e] h (RO (fun r h1 => Gr h h1 c 18 ∧ OT h1 c r (p_turned_O (tpT S a) (tpT S e)) (42))) := by
  obtain ⟨d, rfl⟩ : ∃ d1, d = d1 + 1 := ⟨d - 1, by omega⟩
  refine WP.enter (cd := cd_X11_pointByThree) rfl ?_
  have G0 := Gr.refl ci
  have hls : largs 0 [aO (some c), aI 7, aI a, aI b, aI e] = [(0, aO (some c)), (1, aI 7), (2, aI a), (3, aI b), (4, aI e)] := rfl
  rw [hls]
  clear hls
  refine g_aload_n rfl rfl ?_
  refine g_getR rfl (G0.cs.kd 0 (by omega) rfl) (G0.cs.rf 11 (by omega) rfl) ?_
  refine g_iload_n rfl rfl ?_
  refine g_callVO [aI a] [] rfl rfl rfl rfl (Nat.le_of_ble_eq_true rfl) (G0.cs.kd 7 (by omega) rfl) (t_triple (by omega) G0.ci xt ok a ha) ?_
  rintro _ h1 ⟨p1, rfl, g1, p1x, p1y, p1w, f1, wp1x, wp1y, wp1w⟩
  have G1 := G0.trans g1
  refine g_astore (l1 := [(5, aO (some p1)), (0, aO (some c)), (1, aI 7), (2, aI a), (3, aI b), (4, aI e)]) rfl rfl ?_
  refine g_aload_n rfl rfl ?_
  refine g_getR rfl (G1.cs.kd 0 (by omega) rfl) (G1.cs.rf 11 (by omega) rfl) ?_
  refine g_iload rfl rfl ?_
  refine g_callVO [aI e] [] rfl rfl rfl rfl (Nat.le_of_ble_eq_true rfl) (G1.cs.kd 7 (by omega) rfl) (t_triple (by omega) G1.ci (g1.xt G0.ci xt) ok e he) ?_
  rintro _ h2 ⟨p2, rfl, g2, p2x, p2y, p2w, f2, wp2x, wp2y, wp2w⟩
  have G2 := G1.trans g2
  refine g_astore (l1 := [(6, aO (some p2)), (5, aO (some p1)), (0, aO (some c)), (1, aI 7), (2, aI a), (3, aI b), (4, aI e)]) rfl rfl ?_
  refine g_iload_n rfl rfl ?_
  refine g_bipush rfl ?_
  refine g_icmp_ne_f rfl (by omega) ?_
  refine g_aload_n rfl rfl ?_
  refine g_getR rfl (G2.cs.kd 0 (by omega) rfl) (G2.cs.rf 6 (by omega) rfl) ?_
  refine g_aload rfl rfl ?_
  refine g_aload rfl rfl ?_
  refine g_callVO [aO (some p1), aO (some p2)] [] rfl rfl rfl rfl (Nat.le_of_ble_eq_true rfl) (G2.cs.kd 6 (by omega) rfl) (p_turned (by omega) G2.ci (show TB h2 c p1 (tpT S a) (20) from ⟨_, _, _, (g2.tf f1), ((g2.wb wp1x).up (by omega)), ((g2.wb wp1y).up (by omega)), ((g2.wb wp1w).up (by omega))⟩) (show TB h2 c p2 (tpT S e) (20) from ⟨_, _, _, f2, (wp2x.up (by omega)), (wp2y.up (by omega)), (wp2w.up (by omega))⟩)) ?_
  rintro r3 h3 ⟨g3, q3⟩
  have G3 := G2.trans g3
  cases eS3 : p_turned_O (tpT S a) (tpT S e) with
  | none =>
    rw [eS3] at q3
    obtain rfl : r3 = none := q3
    refine g_aret rfl ?_
    refine ⟨G3.mono (by omega), ?_⟩
    rfl
  | some P3 =>
    rw [eS3] at q3
    obtain ⟨p3, rfl, p3x, p3y, p3w, f3, wp3x, wp3y, wp3w⟩ := q3
    refine g_aret rfl ?_
    refine ⟨G3.mono (by omega), ?_⟩
    skip
    exact ⟨p3, rfl, _, _, _, f3, (wp3x.up (by omega)), (wp3y.up (by omega)), (wp3w.up (by omega))⟩
set_option maxHeartbeats 4000000 in
theorem f_pth8 {w : aW} {d : Nat} (hd : 7 ≤ d) {h : aH} {c : Nat} (ci : CI h c) {S : aS} (xt : XT h c S) (ok : OkT S) (xn : XN (hV h) c S) (okn : OkN S) (a : Int) (ha : 0 ≤ a ∧ a < sT S) (b : Int) (hb : 0 ≤ b ∧ b < sN S) (e : Int) (he : 0 ≤ e ∧ e < sT S)  : WP w d 232 [aO (some c), aI 8, aI a, aI b, aI e] h (RO (fun r h1 => Gr h h1 c 19 ∧ OT h1 c r (p_str_O (tpT S a) (tpT S e) (sNu S b.toNat).1 (sNu S b.toNat).2) (73))) := by
  obtain ⟨d, rfl⟩ : ∃ d1, d = d1 + 1 := ⟨d - 1, by omega⟩
  refine WP.enter (cd := cd_X11_pointByThree) rfl ?_
  have G0 := Gr.refl ci
  have hls : largs 0 [aO (some c), aI 8, aI a, aI b, aI e] = [(0, aO (some c)), (1, aI 8), (2, aI a), (3, aI b), (4, aI e)] := rfl
  rw [hls]
  clear hls
  refine g_aload_n rfl rfl ?_
  refine g_getR rfl (G0.cs.kd 0 (by omega) rfl) (G0.cs.rf 11 (by omega) rfl) ?_
  refine g_iload_n rfl rfl ?_
  refine g_callVO [aI a] [] rfl rfl rfl rfl (Nat.le_of_ble_eq_true rfl) (G0.cs.kd 7 (by omega) rfl) (t_triple (by omega) G0.ci xt ok a ha) ?_
  rintro _ h1 ⟨p1, rfl, g1, p1x, p1y, p1w, f1, wp1x, wp1y, wp1w⟩
  have G1 := G0.trans g1
  refine g_astore (l1 := [(5, aO (some p1)), (0, aO (some c)), (1, aI 8), (2, aI a), (3, aI b), (4, aI e)]) rfl rfl ?_
  refine g_aload_n rfl rfl ?_
  refine g_getR rfl (G1.cs.kd 0 (by omega) rfl) (G1.cs.rf 11 (by omega) rfl) ?_
  refine g_iload rfl rfl ?_
  refine g_callVO [aI e] [] rfl rfl rfl rfl (Nat.le_of_ble_eq_true rfl) (G1.cs.kd 7 (by omega) rfl) (t_triple (by omega) G1.ci (g1.xt G0.ci xt) ok e he) ?_
  rintro _ h2 ⟨p2, rfl, g2, p2x, p2y, p2w, f2, wp2x, wp2y, wp2w⟩
  have G2 := G1.trans g2
  refine g_astore (l1 := [(6, aO (some p2)), (5, aO (some p1)), (0, aO (some c)), (1, aI 8), (2, aI a), (3, aI b), (4, aI e)]) rfl rfl ?_
  refine g_iload_n rfl rfl ?_
  refine g_bipush rfl ?_
  refine g_icmp_ne_t rfl (by omega) ?_
  refine g_iload_n rfl rfl ?_
  refine g_bipush rfl ?_
  refine g_icmp_ne_f rfl (by omega) ?_
  refine g_aload_n rfl rfl ?_
  refine g_getR rfl (G2.cs.kd 0 (by omega) rfl) (G2.cs.rf 6 (by omega) rfl) ?_
  refine g_aload rfl rfl ?_
  refine g_aload rfl rfl ?_
  refine g_aload_n rfl rfl ?_
  refine g_getR rfl (G2.cs.kd 0 (by omega) rfl) (G2.cs.rf 1 (by omega) rfl) ?_
  refine g_aload_n rfl rfl ?_
  refine g_getR rfl (G2.cs.kd 0 (by omega) rfl) (G2.cs.rf 4 (by omega) rfl) ?_
  refine g_iload_n rfl rfl ?_
  refine g_callVJ [aI b] [aO (some (c + 1)), aO (some p2), aO (some p1), aO (some (c + 6))] rfl rfl rfl rfl (Nat.le_of_ble_eq_true rfl) (G2.cs.kd 3 (by omega) rfl) (x_upS (by omega) G2.cs (hV h2) (g2.xn G1.ci (g1.xn G0.ci xn)) okn b hb) ?_
  rintro _ hx3 ⟨ehx3, rfl⟩
  rw [ehx3]
  clear ehx3 hx3
  refine g_hp (h2 := h2) rfl ?_
  have bn3 := (okn.b hb).1
  refine g_callVO [aJ ((sNu S b.toNat).1)] [aO (some p2), aO (some p1), aO (some (c + 6))] rfl rfl rfl rfl (Nat.le_of_ble_eq_true rfl) (G2.cs.kd 1 (by omega) rfl) (s_of (by omega) G2.ci ((sNu S b.toNat).1) (by (unfold r64; omega)) 30 (by omega) (by omega)) ?_
  rintro _ h4 ⟨p4, rfl, g4, wp4⟩
  have G4 := G2.trans g4
  refine g_aload_n rfl rfl ?_
  refine g_getR rfl (G4.cs.kd 0 (by omega) rfl) (G4.cs.rf 1 (by omega) rfl) ?_
  refine g_aload_n rfl rfl ?_
  refine g_getR rfl (G4.cs.kd 0 (by omega) rfl) (G4.cs.rf 4 (by omega) rfl) ?_
  refine g_iload_n rfl rfl ?_
  refine g_callVJ [aI b] [aO (some (c + 1)), aO (some p4), aO (some p2), aO (some p1), aO (some (c + 6))] rfl rfl rfl rfl (Nat.le_of_ble_eq_true rfl) (G4.cs.kd 3 (by omega) rfl) (x_downS (by omega) G4.cs (hV h4) (g4.xn G2.ci (g2.xn G1.ci (g1.xn G0.ci xn))) okn b hb) ?_
  rintro _ hx5 ⟨ehx5, rfl⟩
  rw [ehx5]
  clear ehx5 hx5
  refine g_hp (h2 := h4) rfl ?_
  have bn5 := (okn.b hb).2
  refine g_callVO [aJ ((sNu S b.toNat).2)] [aO (some p4), aO (some p2), aO (some p1), aO (some (c + 6))] rfl rfl rfl rfl (Nat.le_of_ble_eq_true rfl) (G4.cs.kd 1 (by omega) rfl) (s_of (by omega) G4.ci ((sNu S b.toNat).2) (by (unfold r64; omega)) 30 (by omega) (by omega)) ?_
  rintro _ h6 ⟨p6, rfl, g6, wp6⟩
  have G6 := G4.trans g6
  refine g_callVO [aO (some p1), aO (some p2), aO (some p4), aO (some p6)] [] rfl rfl rfl rfl (Nat.le_of_ble_eq_true rfl) (G6.cs.kd 6 (by omega) rfl) (p_str (by omega) G6.ci (show TB h6 c p1 (tpT S a) (20) from ⟨_, _, _, (g6.tf (g4.tf (g2.tf f1))), ((g6.wb (g4.wb (g2.wb wp1x))).up (by omega)), ((g6.wb (g4.wb (g2.wb wp1y))).up (by omega)), ((g6.wb (g4.wb (g2.wb wp1w))).up (by omega))⟩) (show TB h6 c p2 (tpT S e) (20) from ⟨_, _, _, (g6.tf (g4.tf f2)), ((g6.wb (g4.wb wp2x)).up (by omega)), ((g6.wb (g4.wb wp2y)).up (by omega)), ((g6.wb (g4.wb wp2w)).up (by omega))⟩) (show WB h6 c p4 (((sNu S b.toNat).1)) (31) from ((g6.wb wp4).up (by omega))) (show WB h6 c p6 (((sNu S b.toNat).2)) (31) from (wp6.up (by omega)))) ?_
  rintro r7 h7 ⟨g7, q7⟩
  have G7 := G6.trans g7
  cases eS7 : p_str_O (tpT S a) (tpT S e) (((sNu S b.toNat).1)) (((sNu S b.toNat).2)) with
  | none =>
    rw [eS7] at q7
    obtain rfl : r7 = none := q7
    refine g_aret rfl ?_
    refine ⟨G7.mono (by omega), ?_⟩
    rfl
  | some P7 =>
    rw [eS7] at q7
    obtain ⟨p7, rfl, p7x, p7y, p7w, f7, wp7x, wp7y, wp7w⟩ := q7
    refine g_aret rfl ?_
    refine ⟨G7.mono (by omega), ?_⟩
    skip
    exact ⟨p7, rfl, _, _, _, f7, (wp7x.up (by omega)), (wp7y.up (by omega)), (wp7w.up (by omega))⟩
set_option maxHeartbeats 4000000 in
theorem f_rth0 {w : aW} {d : Nat} (hd : 7 ≤ d) {h : aH} {c : Nat} (ci : CI h c) {S : aS} (xt : XT h c S) (ok : OkT S) (xn : XN (hV h) c S) (okn : OkN S) (a : Int) (ha : 0 ≤ a ∧ a < sT S) (b : Int) (hb : 0 ≤ b ∧ b < sT S) (e : Int) (he : 0 ≤ e ∧ e < sT S)  : WP w d 233 [aO (some c), aI 0, aI a, aI b, aI e] h (RO (fun r h1 => Gr h h1 c 79 ∧ OQ h1 c r (p_thr_O (tpT S a) (tpT S b) (tpT S e)) (168))) := by
  obtain ⟨d, rfl⟩ : ∃ d1, d = d1 + 1 := ⟨d - 1, by omega⟩
  refine WP.enter (cd := cd_X11_ringByThree) rfl ?_
  have G0 := Gr.refl ci
  have hls : largs 0 [aO (some c), aI 0, aI a, aI b, aI e] = [(0, aO (some c)), (1, aI 0), (2, aI a), (3, aI b), (4, aI e)] := rfl
  rw [hls]
  clear hls
  refine g_aload_n rfl rfl ?_
  refine g_getR rfl (G0.cs.kd 0 (by omega) rfl) (G0.cs.rf 11 (by omega) rfl) ?_
  refine g_iload_n rfl rfl ?_
  refine g_callVO [aI a] [] rfl rfl rfl rfl (Nat.le_of_ble_eq_true rfl) (G0.cs.kd 7 (by omega) rfl) (t_triple (by omega) G0.ci xt ok a ha) ?_
  rintro _ h1 ⟨p1, rfl, g1, p1x, p1y, p1w, f1, wp1x, wp1y, wp1w⟩
  have G1 := G0.trans g1
  refine g_astore (l1 := [(5, aO (some p1)), (0, aO (some c)), (1, aI 0), (2, aI a), (3, aI b), (4, aI e)]) rfl rfl ?_
  refine g_aload_n rfl rfl ?_
  refine g_getR rfl (G1.cs.kd 0 (by omega) rfl) (G1.cs.rf 11 (by omega) rfl) ?_
  refine g_iload_n rfl rfl ?_
  refine g_callVO [aI b] [] rfl rfl rfl rfl (Nat.le_of_ble_eq_true rfl) (G1.cs.kd 7 (by omega) rfl) (t_triple (by omega) G1.ci (g1.xt G0.ci xt) ok b hb) ?_
  rintro _ h2 ⟨p2, rfl, g2, p2x, p2y, p2w, f2, wp2x, wp2y, wp2w⟩
  have G2 := G1.trans g2
  refine g_astore (l1 := [(6, aO (some p2)), (5, aO (some p1)), (0, aO (some c)), (1, aI 0), (2, aI a), (3, aI b), (4, aI e)]) rfl rfl ?_
  refine g_aload_n rfl rfl ?_
  refine g_getR rfl (G2.cs.kd 0 (by omega) rfl) (G2.cs.rf 11 (by omega) rfl) ?_
  refine g_iload rfl rfl ?_
  refine g_callVO [aI e] [] rfl rfl rfl rfl (Nat.le_of_ble_eq_true rfl) (G2.cs.kd 7 (by omega) rfl) (t_triple (by omega) G2.ci (g2.xt G1.ci (g1.xt G0.ci xt)) ok e he) ?_
  rintro _ h3 ⟨p3, rfl, g3, p3x, p3y, p3w, f3, wp3x, wp3y, wp3w⟩
  have G3 := G2.trans g3
  refine g_astore (l1 := [(7, aO (some p3)), (6, aO (some p2)), (5, aO (some p1)), (0, aO (some c)), (1, aI 0), (2, aI a), (3, aI b), (4, aI e)]) rfl rfl ?_
  refine g_iload_n rfl rfl ?_
  refine g_if_ne_f rfl (by omega) ?_
  refine g_aload_n rfl rfl ?_
  refine g_getR rfl (G3.cs.kd 0 (by omega) rfl) (G3.cs.rf 6 (by omega) rfl) ?_
  refine g_aload rfl rfl ?_
  refine g_aload rfl rfl ?_
  refine g_aload rfl rfl ?_
  refine g_callVO [aO (some p1), aO (some p2), aO (some p3)] [] rfl rfl rfl rfl (Nat.le_of_ble_eq_true rfl) (G3.cs.kd 6 (by omega) rfl) (p_thr (by omega) G3.ci (show TB h3 c p1 (tpT S a) (20) from ⟨_, _, _, (g3.tf (g2.tf f1)), ((g3.wb (g2.wb wp1x)).up (by omega)), ((g3.wb (g2.wb wp1y)).up (by omega)), ((g3.wb (g2.wb wp1w)).up (by omega))⟩) (show TB h3 c p2 (tpT S b) (20) from ⟨_, _, _, (g3.tf f2), ((g3.wb wp2x).up (by omega)), ((g3.wb wp2y).up (by omega)), ((g3.wb wp2w).up (by omega))⟩) (show TB h3 c p3 (tpT S e) (20) from ⟨_, _, _, f3, (wp3x.up (by omega)), (wp3y.up (by omega)), (wp3w.up (by omega))⟩) (by omega)) ?_
  rintro r4 h4 ⟨g4, q4⟩
  have G4 := G3.trans g4
  cases eS4 : p_thr_O (tpT S a) (tpT S b) (tpT S e) with
  | none =>
    rw [eS4] at q4
    obtain rfl : r4 = none := q4
    refine g_aret rfl ?_
    refine ⟨G4.mono (by omega), ?_⟩
    rfl
  | some P4 =>
    rw [eS4] at q4
    obtain ⟨p4, rfl, p4k, p4a, p4b, p4e, f4, wp4k, wp4a, wp4b, wp4e⟩ := q4
    refine g_aret rfl ?_
    refine ⟨G4.mono (by omega), ?_⟩
    skip
    exact ⟨p4, rfl, _, _, _, _, f4, (wp4k.up (by omega)), (wp4a.up (by omega)), (wp4b.up (by omega)), (wp4e.up (by omega))⟩
set_option maxHeartbeats 4000000 in
theorem f_rth4 {w : aW} {d : Nat} (hd : 7 ≤ d) {h : aH} {c : Nat} (ci : CI h c) {S : aS} (xt : XT h c S) (ok : OkT S) (xn : XN (hV h) c S) (okn : OkN S) (a : Int) (ha : 0 ≤ a ∧ a < sT S) (b : Int) (hb : 0 ≤ b ∧ b < sT S) (e : Int) (he : 0 ≤ e ∧ e < sT S)  : WP w d 233 [aO (some c), aI 4, aI a, aI b, aI e] h (RO (fun r h1 => Gr h h1 c 94 ∧ OQ h1 c r (p_nine_O (tpT S a) (tpT S b) (tpT S e)) (336))) := by
  obtain ⟨d, rfl⟩ : ∃ d1, d = d1 + 1 := ⟨d - 1, by omega⟩
  refine WP.enter (cd := cd_X11_ringByThree) rfl ?_
  have G0 := Gr.refl ci
  have hls : largs 0 [aO (some c), aI 4, aI a, aI b, aI e] = [(0, aO (some c)), (1, aI 4), (2, aI a), (3, aI b), (4, aI e)] := rfl
  rw [hls]
  clear hls
  refine g_aload_n rfl rfl ?_
  refine g_getR rfl (G0.cs.kd 0 (by omega) rfl) (G0.cs.rf 11 (by omega) rfl) ?_
  refine g_iload_n rfl rfl ?_
  refine g_callVO [aI a] [] rfl rfl rfl rfl (Nat.le_of_ble_eq_true rfl) (G0.cs.kd 7 (by omega) rfl) (t_triple (by omega) G0.ci xt ok a ha) ?_
  rintro _ h1 ⟨p1, rfl, g1, p1x, p1y, p1w, f1, wp1x, wp1y, wp1w⟩
  have G1 := G0.trans g1
  refine g_astore (l1 := [(5, aO (some p1)), (0, aO (some c)), (1, aI 4), (2, aI a), (3, aI b), (4, aI e)]) rfl rfl ?_
  refine g_aload_n rfl rfl ?_
  refine g_getR rfl (G1.cs.kd 0 (by omega) rfl) (G1.cs.rf 11 (by omega) rfl) ?_
  refine g_iload_n rfl rfl ?_
  refine g_callVO [aI b] [] rfl rfl rfl rfl (Nat.le_of_ble_eq_true rfl) (G1.cs.kd 7 (by omega) rfl) (t_triple (by omega) G1.ci (g1.xt G0.ci xt) ok b hb) ?_
  rintro _ h2 ⟨p2, rfl, g2, p2x, p2y, p2w, f2, wp2x, wp2y, wp2w⟩
  have G2 := G1.trans g2
  refine g_astore (l1 := [(6, aO (some p2)), (5, aO (some p1)), (0, aO (some c)), (1, aI 4), (2, aI a), (3, aI b), (4, aI e)]) rfl rfl ?_
  refine g_aload_n rfl rfl ?_
  refine g_getR rfl (G2.cs.kd 0 (by omega) rfl) (G2.cs.rf 11 (by omega) rfl) ?_
  refine g_iload rfl rfl ?_
  refine g_callVO [aI e] [] rfl rfl rfl rfl (Nat.le_of_ble_eq_true rfl) (G2.cs.kd 7 (by omega) rfl) (t_triple (by omega) G2.ci (g2.xt G1.ci (g1.xt G0.ci xt)) ok e he) ?_
  rintro _ h3 ⟨p3, rfl, g3, p3x, p3y, p3w, f3, wp3x, wp3y, wp3w⟩
  have G3 := G2.trans g3
  refine g_astore (l1 := [(7, aO (some p3)), (6, aO (some p2)), (5, aO (some p1)), (0, aO (some c)), (1, aI 4), (2, aI a), (3, aI b), (4, aI e)]) rfl rfl ?_
  refine g_iload_n rfl rfl ?_
  refine g_if_ne_t rfl (by omega) ?_
  refine g_aload_n rfl rfl ?_
  refine g_getR rfl (G3.cs.kd 0 (by omega) rfl) (G3.cs.rf 6 (by omega) rfl) ?_
  refine g_aload_n rfl rfl ?_
  refine g_getR rfl (G3.cs.kd 0 (by omega) rfl) (G3.cs.rf 6 (by omega) rfl) ?_
  refine g_aload rfl rfl ?_
  refine g_aload rfl rfl ?_
  refine g_callVO [aO (some p1), aO (some p2)] [aO (some (c + 6))] rfl rfl rfl rfl (Nat.le_of_ble_eq_true rfl) (G3.cs.kd 6 (by omega) rfl) (p_middle (by omega) G3.ci (show TB h3 c p1 (tpT S a) (20) from ⟨_, _, _, (g3.tf (g2.tf f1)), ((g3.wb (g2.wb wp1x)).up (by omega)), ((g3.wb (g2.wb wp1y)).up (by omega)), ((g3.wb (g2.wb wp1w)).up (by omega))⟩) (show TB h3 c p2 (tpT S b) (20) from ⟨_, _, _, (g3.tf f2), ((g3.wb wp2x).up (by omega)), ((g3.wb wp2y).up (by omega)), ((g3.wb wp2w).up (by omega))⟩) (by omega)) ?_
  rintro r4 h4 ⟨g4, q4⟩
  have G4 := G3.trans g4
  cases eS4 : p_middle_O (tpT S a) (tpT S b) with
  | none =>
    rw [eS4] at q4
    obtain rfl : r4 = none := q4
    refine g_aload_n rfl rfl ?_
    refine g_getR rfl (G4.cs.kd 0 (by omega) rfl) (G4.cs.rf 6 (by omega) rfl) ?_
    refine g_aload rfl rfl ?_
    refine g_aload rfl rfl ?_
    refine g_callVO [aO (some p2), aO (some p3)] [aO none, aO (some (c + 6))] rfl rfl rfl rfl (Nat.le_of_ble_eq_true rfl) (G4.cs.kd 6 (by omega) rfl) (p_middle (by omega) G4.ci (show TB h4 c p2 (tpT S b) (20) from ⟨_, _, _, (g4.tf (g3.tf f2)), ((g4.wb (g3.wb wp2x)).up (by omega)), ((g4.wb (g3.wb wp2y)).up (by omega)), ((g4.wb (g3.wb wp2w)).up (by omega))⟩) (show TB h4 c p3 (tpT S e) (20) from ⟨_, _, _, (g4.tf f3), ((g4.wb wp3x).up (by omega)), ((g4.wb wp3y).up (by omega)), ((g4.wb wp3w).up (by omega))⟩) (by omega)) ?_
    rintro r5 h5 ⟨g5, q5⟩
    have G5 := G4.trans g5
    cases eS5 : p_middle_O (tpT S b) (tpT S e) with
    | none =>
      rw [eS5] at q5
      obtain rfl : r5 = none := q5
      refine g_aload_n rfl rfl ?_
      refine g_getR rfl (G5.cs.kd 0 (by omega) rfl) (G5.cs.rf 6 (by omega) rfl) ?_
      refine g_aload rfl rfl ?_
      refine g_aload rfl rfl ?_
      refine g_callVO [aO (some p3), aO (some p1)] [aO none, aO none, aO (some (c + 6))] rfl rfl rfl rfl (Nat.le_of_ble_eq_true rfl) (G5.cs.kd 6 (by omega) rfl) (p_middle (by omega) G5.ci (show TB h5 c p3 (tpT S e) (20) from ⟨_, _, _, (g5.tf (g4.tf f3)), ((g5.wb (g4.wb wp3x)).up (by omega)), ((g5.wb (g4.wb wp3y)).up (by omega)), ((g5.wb (g4.wb wp3w)).up (by omega))⟩) (show TB h5 c p1 (tpT S a) (20) from ⟨_, _, _, (g5.tf (g4.tf (g3.tf (g2.tf f1)))), ((g5.wb (g4.wb (g3.wb (g2.wb wp1x)))).up (by omega)), ((g5.wb (g4.wb (g3.wb (g2.wb wp1y)))).up (by omega)), ((g5.wb (g4.wb (g3.wb (g2.wb wp1w)))).up (by omega))⟩) (by omega)) ?_
      rintro r6 h6 ⟨g6, q6⟩
      have G6 := G5.trans g6
      cases eS6 : p_middle_O (tpT S e) (tpT S a) with
      | none =>
        rw [eS6] at q6
        obtain rfl : r6 = none := q6
        refine g_callVO [aO none, aO none, aO none] [] rfl rfl rfl rfl (Nat.le_of_ble_eq_true rfl) (G6.cs.kd 6 (by omega) rfl) (p_thr_n1 (by omega) G6.ci none none) ?_
        rintro _ hx7 ⟨ehx7, rfl⟩
        rw [ehx7]
        clear ehx7 hx7
        refine g_aret rfl ?_
        refine ⟨G6.mono (by omega), ?_⟩
        unfold p_nine_O
        simp only [eS4, eS5, eS6]
        rfl
      | some P6 =>
        rw [eS6] at q6
        obtain ⟨p6, rfl, p6x, p6y, p6w, f6, wp6x, wp6y, wp6w⟩ := q6
        refine g_callVO [aO none, aO none, aO (some p6)] [] rfl rfl rfl rfl (Nat.le_of_ble_eq_true rfl) (G6.cs.kd 6 (by omega) rfl) (p_thr_n1 (by omega) G6.ci none (some p6)) ?_
        rintro _ hx8 ⟨ehx8, rfl⟩
        rw [ehx8]
        clear ehx8 hx8
        refine g_aret rfl ?_
        refine ⟨G6.mono (by omega), ?_⟩
        unfold p_nine_O
        simp only [eS4, eS5, eS6]
        rfl
    | some P5 =>
      rw [eS5] at q5
      obtain ⟨p5, rfl, p5x, p5y, p5w, f5, wp5x, wp5y, wp5w⟩ := q5
      refine g_aload_n rfl rfl ?_
      refine g_getR rfl (G5.cs.kd 0 (by omega) rfl) (G5.cs.rf 6 (by omega) rfl) ?_
      refine g_aload rfl rfl ?_
      refine g_aload rfl rfl ?_
      refine g_callVO [aO (some p3), aO (some p1)] [aO (some p5), aO none, aO (some (c + 6))] rfl rfl rfl rfl (Nat.le_of_ble_eq_true rfl) (G5.cs.kd 6 (by omega) rfl) (p_middle (by omega) G5.ci (show TB h5 c p3 (tpT S e) (20) from ⟨_, _, _, (g5.tf (g4.tf f3)), ((g5.wb (g4.wb wp3x)).up (by omega)), ((g5.wb (g4.wb wp3y)).up (by omega)), ((g5.wb (g4.wb wp3w)).up (by omega))⟩) (show TB h5 c p1 (tpT S a) (20) from ⟨_, _, _, (g5.tf (g4.tf (g3.tf (g2.tf f1)))), ((g5.wb (g4.wb (g3.wb (g2.wb wp1x)))).up (by omega)), ((g5.wb (g4.wb (g3.wb (g2.wb wp1y)))).up (by omega)), ((g5.wb (g4.wb (g3.wb (g2.wb wp1w)))).up (by omega))⟩) (by omega)) ?_
      rintro r9 h9 ⟨g9, q9⟩
      have G9 := G5.trans g9
      cases eS9 : p_middle_O (tpT S e) (tpT S a) with
      | none =>
        rw [eS9] at q9
        obtain rfl : r9 = none := q9
        refine g_callVO [aO none, aO (some p5), aO none] [] rfl rfl rfl rfl (Nat.le_of_ble_eq_true rfl) (G9.cs.kd 6 (by omega) rfl) (p_thr_n1 (by omega) G9.ci (some p5) none) ?_
        rintro _ hx10 ⟨ehx10, rfl⟩
        rw [ehx10]
        clear ehx10 hx10
        refine g_aret rfl ?_
        refine ⟨G9.mono (by omega), ?_⟩
        unfold p_nine_O
        simp only [eS4, eS5, eS9]
        rfl
      | some P9 =>
        rw [eS9] at q9
        obtain ⟨p9, rfl, p9x, p9y, p9w, f9, wp9x, wp9y, wp9w⟩ := q9
        refine g_callVO [aO none, aO (some p5), aO (some p9)] [] rfl rfl rfl rfl (Nat.le_of_ble_eq_true rfl) (G9.cs.kd 6 (by omega) rfl) (p_thr_n1 (by omega) G9.ci (some p5) (some p9)) ?_
        rintro _ hx11 ⟨ehx11, rfl⟩
        rw [ehx11]
        clear ehx11 hx11
        refine g_aret rfl ?_
        refine ⟨G9.mono (by omega), ?_⟩
        unfold p_nine_O
        simp only [eS4, eS5, eS9]
        rfl
  | some P4 =>
    rw [eS4] at q4
    obtain ⟨p4, rfl, p4x, p4y, p4w, f4, wp4x, wp4y, wp4w⟩ := q4
    refine g_aload_n rfl rfl ?_
    refine g_getR rfl (G4.cs.kd 0 (by omega) rfl) (G4.cs.rf 6 (by omega) rfl) ?_
    refine g_aload rfl rfl ?_
    refine g_aload rfl rfl ?_
    refine g_callVO [aO (some p2), aO (some p3)] [aO (some p4), aO (some (c + 6))] rfl rfl rfl rfl (Nat.le_of_ble_eq_true rfl) (G4.cs.kd 6 (by omega) rfl) (p_middle (by omega) G4.ci (show TB h4 c p2 (tpT S b) (20) from ⟨_, _, _, (g4.tf (g3.tf f2)), ((g4.wb (g3.wb wp2x)).up (by omega)), ((g4.wb (g3.wb wp2y)).up (by omega)), ((g4.wb (g3.wb wp2w)).up (by omega))⟩) (show TB h4 c p3 (tpT S e) (20) from ⟨_, _, _, (g4.tf f3), ((g4.wb wp3x).up (by omega)), ((g4.wb wp3y).up (by omega)), ((g4.wb wp3w).up (by omega))⟩) (by omega)) ?_
    rintro r12 h12 ⟨g12, q12⟩
    have G12 := G4.trans g12
    cases eS12 : p_middle_O (tpT S b) (tpT S e) with
    | none =>
      rw [eS12] at q12
      obtain rfl : r12 = none := q12
      refine g_aload_n rfl rfl ?_
      refine g_getR rfl (G12.cs.kd 0 (by omega) rfl) (G12.cs.rf 6 (by omega) rfl) ?_
      refine g_aload rfl rfl ?_
      refine g_aload rfl rfl ?_
      refine g_callVO [aO (some p3), aO (some p1)] [aO none, aO (some p4), aO (some (c + 6))] rfl rfl rfl rfl (Nat.le_of_ble_eq_true rfl) (G12.cs.kd 6 (by omega) rfl) (p_middle (by omega) G12.ci (show TB h12 c p3 (tpT S e) (20) from ⟨_, _, _, (g12.tf (g4.tf f3)), ((g12.wb (g4.wb wp3x)).up (by omega)), ((g12.wb (g4.wb wp3y)).up (by omega)), ((g12.wb (g4.wb wp3w)).up (by omega))⟩) (show TB h12 c p1 (tpT S a) (20) from ⟨_, _, _, (g12.tf (g4.tf (g3.tf (g2.tf f1)))), ((g12.wb (g4.wb (g3.wb (g2.wb wp1x)))).up (by omega)), ((g12.wb (g4.wb (g3.wb (g2.wb wp1y)))).up (by omega)), ((g12.wb (g4.wb (g3.wb (g2.wb wp1w)))).up (by omega))⟩) (by omega)) ?_
      rintro r13 h13 ⟨g13, q13⟩
      have G13 := G12.trans g13
      cases eS13 : p_middle_O (tpT S e) (tpT S a) with
      | none =>
        rw [eS13] at q13
        obtain rfl : r13 = none := q13
        refine g_callVO [aO (some p4), aO none, aO none] [] rfl rfl rfl rfl (Nat.le_of_ble_eq_true rfl) (G13.cs.kd 6 (by omega) rfl) (p_thr_n2 (by omega) G13.ci p4 none) ?_
        rintro _ hx14 ⟨ehx14, rfl⟩
        rw [ehx14]
        clear ehx14 hx14
        refine g_aret rfl ?_
        refine ⟨G13.mono (by omega), ?_⟩
        unfold p_nine_O
        simp only [eS4, eS12, eS13]
        rfl
      | some P13 =>
        rw [eS13] at q13
        obtain ⟨p13, rfl, p13x, p13y, p13w, f13, wp13x, wp13y, wp13w⟩ := q13
        refine g_callVO [aO (some p4), aO none, aO (some p13)] [] rfl rfl rfl rfl (Nat.le_of_ble_eq_true rfl) (G13.cs.kd 6 (by omega) rfl) (p_thr_n2 (by omega) G13.ci p4 (some p13)) ?_
        rintro _ hx15 ⟨ehx15, rfl⟩
        rw [ehx15]
        clear ehx15 hx15
        refine g_aret rfl ?_
        refine ⟨G13.mono (by omega), ?_⟩
        unfold p_nine_O
        simp only [eS4, eS12, eS13]
        rfl
    | some P12 =>
      rw [eS12] at q12
      obtain ⟨p12, rfl, p12x, p12y, p12w, f12, wp12x, wp12y, wp12w⟩ := q12
      refine g_aload_n rfl rfl ?_
      refine g_getR rfl (G12.cs.kd 0 (by omega) rfl) (G12.cs.rf 6 (by omega) rfl) ?_
      refine g_aload rfl rfl ?_
      refine g_aload rfl rfl ?_
      refine g_callVO [aO (some p3), aO (some p1)] [aO (some p12), aO (some p4), aO (some (c + 6))] rfl rfl rfl rfl (Nat.le_of_ble_eq_true rfl) (G12.cs.kd 6 (by omega) rfl) (p_middle (by omega) G12.ci (show TB h12 c p3 (tpT S e) (20) from ⟨_, _, _, (g12.tf (g4.tf f3)), ((g12.wb (g4.wb wp3x)).up (by omega)), ((g12.wb (g4.wb wp3y)).up (by omega)), ((g12.wb (g4.wb wp3w)).up (by omega))⟩) (show TB h12 c p1 (tpT S a) (20) from ⟨_, _, _, (g12.tf (g4.tf (g3.tf (g2.tf f1)))), ((g12.wb (g4.wb (g3.wb (g2.wb wp1x)))).up (by omega)), ((g12.wb (g4.wb (g3.wb (g2.wb wp1y)))).up (by omega)), ((g12.wb (g4.wb (g3.wb (g2.wb wp1w)))).up (by omega))⟩) (by omega)) ?_
      rintro r16 h16 ⟨g16, q16⟩
      have G16 := G12.trans g16
      cases eS16 : p_middle_O (tpT S e) (tpT S a) with
      | none =>
        rw [eS16] at q16
        obtain rfl : r16 = none := q16
        refine g_callVO [aO (some p4), aO (some p12), aO none] [] rfl rfl rfl rfl (Nat.le_of_ble_eq_true rfl) (G16.cs.kd 6 (by omega) rfl) (p_thr_n3 (by omega) G16.ci p4 p12) ?_
        rintro _ hx17 ⟨ehx17, rfl⟩
        rw [ehx17]
        clear ehx17 hx17
        refine g_aret rfl ?_
        refine ⟨G16.mono (by omega), ?_⟩
        unfold p_nine_O
        simp only [eS4, eS12, eS16]
        rfl
      | some P16 =>
        rw [eS16] at q16
        obtain ⟨p16, rfl, p16x, p16y, p16w, f16, wp16x, wp16y, wp16w⟩ := q16
        refine g_callVO [aO (some p4), aO (some p12), aO (some p16)] [] rfl rfl rfl rfl (Nat.le_of_ble_eq_true rfl) (G16.cs.kd 6 (by omega) rfl) (p_thr (by omega) G16.ci (show TB h16 c p4 P4 (41) from ⟨_, _, _, (g16.tf (g12.tf f4)), ((g16.wb (g12.wb wp4x)).up (by omega)), ((g16.wb (g12.wb wp4y)).up (by omega)), ((g16.wb (g12.wb wp4w)).up (by omega))⟩) (show TB h16 c p12 P12 (41) from ⟨_, _, _, (g16.tf f12), ((g16.wb wp12x).up (by omega)), ((g16.wb wp12y).up (by omega)), ((g16.wb wp12w).up (by omega))⟩) (show TB h16 c p16 P16 (41) from ⟨_, _, _, f16, (wp16x.up (by omega)), (wp16y.up (by omega)), (wp16w.up (by omega))⟩) (by omega)) ?_
        rintro r18 h18 ⟨g18, q18⟩
        have G18 := G16.trans g18
        cases eS18 : p_thr_O P4 P12 P16 with
        | none =>
          rw [eS18] at q18
          obtain rfl : r18 = none := q18
          refine g_aret rfl ?_
          refine ⟨G18.mono (by omega), ?_⟩
          unfold p_nine_O
          simp only [eS4, eS12, eS16, eS18]
          rfl
        | some P18 =>
          rw [eS18] at q18
          obtain ⟨p18, rfl, p18k, p18a, p18b, p18e, f18, wp18k, wp18a, wp18b, wp18e⟩ := q18
          refine g_aret rfl ?_
          refine ⟨G18.mono (by omega), ?_⟩
          unfold p_nine_O
          simp only [eS4, eS12, eS16, eS18]
          exact ⟨p18, rfl, _, _, _, _, f18, (wp18k.up (by omega)), (wp18a.up (by omega)), (wp18b.up (by omega)), (wp18e.up (by omega))⟩
set_option maxHeartbeats 4000000 in
theorem f_ms0 {w : aW} {d : Nat} (hd : 7 ≤ d) {h : aH} {c : Nat} (ci : CI h c) {S : aS} (xt : XT h c S) (ok : OkT S) (xn : XN (hV h) c S) (okn : OkN S) (a : Int) (ha : 0 ≤ a ∧ a < sT S) (b : Int) (e : Int)  : WP w d 234 [aO (some c), aI 0, aI a, aI b, aI e] h (RO (fun r h1 => Gr h h1 c 4 ∧ OT h1 c r (if (tpT S a).2.2 = 0 then none else some (tpT S a)) (20))) := by
  obtain ⟨d, rfl⟩ : ∃ d1, d = d1 + 1 := ⟨d - 1, by omega⟩
  refine WP.enter (cd := cd_X11_measured) rfl ?_
  have G0 := Gr.refl ci
  have hls : largs 0 [aO (some c), aI 0, aI a, aI b, aI e] = [(0, aO (some c)), (1, aI 0), (2, aI a), (3, aI b), (4, aI e)] := rfl
  rw [hls]
  clear hls
  refine g_aload_n rfl rfl ?_
  refine g_getR rfl (G0.cs.kd 0 (by omega) rfl) (G0.cs.rf 11 (by omega) rfl) ?_
  refine g_iload_n rfl rfl ?_
  refine g_callVO [aI a] [] rfl rfl rfl rfl (Nat.le_of_ble_eq_true rfl) (G0.cs.kd 7 (by omega) rfl) (t_triple (by omega) G0.ci xt ok a ha) ?_
  rintro _ h1 ⟨p1, rfl, g1, p1x, p1y, p1w, f1, wp1x, wp1y, wp1w⟩
  have G1 := G0.trans g1
  refine g_astore (l1 := [(5, aO (some p1)), (0, aO (some c)), (1, aI 0), (2, aI a), (3, aI b), (4, aI e)]) rfl rfl ?_
  refine g_aload_n rfl rfl ?_
  refine g_getR rfl (G1.cs.kd 0 (by omega) rfl) (G1.cs.rf 6 (by omega) rfl) ?_
  refine g_aload rfl rfl ?_
  refine g_callVI [aO (some p1)] [] rfl rfl rfl rfl (Nat.le_of_ble_eq_true rfl) (G1.cs.kd 6 (by omega) rfl) (p_isFar (by omega) G1.ci (show TB h1 c p1 (tpT S a) (20) from ⟨_, _, _, f1, (wp1x.up (by omega)), (wp1y.up (by omega)), (wp1w.up (by omega))⟩)) ?_
  rintro _ hx2 ⟨ehx2, rfl⟩
  rw [ehx2]
  clear ehx2 hx2
  refine g_b_eq rfl (fun c19 => ?_) (fun c19 => ?_)
  · skip
    refine g_iload_n rfl rfl ?_
    refine g_tsw (t := 64) rfl (by rfl) ?_
    refine g_aload rfl rfl ?_
    refine g_aret rfl ?_
    refine ⟨G1.mono (by omega), ?_⟩
    first
      | rw [if_neg (by assumption), rfl]
      | rw [if_neg (by assumption)]
    exact ⟨p1, rfl, _, _, _, f1, (wp1x.up (by omega)), (wp1y.up (by omega)), (wp1w.up (by omega))⟩
  · skip
    refine g_null rfl ?_
    refine g_aret rfl ?_
    refine ⟨G1.mono (by omega), ?_⟩
    first
      | (rw [if_pos (by assumption)]; rfl)
      | (rw [if_neg (by assumption), rfl]; rfl)
set_option maxHeartbeats 4000000 in
theorem f_ms1 {w : aW} {d : Nat} (hd : 7 ≤ d) {h : aH} {c : Nat} (ci : CI h c) {S : aS} (xt : XT h c S) (ok : OkT S) (xn : XN (hV h) c S) (okn : OkN S) (a : Int) (ha : 0 ≤ a ∧ a < sT S) (b : Int) (e : Int)  : WP w d 234 [aO (some c), aI 1, aI a, aI b, aI e] h (RO (fun r h1 => Gr h h1 c 5 ∧ OT h1 c r (if (tpT S a).2.2 = 0 then none else some ((tpT S a).2.1, (tpT S a).2.1, (tpT S a).2.2)) (20))) := by
  obtain ⟨d, rfl⟩ : ∃ d1, d = d1 + 1 := ⟨d - 1, by omega⟩
  refine WP.enter (cd := cd_X11_measured) rfl ?_
  have G0 := Gr.refl ci
  have hls : largs 0 [aO (some c), aI 1, aI a, aI b, aI e] = [(0, aO (some c)), (1, aI 1), (2, aI a), (3, aI b), (4, aI e)] := rfl
  rw [hls]
  clear hls
  refine g_aload_n rfl rfl ?_
  refine g_getR rfl (G0.cs.kd 0 (by omega) rfl) (G0.cs.rf 11 (by omega) rfl) ?_
  refine g_iload_n rfl rfl ?_
  refine g_callVO [aI a] [] rfl rfl rfl rfl (Nat.le_of_ble_eq_true rfl) (G0.cs.kd 7 (by omega) rfl) (t_triple (by omega) G0.ci xt ok a ha) ?_
  rintro _ h1 ⟨p1, rfl, g1, p1x, p1y, p1w, f1, wp1x, wp1y, wp1w⟩
  have G1 := G0.trans g1
  refine g_astore (l1 := [(5, aO (some p1)), (0, aO (some c)), (1, aI 1), (2, aI a), (3, aI b), (4, aI e)]) rfl rfl ?_
  refine g_aload_n rfl rfl ?_
  refine g_getR rfl (G1.cs.kd 0 (by omega) rfl) (G1.cs.rf 6 (by omega) rfl) ?_
  refine g_aload rfl rfl ?_
  refine g_callVI [aO (some p1)] [] rfl rfl rfl rfl (Nat.le_of_ble_eq_true rfl) (G1.cs.kd 6 (by omega) rfl) (p_isFar (by omega) G1.ci (show TB h1 c p1 (tpT S a) (20) from ⟨_, _, _, f1, (wp1x.up (by omega)), (wp1y.up (by omega)), (wp1w.up (by omega))⟩)) ?_
  rintro _ hx2 ⟨ehx2, rfl⟩
  rw [ehx2]
  clear ehx2 hx2
  refine g_b_eq rfl (fun c19 => ?_) (fun c19 => ?_)
  · skip
    refine g_iload_n rfl rfl ?_
    refine g_tsw (t := 67) rfl (by rfl) ?_
    refine g_new rfl ?_
    obtain ⟨g3, ob3⟩ := Gr.mk (k := 19) (m := 3) G1.ci (by decide) (by decide)
    obtain ⟨t3, et3⟩ : ∃ t, t = hz h1 := ⟨_, rfl⟩
    obtain ⟨h3, eh3⟩ : ∃ hq9, hq9 = hnew h1 19 3 := ⟨_, rfl⟩
    rw [← eh3, ← et3] at ob3
    rw [← eh3] at g3
    refine g_hp (h2 := h3) eh3.symm ?_
    refine g_top (v2 := aO (some t3)) (by rw [et3]) ?_
    have G3 := G1.trans g3
    refine g_dup rfl rfl ?_
    refine g_aload rfl rfl ?_
    refine g_getR rfl (g3.tf f1).1.2.2 (g3.tf f1).2.2.1 ?_
    refine g_aload rfl rfl ?_
    refine g_getR rfl (g3.tf f1).1.2.2 (g3.tf f1).2.2.1 ?_
    refine g_aload rfl rfl ?_
    refine g_getR rfl (g3.tf f1).1.2.2 (g3.tf f1).2.2.2 ?_
    refine g_callIN [aO (some p1y), aO (some p1y), aO (some p1w)] [aO (some t3)] rfl (by decide) rfl rfl rfl (Nat.le_of_ble_eq_true rfl) ob3.2.2 (k_Triple (by omega) ob3.2.2 ob3.1 p1y p1y p1w) ?_
    rintro _ rfl
    have c4 := ct3 (P := ((tpT S a).2.1, (tpT S a).2.1, (tpT S a).2.2)) (k := 20) G3 ob3 (by have := G1.2.1.1; omega) ((g3.wb wp1y).up (by omega)) ((g3.wb wp1y).up (by omega)) ((g3.wb wp1w).up (by omega))
    have fp1_4 := c4.2.2.2.1 _ _ _ _ (by have := f1.1.1; omega) (g3.tf f1)
    obtain ⟨h4, eh4⟩ : ∃ hq9, hq9 = pt3 h3 t3 p1y p1y p1w := ⟨_, rfl⟩
    refine g_hp (h2 := h4) (by rw [eh4]; rfl) ?_
    rw [← eh4] at c4 fp1_4
    have G4 := c4.1
    obtain ⟨q4x, q4y, q4w, f4, wq4x, wq4y, wq4w⟩ := c4.2.1
    refine g_aret rfl ?_
    refine ⟨G4.mono (by omega), ?_⟩
    first
      | rw [if_neg (by assumption), rfl]
      | rw [if_neg (by assumption)]
    exact ⟨t3, rfl, _, _, _, f4, (wq4x.up (by omega)), (wq4y.up (by omega)), (wq4w.up (by omega))⟩
  · skip
    refine g_null rfl ?_
    refine g_aret rfl ?_
    refine ⟨G1.mono (by omega), ?_⟩
    first
      | (rw [if_pos (by assumption)]; rfl)
      | (rw [if_neg (by assumption), rfl]; rfl)
set_option maxHeartbeats 4000000 in
theorem f_ms2 {w : aW} {d : Nat} (hd : 7 ≤ d) {h : aH} {c : Nat} (ci : CI h c) {S : aS} (xt : XT h c S) (ok : OkT S) (xn : XN (hV h) c S) (okn : OkN S) (a : Int) (ha : 0 ≤ a ∧ a < sT S) (b : Int) (hb : 0 ≤ b ∧ b < sT S) (e : Int)  : WP w d 234 [aO (some c), aI 2, aI a, aI b, aI e] h (RO (fun r h1 => Gr h h1 c 16 ∧ OT h1 c r (p_way_O (tpT S a) (tpT S b)) (83))) := by
  obtain ⟨d, rfl⟩ : ∃ d1, d = d1 + 1 := ⟨d - 1, by omega⟩
  refine WP.enter (cd := cd_X11_measured) rfl ?_
  have G0 := Gr.refl ci
  have hls : largs 0 [aO (some c), aI 2, aI a, aI b, aI e] = [(0, aO (some c)), (1, aI 2), (2, aI a), (3, aI b), (4, aI e)] := rfl
  rw [hls]
  clear hls
  refine g_aload_n rfl rfl ?_
  refine g_getR rfl (G0.cs.kd 0 (by omega) rfl) (G0.cs.rf 11 (by omega) rfl) ?_
  refine g_iload_n rfl rfl ?_
  refine g_callVO [aI a] [] rfl rfl rfl rfl (Nat.le_of_ble_eq_true rfl) (G0.cs.kd 7 (by omega) rfl) (t_triple (by omega) G0.ci xt ok a ha) ?_
  rintro _ h1 ⟨p1, rfl, g1, p1x, p1y, p1w, f1, wp1x, wp1y, wp1w⟩
  have G1 := G0.trans g1
  refine g_astore (l1 := [(5, aO (some p1)), (0, aO (some c)), (1, aI 2), (2, aI a), (3, aI b), (4, aI e)]) rfl rfl ?_
  refine g_aload_n rfl rfl ?_
  refine g_getR rfl (G1.cs.kd 0 (by omega) rfl) (G1.cs.rf 6 (by omega) rfl) ?_
  refine g_aload rfl rfl ?_
  refine g_callVI [aO (some p1)] [] rfl rfl rfl rfl (Nat.le_of_ble_eq_true rfl) (G1.cs.kd 6 (by omega) rfl) (p_isFar (by omega) G1.ci (show TB h1 c p1 (tpT S a) (20) from ⟨_, _, _, f1, (wp1x.up (by omega)), (wp1y.up (by omega)), (wp1w.up (by omega))⟩)) ?_
  rintro _ hx2 ⟨ehx2, rfl⟩
  rw [ehx2]
  clear ehx2 hx2
  refine g_b_eq rfl (fun c19 => ?_) (fun c19 => ?_)
  · skip
    refine g_iload_n rfl rfl ?_
    refine g_tsw (t := 90) rfl (by rfl) ?_
    refine g_aload_n rfl rfl ?_
    refine g_getR rfl (G1.cs.kd 0 (by omega) rfl) (G1.cs.rf 6 (by omega) rfl) ?_
    refine g_aload rfl rfl ?_
    refine g_aload_n rfl rfl ?_
    refine g_getR rfl (G1.cs.kd 0 (by omega) rfl) (G1.cs.rf 11 (by omega) rfl) ?_
    refine g_iload_n rfl rfl ?_
    refine g_callVO [aI b] [aO (some p1), aO (some (c + 6))] rfl rfl rfl rfl (Nat.le_of_ble_eq_true rfl) (G1.cs.kd 7 (by omega) rfl) (t_triple (by omega) G1.ci (g1.xt G0.ci xt) ok b hb) ?_
    rintro _ h3 ⟨p3, rfl, g3, p3x, p3y, p3w, f3, wp3x, wp3y, wp3w⟩
    have G3 := G1.trans g3
    refine g_callVO [aO (some p1), aO (some p3)] [] rfl rfl rfl rfl (Nat.le_of_ble_eq_true rfl) (G3.cs.kd 6 (by omega) rfl) (p_way (by omega) G3.ci (show TB h3 c p1 (tpT S a) (20) from ⟨_, _, _, (g3.tf f1), ((g3.wb wp1x).up (by omega)), ((g3.wb wp1y).up (by omega)), ((g3.wb wp1w).up (by omega))⟩) (show TB h3 c p3 (tpT S b) (20) from ⟨_, _, _, f3, (wp3x.up (by omega)), (wp3y.up (by omega)), (wp3w.up (by omega))⟩)) ?_
    rintro r4 h4 ⟨g4, q4⟩
    have G4 := G3.trans g4
    cases eS4 : p_way_O (tpT S a) (tpT S b) with
    | none =>
      rw [eS4] at q4
      obtain rfl : r4 = none := q4
      refine g_aret rfl ?_
      refine ⟨G4.mono (by omega), ?_⟩
      first
        | rfl
        | (unfold p_way_O; rw [if_pos (Or.inl (by assumption))]; rfl)
    | some P4 =>
      rw [eS4] at q4
      obtain ⟨p4, rfl, p4x, p4y, p4w, f4, wp4x, wp4y, wp4w⟩ := q4
      refine g_aret rfl ?_
      refine ⟨G4.mono (by omega), ?_⟩
      skip
      exact ⟨p4, rfl, _, _, _, f4, (wp4x.up (by omega)), (wp4y.up (by omega)), (wp4w.up (by omega))⟩
  · skip
    refine g_null rfl ?_
    refine g_aret rfl ?_
    refine ⟨G1.mono (by omega), ?_⟩
    first
      | rfl
      | (unfold p_way_O; rw [if_pos (Or.inl (by assumption))]; rfl)
set_option maxHeartbeats 4000000 in
theorem f_ms5 {w : aW} {d : Nat} (hd : 7 ≤ d) {h : aH} {c : Nat} (ci : CI h c) {S : aS} (xt : XT h c S) (ok : OkT S) (xn : XN (hV h) c S) (okn : OkN S) (a : Int) (ha : 0 ≤ a ∧ a < sT S) (b : Int) (hb : 0 ≤ b ∧ b < sT S) (e : Int) (he : 0 ≤ e ∧ e < sT S)  : WP w d 234 [aO (some c), aI 5, aI a, aI b, aI e] h (RO (fun r h1 => Gr h h1 c 25 ∧ OT h1 c r (p_area_O (tpT S a) (tpT S b) (tpT S e)) (84))) := by
  obtain ⟨d, rfl⟩ : ∃ d1, d = d1 + 1 := ⟨d - 1, by omega⟩
  refine WP.enter (cd := cd_X11_measured) rfl ?_
  have G0 := Gr.refl ci
  have hls : largs 0 [aO (some c), aI 5, aI a, aI b, aI e] = [(0, aO (some c)), (1, aI 5), (2, aI a), (3, aI b), (4, aI e)] := rfl
  rw [hls]
  clear hls
  refine g_aload_n rfl rfl ?_
  refine g_getR rfl (G0.cs.kd 0 (by omega) rfl) (G0.cs.rf 11 (by omega) rfl) ?_
  refine g_iload_n rfl rfl ?_
  refine g_callVO [aI a] [] rfl rfl rfl rfl (Nat.le_of_ble_eq_true rfl) (G0.cs.kd 7 (by omega) rfl) (t_triple (by omega) G0.ci xt ok a ha) ?_
  rintro _ h1 ⟨p1, rfl, g1, p1x, p1y, p1w, f1, wp1x, wp1y, wp1w⟩
  have G1 := G0.trans g1
  refine g_astore (l1 := [(5, aO (some p1)), (0, aO (some c)), (1, aI 5), (2, aI a), (3, aI b), (4, aI e)]) rfl rfl ?_
  refine g_aload_n rfl rfl ?_
  refine g_getR rfl (G1.cs.kd 0 (by omega) rfl) (G1.cs.rf 6 (by omega) rfl) ?_
  refine g_aload rfl rfl ?_
  refine g_callVI [aO (some p1)] [] rfl rfl rfl rfl (Nat.le_of_ble_eq_true rfl) (G1.cs.kd 6 (by omega) rfl) (p_isFar (by omega) G1.ci (show TB h1 c p1 (tpT S a) (20) from ⟨_, _, _, f1, (wp1x.up (by omega)), (wp1y.up (by omega)), (wp1w.up (by omega))⟩)) ?_
  rintro _ hx2 ⟨ehx2, rfl⟩
  rw [ehx2]
  clear ehx2 hx2
  refine g_b_eq rfl (fun c19 => ?_) (fun c19 => ?_)
  · skip
    refine g_iload_n rfl rfl ?_
    refine g_tsw (t := 108) rfl (by rfl) ?_
    refine g_aload_n rfl rfl ?_
    refine g_getR rfl (G1.cs.kd 0 (by omega) rfl) (G1.cs.rf 6 (by omega) rfl) ?_
    refine g_aload rfl rfl ?_
    refine g_aload_n rfl rfl ?_
    refine g_getR rfl (G1.cs.kd 0 (by omega) rfl) (G1.cs.rf 11 (by omega) rfl) ?_
    refine g_iload_n rfl rfl ?_
    refine g_callVO [aI b] [aO (some p1), aO (some (c + 6))] rfl rfl rfl rfl (Nat.le_of_ble_eq_true rfl) (G1.cs.kd 7 (by omega) rfl) (t_triple (by omega) G1.ci (g1.xt G0.ci xt) ok b hb) ?_
    rintro _ h3 ⟨p3, rfl, g3, p3x, p3y, p3w, f3, wp3x, wp3y, wp3w⟩
    have G3 := G1.trans g3
    refine g_aload_n rfl rfl ?_
    refine g_getR rfl (G3.cs.kd 0 (by omega) rfl) (G3.cs.rf 11 (by omega) rfl) ?_
    refine g_iload rfl rfl ?_
    refine g_callVO [aI e] [aO (some p3), aO (some p1), aO (some (c + 6))] rfl rfl rfl rfl (Nat.le_of_ble_eq_true rfl) (G3.cs.kd 7 (by omega) rfl) (t_triple (by omega) G3.ci (g3.xt G1.ci (g1.xt G0.ci xt)) ok e he) ?_
    rintro _ h4 ⟨p4, rfl, g4, p4x, p4y, p4w, f4, wp4x, wp4y, wp4w⟩
    have G4 := G3.trans g4
    refine g_callVO [aO (some p1), aO (some p3), aO (some p4)] [] rfl rfl rfl rfl (Nat.le_of_ble_eq_true rfl) (G4.cs.kd 6 (by omega) rfl) (p_area (by omega) G4.ci (show TB h4 c p1 (tpT S a) (20) from ⟨_, _, _, (g4.tf (g3.tf f1)), ((g4.wb (g3.wb wp1x)).up (by omega)), ((g4.wb (g3.wb wp1y)).up (by omega)), ((g4.wb (g3.wb wp1w)).up (by omega))⟩) (show TB h4 c p3 (tpT S b) (20) from ⟨_, _, _, (g4.tf f3), ((g4.wb wp3x).up (by omega)), ((g4.wb wp3y).up (by omega)), ((g4.wb wp3w).up (by omega))⟩) (show TB h4 c p4 (tpT S e) (20) from ⟨_, _, _, f4, (wp4x.up (by omega)), (wp4y.up (by omega)), (wp4w.up (by omega))⟩)) ?_
    rintro r5 h5 ⟨g5, q5⟩
    have G5 := G4.trans g5
    cases eS5 : p_area_O (tpT S a) (tpT S b) (tpT S e) with
    | none =>
      rw [eS5] at q5
      obtain rfl : r5 = none := q5
      refine g_aret rfl ?_
      refine ⟨G5.mono (by omega), ?_⟩
      first
        | rfl
        | (unfold p_area_O; rw [if_pos (Or.inl (by assumption))]; rfl)
    | some P5 =>
      rw [eS5] at q5
      obtain ⟨p5, rfl, p5x, p5y, p5w, f5, wp5x, wp5y, wp5w⟩ := q5
      refine g_aret rfl ?_
      refine ⟨G5.mono (by omega), ?_⟩
      skip
      exact ⟨p5, rfl, _, _, _, f5, (wp5x.up (by omega)), (wp5y.up (by omega)), (wp5w.up (by omega))⟩
  · skip
    refine g_null rfl ?_
    refine g_aret rfl ?_
    refine ⟨G1.mono (by omega), ?_⟩
    first
      | rfl
      | (unfold p_area_O; rw [if_pos (Or.inl (by assumption))]; rfl)
set_option maxHeartbeats 4000000 in
theorem f_ms6 {w : aW} {d : Nat} (hd : 7 ≤ d) {h : aH} {c : Nat} (ci : CI h c) {S : aS} (xt : XT h c S) (ok : OkT S) (xn : XN (hV h) c S) (okn : OkN S) (a : Int) (ha : 0 ≤ a ∧ a < sT S) (b : Int) (hb : 0 ≤ b ∧ b < sT S) (e : Int)  : WP w d 234 [aO (some c), aI 6, aI a, aI b, aI e] h (RO (fun r h1 => Gr h h1 c 16 ∧ OT h1 c r (p_wayL_O (tpT S a) (tpT S b)) (84))) := by
  obtain ⟨d, rfl⟩ : ∃ d1, d = d1 + 1 := ⟨d - 1, by omega⟩
  refine WP.enter (cd := cd_X11_measured) rfl ?_
  have G0 := Gr.refl ci
  have hls : largs 0 [aO (some c), aI 6, aI a, aI b, aI e] = [(0, aO (some c)), (1, aI 6), (2, aI a), (3, aI b), (4, aI e)] := rfl
  rw [hls]
  clear hls
  refine g_aload_n rfl rfl ?_
  refine g_getR rfl (G0.cs.kd 0 (by omega) rfl) (G0.cs.rf 11 (by omega) rfl) ?_
  refine g_iload_n rfl rfl ?_
  refine g_callVO [aI a] [] rfl rfl rfl rfl (Nat.le_of_ble_eq_true rfl) (G0.cs.kd 7 (by omega) rfl) (t_triple (by omega) G0.ci xt ok a ha) ?_
  rintro _ h1 ⟨p1, rfl, g1, p1x, p1y, p1w, f1, wp1x, wp1y, wp1w⟩
  have G1 := G0.trans g1
  refine g_astore (l1 := [(5, aO (some p1)), (0, aO (some c)), (1, aI 6), (2, aI a), (3, aI b), (4, aI e)]) rfl rfl ?_
  refine g_aload_n rfl rfl ?_
  refine g_getR rfl (G1.cs.kd 0 (by omega) rfl) (G1.cs.rf 6 (by omega) rfl) ?_
  refine g_aload rfl rfl ?_
  refine g_callVI [aO (some p1)] [] rfl rfl rfl rfl (Nat.le_of_ble_eq_true rfl) (G1.cs.kd 6 (by omega) rfl) (p_isFar (by omega) G1.ci (show TB h1 c p1 (tpT S a) (20) from ⟨_, _, _, f1, (wp1x.up (by omega)), (wp1y.up (by omega)), (wp1w.up (by omega))⟩)) ?_
  rintro _ hx2 ⟨ehx2, rfl⟩
  rw [ehx2]
  clear ehx2 hx2
  refine g_b_eq rfl (fun c19 => ?_) (fun c19 => ?_)
  · skip
    refine g_iload_n rfl rfl ?_
    refine g_tsw (t := 135) rfl (by rfl) ?_
    refine g_aload_n rfl rfl ?_
    refine g_getR rfl (G1.cs.kd 0 (by omega) rfl) (G1.cs.rf 6 (by omega) rfl) ?_
    refine g_aload rfl rfl ?_
    refine g_aload_n rfl rfl ?_
    refine g_getR rfl (G1.cs.kd 0 (by omega) rfl) (G1.cs.rf 11 (by omega) rfl) ?_
    refine g_iload_n rfl rfl ?_
    refine g_callVO [aI b] [aO (some p1), aO (some (c + 6))] rfl rfl rfl rfl (Nat.le_of_ble_eq_true rfl) (G1.cs.kd 7 (by omega) rfl) (t_triple (by omega) G1.ci (g1.xt G0.ci xt) ok b hb) ?_
    rintro _ h3 ⟨p3, rfl, g3, p3x, p3y, p3w, f3, wp3x, wp3y, wp3w⟩
    have G3 := G1.trans g3
    refine g_callVO [aO (some p1), aO (some p3)] [] rfl rfl rfl rfl (Nat.le_of_ble_eq_true rfl) (G3.cs.kd 6 (by omega) rfl) (p_wayL (by omega) G3.ci (show TB h3 c p1 (tpT S a) (20) from ⟨_, _, _, (g3.tf f1), ((g3.wb wp1x).up (by omega)), ((g3.wb wp1y).up (by omega)), ((g3.wb wp1w).up (by omega))⟩) (show TB h3 c p3 (tpT S b) (20) from ⟨_, _, _, f3, (wp3x.up (by omega)), (wp3y.up (by omega)), (wp3w.up (by omega))⟩)) ?_
    rintro r4 h4 ⟨g4, q4⟩
    have G4 := G3.trans g4
    cases eS4 : p_wayL_O (tpT S a) (tpT S b) with
    | none =>
      rw [eS4] at q4
      obtain rfl : r4 = none := q4
      refine g_aret rfl ?_
      refine ⟨G4.mono (by omega), ?_⟩
      first
        | rfl
        | (unfold p_wayL_O; rw [if_pos (Or.inl (by assumption))]; rfl)
    | some P4 =>
      rw [eS4] at q4
      obtain ⟨p4, rfl, p4x, p4y, p4w, f4, wp4x, wp4y, wp4w⟩ := q4
      refine g_aret rfl ?_
      refine ⟨G4.mono (by omega), ?_⟩
      skip
      exact ⟨p4, rfl, _, _, _, f4, (wp4x.up (by omega)), (wp4y.up (by omega)), (wp4w.up (by omega))⟩
  · skip
    refine g_null rfl ?_
    refine g_aret rfl ?_
    refine ⟨G1.mono (by omega), ?_⟩
    first
      | rfl
      | (unfold p_wayL_O; rw [if_pos (Or.inl (by assumption))]; rfl)
set_option maxHeartbeats 4000000 in
theorem f_mr3 {w : aW} {d : Nat} (hd : 7 ≤ d) {h : aH} {c : Nat} (ci : CI h c) {S : aS} (xt : XT h c S) (ok : OkT S) (xn : XN (hV h) c S) (okn : OkN S) (a : Int) (ha : 0 ≤ a ∧ a < sT S) (b : Int) (hb : 0 ≤ b ∧ b < sT S)  : WP w d 235 [aO (some c), aI 3, aI a, aI b] h (RO (fun r h1 => Gr h h1 c 17 ∧ OT h1 c r (if (tpT S a).2.2 = 0 then none else some (p_pow_S (tpT S a) (tpR S b))) (223))) := by
  obtain ⟨d, rfl⟩ : ∃ d1, d = d1 + 1 := ⟨d - 1, by omega⟩
  refine WP.enter (cd := cd_X11_measuredInRing) rfl ?_
  have G0 := Gr.refl ci
  have hls : largs 0 [aO (some c), aI 3, aI a, aI b] = [(0, aO (some c)), (1, aI 3), (2, aI a), (3, aI b)] := rfl
  rw [hls]
  clear hls
  refine g_iload_n rfl rfl ?_
  refine g_iconst rfl ?_
  refine g_icmp_ne_t rfl (by omega) ?_
  refine g_aload_n rfl rfl ?_
  refine g_getR rfl (G0.cs.kd 0 (by omega) rfl) (G0.cs.rf 11 (by omega) rfl) ?_
  refine g_iload_n rfl rfl ?_
  refine g_callVO [aI a] [] rfl rfl rfl rfl (Nat.le_of_ble_eq_true rfl) (G0.cs.kd 7 (by omega) rfl) (t_triple (by omega) G0.ci xt ok a ha) ?_
  rintro _ h1 ⟨p1, rfl, g1, p1x, p1y, p1w, f1, wp1x, wp1y, wp1w⟩
  have G1 := G0.trans g1
  refine g_astore (l1 := [(4, aO (some p1)), (0, aO (some c)), (1, aI 3), (2, aI a), (3, aI b)]) rfl rfl ?_
  refine g_aload_n rfl rfl ?_
  refine g_getR rfl (G1.cs.kd 0 (by omega) rfl) (G1.cs.rf 6 (by omega) rfl) ?_
  refine g_aload rfl rfl ?_
  refine g_callVI [aO (some p1)] [] rfl rfl rfl rfl (Nat.le_of_ble_eq_true rfl) (G1.cs.kd 6 (by omega) rfl) (p_isFar (by omega) G1.ci (show TB h1 c p1 (tpT S a) (20) from ⟨_, _, _, f1, (wp1x.up (by omega)), (wp1y.up (by omega)), (wp1w.up (by omega))⟩)) ?_
  rintro _ hx2 ⟨ehx2, rfl⟩
  rw [ehx2]
  clear ehx2 hx2
  refine g_b_eq rfl (fun c40 => ?_) (fun c40 => ?_)
  · skip
    refine g_aload_n rfl rfl ?_
    refine g_getR rfl (G1.cs.kd 0 (by omega) rfl) (G1.cs.rf 6 (by omega) rfl) ?_
    refine g_aload rfl rfl ?_
    refine g_aload_n rfl rfl ?_
    refine g_getR rfl (G1.cs.kd 0 (by omega) rfl) (G1.cs.rf 11 (by omega) rfl) ?_
    refine g_iload_n rfl rfl ?_
    refine g_callVO [aI b] [aO (some p1), aO (some (c + 6))] rfl rfl rfl rfl (Nat.le_of_ble_eq_true rfl) (G1.cs.kd 7 (by omega) rfl) (t_ring (by omega) G1.ci (g1.xt G0.ci xt) ok b hb) ?_
    rintro _ h3 ⟨p3, rfl, g3, p3k, p3a, p3b, p3e, f3, wp3k, wp3a, wp3b, wp3e⟩
    have G3 := G1.trans g3
    refine g_callVO [aO (some p1), aO (some p3)] [] rfl rfl rfl rfl (Nat.le_of_ble_eq_true rfl) (G3.cs.kd 6 (by omega) rfl) (p_pow (by omega) G3.ci (show TB h3 c p1 (tpT S a) (20) from ⟨_, _, _, (g3.tf f1), ((g3.wb wp1x).up (by omega)), ((g3.wb wp1y).up (by omega)), ((g3.wb wp1w).up (by omega))⟩) (show QB h3 c p3 (tpR S b) (20) from ⟨_, _, _, _, f3, (wp3k.up (by omega)), (wp3a.up (by omega)), (wp3b.up (by omega)), (wp3e.up (by omega))⟩)) ?_
    rintro _ h4 ⟨p4, rfl, g4, p4x, p4y, p4w, f4, wp4x, wp4y, wp4w⟩
    have G4 := G3.trans g4
    refine g_aret rfl ?_
    refine ⟨G4.mono (by omega), ?_⟩
    first
      | rw [if_neg (by assumption), rfl]
      | rw [if_neg (by assumption)]
    exact ⟨p4, rfl, _, _, _, f4, (wp4x.up (by omega)), (wp4y.up (by omega)), (wp4w.up (by omega))⟩
  · skip
    refine g_null rfl ?_
    refine g_goto rfl ?_
    refine g_aret rfl ?_
    refine ⟨G1.mono (by omega), ?_⟩
    first
      | (rw [if_pos (by assumption)]; rfl)
      | (rw [if_neg (by assumption), rfl]; rfl)
set_option maxHeartbeats 4000000 in
theorem f_mr4 {w : aW} {d : Nat} (hd : 7 ≤ d) {h : aH} {c : Nat} (ci : CI h c) {S : aS} (xt : XT h c S) (ok : OkT S) (xn : XN (hV h) c S) (okn : OkN S) (a : Int) (ha : 0 ≤ a ∧ a < sT S) (b : Int)  : WP w d 235 [aO (some c), aI 4, aI a, aI b] h (RO (fun r h1 => Gr h h1 c 13 ∧ OT h1 c r (some (p_rad_S (tpR S a))) (43))) := by
  obtain ⟨d, rfl⟩ : ∃ d1, d = d1 + 1 := ⟨d - 1, by omega⟩
  refine WP.enter (cd := cd_X11_measuredInRing) rfl ?_
  have G0 := Gr.refl ci
  have hls : largs 0 [aO (some c), aI 4, aI a, aI b] = [(0, aO (some c)), (1, aI 4), (2, aI a), (3, aI b)] := rfl
  rw [hls]
  clear hls
  refine g_iload_n rfl rfl ?_
  refine g_iconst rfl ?_
  refine g_icmp_ne_f rfl (by omega) ?_
  refine g_aload_n rfl rfl ?_
  refine g_getR rfl (G0.cs.kd 0 (by omega) rfl) (G0.cs.rf 6 (by omega) rfl) ?_
  refine g_aload_n rfl rfl ?_
  refine g_getR rfl (G0.cs.kd 0 (by omega) rfl) (G0.cs.rf 11 (by omega) rfl) ?_
  refine g_iload_n rfl rfl ?_
  refine g_callVO [aI a] [aO (some (c + 6))] rfl rfl rfl rfl (Nat.le_of_ble_eq_true rfl) (G0.cs.kd 7 (by omega) rfl) (t_ring (by omega) G0.ci xt ok a ha) ?_
  rintro _ h1 ⟨p1, rfl, g1, p1k, p1a, p1b, p1e, f1, wp1k, wp1a, wp1b, wp1e⟩
  have G1 := G0.trans g1
  refine g_callVO [aO (some p1)] [] rfl rfl rfl rfl (Nat.le_of_ble_eq_true rfl) (G1.cs.kd 6 (by omega) rfl) (p_rad (by omega) G1.ci (show QB h1 c p1 (tpR S a) (20) from ⟨_, _, _, _, f1, (wp1k.up (by omega)), (wp1a.up (by omega)), (wp1b.up (by omega)), (wp1e.up (by omega))⟩)) ?_
  rintro _ h2 ⟨p2, rfl, g2, p2x, p2y, p2w, f2, wp2x, wp2y, wp2w⟩
  have G2 := G1.trans g2
  refine g_aret rfl ?_
  refine ⟨G2.mono (by omega), ?_⟩
  skip
  exact ⟨p2, rfl, _, _, _, f2, (wp2x.up (by omega)), (wp2y.up (by omega)), (wp2w.up (by omega))⟩
