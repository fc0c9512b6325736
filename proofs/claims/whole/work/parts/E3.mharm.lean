/-! the reference's geometry, on: printed by wip/whole/e3.py -/
theorem lcmp_ge {x : Int} (h : 0 ≤ lcmp x 0) : 0 ≤ x := by
  have := @lcmp_lt x 0
  omega
theorem lcmp_nge {x : Int} (h : ¬ 0 ≤ lcmp x 0) : x < 0 := by
  have := @lcmp_lt x 0
  omega
def m_middle_S (P : T4) (Q : T4) : T4 := m_low (((P.1 * Q.2.2.1) + (Q.1 * P.2.2.1), (P.2.1 * Q.2.2.1) + (Q.2.1 * P.2.2.1), 2 * P.2.2.1 * Q.2.2.1, 0))
set_option maxRecDepth 100000 in
set_option maxHeartbeats 4000000 in
theorem m_middle {w : aW} {d : Nat} (hd : 8 ≤ d) {h : aH} {o : Nat} (ms : MS h o) (V : Nat → Nat → Int) (hF : 0 ≤ V o 1 ∧ V o 1 + 32 ≤ 700) {P : T4} (aP : Nat) (hP : SLa o aP) (tP : SB V o aP P (20)) {Q : T4} (aQ : Nat) (hQ : SLa o aQ) (tQ : SB V o aQ Q (20)) (aU : Nat) (hU : SLa o aU)  : WP w d 314 [aO (some o), aO (some aP), aO (some aQ), aO (some aU)] (hw h V) (RN (fun h1 => ∃ V1, h1 = hw h V1 ∧ Gs V V1 o 32 (fun q => q = aU) ∧ SB V1 o aU (m_middle_S P Q) (41))) := by
  obtain ⟨d, rfl⟩ : ∃ d1, d = d1 + 1 := ⟨d - 1, by omega⟩
  refine WP.enter (cd := cd_X12_middle) rfl ?_
  have G0 := Gs.refl V o (fun q => q = aU)
  obtain ⟨Pp, Pq, Pr, Ps, sP, xPp, xPq, xPr, xPs⟩ := tP
  obtain ⟨Qp, Qq, Qr, Qs, sQ, xQp, xQq, xQr, xQs⟩ := tQ
  have hs_P := hP
  unfold SLa at hs_P
  have hs_Q := hQ
  unfold SLa at hs_Q
  have hs_U := hU
  unfold SLa at hs_U
  have hls : largs 0 [aO (some o), aO (some aP), aO (some aQ), aO (some aU)] = [(0, aO (some o)), (1, aO (some aP)), (2, aO (some aQ)), (3, aO (some aU))] := rfl
  rw [hls]
  clear hls
  refine g_aload_n rfl rfl ?_
  refine g_aload_n rfl rfl ?_
  refine g_aload_n rfl rfl ?_
  refine g_aload_n rfl rfl ?_
  refine g_aload_n rfl rfl ?_
  refine g_iconst rfl ?_
  refine g_iald (i := 0) rfl (ms.slot hP) (by omega) (by omega) ?_
  refine g_top (v2 := aI ((Pp : Int))) (congrArg aI (by exact sP.1)) ?_
  refine g_aload_n rfl rfl ?_
  refine g_iconst rfl ?_
  refine g_iald (i := 2) rfl (ms.slot hQ) (by omega) (by omega) ?_
  refine g_top (v2 := aI ((Qr : Int))) (congrArg aI (by exact sQ.2.2.1)) ?_
  refine g_callVI [aI ((Pp : Int)), aI ((Qr : Int))] [aO (some o), aO (some aU), aO (some o)] rfl rfl rfl rfl (Nat.le_of_ble_eq_true rfl) ms.1 (r_mul (by omega) ms V (by have := G0.2.2.1; omega) xPp xQr (by omega)) ?_
  rintro _ _ ⟨p1, rfl, V1, rfl, g1, xp1⟩
  have G_2 := G0.trans (g1.gs _)
  refine g_aload_n rfl rfl ?_
  refine g_aload_n rfl rfl ?_
  refine g_iconst rfl ?_
  refine g_iald (i := 0) rfl (ms.slot hQ) (by omega) (by omega) ?_
  refine g_top (v2 := aI ((Qp : Int))) (congrArg aI (by exact (g1.sa hQ sQ).1)) ?_
  refine g_aload_n rfl rfl ?_
  refine g_iconst rfl ?_
  refine g_iald (i := 2) rfl (ms.slot hP) (by omega) (by omega) ?_
  refine g_top (v2 := aI ((Pr : Int))) (congrArg aI (by exact (g1.sa hP sP).2.2.1)) ?_
  refine g_callVI [aI ((Qp : Int)), aI ((Pr : Int))] [aI ((p1 : Int)), aO (some o), aO (some aU), aO (some o)] rfl rfl rfl rfl (Nat.le_of_ble_eq_true rfl) ms.1 (r_mul (by omega) ms V1 (by have := G_2.2.2.1; omega) (g1.rb xQp) (g1.rb xPr) (by omega)) ?_
  rintro _ _ ⟨p3, rfl, V3, rfl, g3, xp3⟩
  have G_4 := G_2.trans (g3.gs _)
  refine g_callVI [aI ((p1 : Int)), aI ((p3 : Int))] [aO (some aU), aO (some o)] rfl rfl rfl rfl (Nat.le_of_ble_eq_true rfl) ms.1 (r_add (by omega) ms V3 (by have := G_4.2.2.1; omega) (g3.rb xp1) xp3 (41) (by omega) (by omega) (by omega)) ?_
  rintro _ _ ⟨p5, rfl, V5, rfl, g5, xp5⟩
  have G_6 := G_4.trans (g5.gs _)
  refine g_aload_n rfl rfl ?_
  refine g_aload_n rfl rfl ?_
  refine g_aload_n rfl rfl ?_
  refine g_iconst rfl ?_
  refine g_iald (i := 1) rfl (ms.slot hP) (by omega) (by omega) ?_
  refine g_top (v2 := aI ((Pq : Int))) (congrArg aI (by exact (g5.sa hP (g3.sa hP (g1.sa hP sP))).2.1)) ?_
  refine g_aload_n rfl rfl ?_
  refine g_iconst rfl ?_
  refine g_iald (i := 2) rfl (ms.slot hQ) (by omega) (by omega) ?_
  refine g_top (v2 := aI ((Qr : Int))) (congrArg aI (by exact (g5.sa hQ (g3.sa hQ (g1.sa hQ sQ))).2.2.1)) ?_
  refine g_callVI [aI ((Pq : Int)), aI ((Qr : Int))] [aO (some o), aI ((p5 : Int)), aO (some aU), aO (some o)] rfl rfl rfl rfl (Nat.le_of_ble_eq_true rfl) ms.1 (r_mul (by omega) ms V5 (by have := G_6.2.2.1; omega) (g5.rb (g3.rb (g1.rb xPq))) (g5.rb (g3.rb (g1.rb xQr))) (by omega)) ?_
  rintro _ _ ⟨p7, rfl, V7, rfl, g7, xp7⟩
  have G_8 := G_6.trans (g7.gs _)
  refine g_aload_n rfl rfl ?_
  refine g_aload_n rfl rfl ?_
  refine g_iconst rfl ?_
  refine g_iald (i := 1) rfl (ms.slot hQ) (by omega) (by omega) ?_
  refine g_top (v2 := aI ((Qq : Int))) (congrArg aI (by exact (g7.sa hQ (g5.sa hQ (g3.sa hQ (g1.sa hQ sQ)))).2.1)) ?_
  refine g_aload_n rfl rfl ?_
  refine g_iconst rfl ?_
  refine g_iald (i := 2) rfl (ms.slot hP) (by omega) (by omega) ?_
  refine g_top (v2 := aI ((Pr : Int))) (congrArg aI (by exact (g7.sa hP (g5.sa hP (g3.sa hP (g1.sa hP sP)))).2.2.1)) ?_
  refine g_callVI [aI ((Qq : Int)), aI ((Pr : Int))] [aI ((p7 : Int)), aO (some o), aI ((p5 : Int)), aO (some aU), aO (some o)] rfl rfl rfl rfl (Nat.le_of_ble_eq_true rfl) ms.1 (r_mul (by omega) ms V7 (by have := G_8.2.2.1; omega) (g7.rb (g5.rb (g3.rb (g1.rb xQq)))) (g7.rb (g5.rb (g3.rb (g1.rb xPr)))) (by omega)) ?_
  rintro _ _ ⟨p9, rfl, V9, rfl, g9, xp9⟩
  have G_10 := G_8.trans (g9.gs _)
  refine g_callVI [aI ((p7 : Int)), aI ((p9 : Int))] [aI ((p5 : Int)), aO (some aU), aO (some o)] rfl rfl rfl rfl (Nat.le_of_ble_eq_true rfl) ms.1 (r_add (by omega) ms V9 (by have := G_10.2.2.1; omega) (g9.rb xp7) xp9 (41) (by omega) (by omega) (by omega)) ?_
  rintro _ _ ⟨p11, rfl, V11, rfl, g11, xp11⟩
  have G_12 := G_10.trans (g11.gs _)
  refine g_aload_n rfl rfl ?_
  refine g_aload_n rfl rfl ?_
  refine g_ldc2 rfl ?_
  refine g_callVI [aJ 2] [aO (some o), aI ((p11 : Int)), aI ((p5 : Int)), aO (some aU), aO (some o)] rfl rfl rfl rfl (Nat.le_of_ble_eq_true rfl) ms.1 (r_num (by omega) ms V11 (by have := G_12.2.2.1; omega) 2 (by omega) 1 (by decide)) ?_
  rintro _ _ ⟨p13, rfl, V13, rfl, g13, xp13⟩
  have G_14 := G_12.trans (g13.gs _)
  refine g_aload_n rfl rfl ?_
  refine g_iconst rfl ?_
  refine g_iald (i := 2) rfl (ms.slot hP) (by omega) (by omega) ?_
  refine g_top (v2 := aI ((Pr : Int))) (congrArg aI (by exact (g13.sa hP (g11.sa hP (g9.sa hP (g7.sa hP (g5.sa hP (g3.sa hP (g1.sa hP sP))))))).2.2.1)) ?_
  refine g_aload_n rfl rfl ?_
  refine g_iconst rfl ?_
  refine g_iald (i := 2) rfl (ms.slot hQ) (by omega) (by omega) ?_
  refine g_top (v2 := aI ((Qr : Int))) (congrArg aI (by exact (g13.sa hQ (g11.sa hQ (g9.sa hQ (g7.sa hQ (g5.sa hQ (g3.sa hQ (g1.sa hQ sQ))))))).2.2.1)) ?_
  refine g_callVI [aI ((p13 : Int)), aI ((Pr : Int)), aI ((Qr : Int))] [aI ((p11 : Int)), aI ((p5 : Int)), aO (some aU), aO (some o)] rfl rfl rfl rfl (Nat.le_of_ble_eq_true rfl) ms.1 (r_mul3 (by omega) ms V13 (by have := G_14.2.2.1; omega) xp13 (g13.rb (g11.rb (g9.rb (g7.rb (g5.rb (g3.rb (g1.rb xPr))))))) (g13.rb (g11.rb (g9.rb (g7.rb (g5.rb (g3.rb (g1.rb xQr))))))) (by omega)) ?_
  rintro _ _ ⟨p15, rfl, V15, rfl, g15, xp15⟩
  have G_16 := G_14.trans (g15.gs _)
  refine g_callVN [aO (some aU), aI ((p5 : Int)), aI ((p11 : Int)), aI ((p15 : Int))] [] rfl rfl rfl rfl (Nat.le_of_ble_eq_true rfl) ms.1 (m_put (by omega) ms V15 (by have := G_16.2.2.1; omega) aU hU p5 p11 p15) ?_
  rintro _ ⟨V17, rfl, p17, g17, s17, xp17⟩
  have G_18 := G_16.trans (g17.wide (fun q hq => by have hq : q = aU := hq; show q = aU; omega))
  refine g_aload_n rfl rfl ?_
  refine g_aload_n rfl rfl ?_
  refine g_iconst rfl ?_
  refine g_callVN [aO (some aU), aI 0] [] rfl rfl rfl rfl (Nat.le_of_ble_eq_true rfl) ms.1 (m_settle0 (by omega) ms V17 (by have := G_18.2.2.1; omega) aU hU (show SB V17 o aU (((P.1 * Q.2.2.1) + (Q.1 * P.2.2.1), (P.2.1 * Q.2.2.1) + (Q.2.1 * P.2.2.1), 2 * P.2.2.1 * Q.2.2.1, 0)) (41) from ⟨_, _, _, _, s17, ((g17.rb (g15.rb (g13.rb (g11.rb (g9.rb (g7.rb xp5)))))).up (by omega)), ((g17.rb (g15.rb (g13.rb xp11))).up (by omega)), ((g17.rb xp15).up (by omega)), (xp17.up (by omega))⟩) (by omega)) ?_
  rintro _ ⟨V19, rfl, g19, t19, u19, v19, y19, s19, xt19, xu19, xv19, xy19⟩
  have G_20 := G_18.trans (g19.wide (fun q hq => by have hq : q = aU := hq; show q = aU; omega))
  refine g_vret rfl ?_
  exact ⟨V19, rfl, G_20.mono (by omega), _, _, _, _, s19, (xt19.up (by omega)), (xu19.up (by omega)), (xv19.up (by omega)), (xy19.up (by omega))⟩
abbrev m_harm_C (P Q R : T4) : Prop := ((m_cross_S P Q).1 = 0 ∧ (m_cross_S P Q).2.1 = 0 ∧ (m_cross_S P Q).2.2.1 = 0) ∨ ((m_cross_S P R).1 = 0 ∧ (m_cross_S P R).2.1 = 0 ∧ (m_cross_S P R).2.2.1 = 0) ∨ ((m_cross_S R Q).1 = 0 ∧ (m_cross_S R Q).2.1 = 0 ∧ (m_cross_S R Q).2.2.1 = 0) ∨ ¬ m_dot_S (m_cross_S P Q) R = 0
def m_wei (u v : Int) (P Q : T4) : T4 := (u * P.1 - v * Q.1, u * P.2.1 - v * Q.2.1, u * P.2.2.1 - v * Q.2.2.1, 0)
def m_harm_S (P Q R : T4) : T4 := if ¬ (m_cross_S P Q).1 = 0 then m_wei (m_cross_S R Q).1 (m_cross_S P R).1 P Q else if ¬ (m_cross_S P Q).2.1 = 0 then m_wei (m_cross_S R Q).2.1 (m_cross_S P R).2.1 P Q else m_wei (m_cross_S R Q).2.2.1 (m_cross_S P R).2.2.1 P Q
def m_harm_O (P Q R : T4) : Option T4 := if m_harm_C P Q R then none else some (m_harm_S P Q R)
set_option maxRecDepth 100000 in
set_option maxHeartbeats 4000000 in
theorem m_harm {w : aW} {d : Nat} (hd : 7 ≤ d) {h : aH} {o : Nat} (ms : MS h o) (V : Nat → Nat → Int) (hF : 0 ≤ V o 1 ∧ V o 1 + 45 ≤ 700) {P : T4} (aP : Nat) (hP : SLa o aP) (tP : SB V o aP P (20)) {Q : T4} (aQ : Nat) (hQ : SLa o aQ) (tQ : SB V o aQ Q (20)) {R : T4} (aR : Nat) (hR : SLa o aR) (tR : SB V o aR R (20)) (aU : Nat) (hU : SLa o aU) (hy0 : aP ≠ o + 26) (hy1 : aP ≠ o + 27) (hy2 : aP ≠ o + 28) (hy3 : aQ ≠ o + 26) (hy4 : aQ ≠ o + 27) (hy5 : aQ ≠ o + 28) (hy6 : aR ≠ o + 26) (hy7 : aR ≠ o + 27) (hy8 : aR ≠ o + 28) : WP w d 304 [aO (some o), aO (some aP), aO (some aQ), aO (some aR), aO (some aU)] (hw h V) (RI (fun r h1 => ∃ V1, h1 = hw h V1 ∧ Gs V V1 o 45 (fun q => q = o + 26 ∨ q = o + 27 ∨ q = o + 28 ∨ q = aU) ∧ BO V1 o aU r (m_harm_O P Q R) (62))) := by
  obtain ⟨d, rfl⟩ : ∃ d1, d = d1 + 1 := ⟨d - 1, by omega⟩
  refine WP.enter (cd := cd_X12_harmonic) rfl ?_
  have G0 := Gs.refl V o (fun q => q = o + 26 ∨ q = o + 27 ∨ q = o + 28 ∨ q = aU)
  obtain ⟨Pp, Pq, Pr, Ps, sP, xPp, xPq, xPr, xPs⟩ := tP
  obtain ⟨Qp, Qq, Qr, Qs, sQ, xQp, xQq, xQr, xQs⟩ := tQ
  obtain ⟨Rp, Rq, Rr, Rs, sR, xRp, xRq, xRr, xRs⟩ := tR
  have hs_P := hP
  unfold SLa at hs_P
  have hs_Q := hQ
  unfold SLa at hs_Q
  have hs_R := hR
  unfold SLa at hs_R
  have hs_U := hU
  unfold SLa at hs_U
  have hls : largs 0 [aO (some o), aO (some aP), aO (some aQ), aO (some aR), aO (some aU)] = [(0, aO (some o)), (1, aO (some aP)), (2, aO (some aQ)), (3, aO (some aR)), (4, aO (some aU))] := rfl
  rw [hls]
  clear hls
  refine g_aload_n rfl rfl ?_
  refine g_aload_n rfl rfl ?_
  refine g_aload_n rfl rfl ?_
  refine g_aload_n rfl rfl ?_
  refine g_getR rfl ms.1 (mr_three ms) ?_
  refine g_callVN [aO (some aP), aO (some aQ), aO (some (o + 26))] [] rfl rfl rfl rfl (Nat.le_of_ble_eq_true rfl) ms.1 (m_cross (by omega) ms V (by have := G0.2.2.1; omega) aP hP (show SB V o aP P (20) from ⟨_, _, _, _, sP, (xPp.up (by omega)), (xPq.up (by omega)), (xPr.up (by omega)), (xPs.up (by omega))⟩) aQ hQ (show SB V o aQ Q (20) from ⟨_, _, _, _, sQ, (xQp.up (by omega)), (xQq.up (by omega)), (xQr.up (by omega)), (xQs.up (by omega))⟩) ((o + 26)) (show SLa o ((o + 26)) by unfold SLa; omega) (by omega)) ?_
  rintro _ ⟨V1, rfl, g1, t1, u1, v1, y1, s1, xt1, xu1, xv1, xy1⟩
  have G_2 := G0.trans (g1.wide (fun q hq => by have hq : q = o + 26 := hq; show q = o + 26 ∨ q = o + 27 ∨ q = o + 28 ∨ q = aU; omega))
  refine g_aload_n rfl rfl ?_
  refine g_aload_n rfl rfl ?_
  refine g_aload_n rfl rfl ?_
  refine g_aload_n rfl rfl ?_
  refine g_getR rfl ms.1 (mr_four ms) ?_
  refine g_callVN [aO (some aP), aO (some aR), aO (some (o + 27))] [] rfl rfl rfl rfl (Nat.le_of_ble_eq_true rfl) ms.1 (m_cross (by omega) ms V1 (by have := G_2.2.2.1; omega) aP hP (show SB V1 o aP P (20) from ⟨_, _, _, _, (g1.sa hP (show ¬(aP = o + 26) by omega) sP), ((g1.rb xPp).up (by omega)), ((g1.rb xPq).up (by omega)), ((g1.rb xPr).up (by omega)), ((g1.rb xPs).up (by omega))⟩) aR hR (show SB V1 o aR R (20) from ⟨_, _, _, _, (g1.sa hR (show ¬(aR = o + 26) by omega) sR), ((g1.rb xRp).up (by omega)), ((g1.rb xRq).up (by omega)), ((g1.rb xRr).up (by omega)), ((g1.rb xRs).up (by omega))⟩) ((o + 27)) (show SLa o ((o + 27)) by unfold SLa; omega) (by omega)) ?_
  rintro _ ⟨V3, rfl, g3, t3, u3, v3, y3, s3, xt3, xu3, xv3, xy3⟩
  have G_4 := G_2.trans (g3.wide (fun q hq => by have hq : q = o + 27 := hq; show q = o + 26 ∨ q = o + 27 ∨ q = o + 28 ∨ q = aU; omega))
  refine g_aload_n rfl rfl ?_
  refine g_aload_n rfl rfl ?_
  refine g_aload_n rfl rfl ?_
  refine g_aload_n rfl rfl ?_
  refine g_getR rfl ms.1 (mr_five ms) ?_
  refine g_callVN [aO (some aR), aO (some aQ), aO (some (o + 28))] [] rfl rfl rfl rfl (Nat.le_of_ble_eq_true rfl) ms.1 (m_cross (by omega) ms V3 (by have := G_4.2.2.1; omega) aR hR (show SB V3 o aR R (20) from ⟨_, _, _, _, (g3.sa hR (show ¬(aR = o + 27) by omega) (g1.sa hR (show ¬(aR = o + 26) by omega) sR)), ((g3.rb (g1.rb xRp)).up (by omega)), ((g3.rb (g1.rb xRq)).up (by omega)), ((g3.rb (g1.rb xRr)).up (by omega)), ((g3.rb (g1.rb xRs)).up (by omega))⟩) aQ hQ (show SB V3 o aQ Q (20) from ⟨_, _, _, _, (g3.sa hQ (show ¬(aQ = o + 27) by omega) (g1.sa hQ (show ¬(aQ = o + 26) by omega) sQ)), ((g3.rb (g1.rb xQp)).up (by omega)), ((g3.rb (g1.rb xQq)).up (by omega)), ((g3.rb (g1.rb xQr)).up (by omega)), ((g3.rb (g1.rb xQs)).up (by omega))⟩) ((o + 28)) (show SLa o ((o + 28)) by unfold SLa; omega) (by omega)) ?_
  rintro _ ⟨V5, rfl, g5, t5, u5, v5, y5, s5, xt5, xu5, xv5, xy5⟩
  have G_6 := G_4.trans (g5.wide (fun q hq => by have hq : q = o + 28 := hq; show q = o + 26 ∨ q = o + 27 ∨ q = o + 28 ∨ q = aU; omega))
  refine g_aload_n rfl rfl ?_
  refine g_aload_n rfl rfl ?_
  refine g_getR rfl ms.1 (mr_three ms) ?_
  refine g_callVI [aO (some (o + 26))] [] rfl rfl rfl rfl (Nat.le_of_ble_eq_true rfl) ms.1 (m_isZero (by omega) ms V5 ((o + 26)) (show SLa o ((o + 26)) by unfold SLa; omega) (show SB V5 o (o + 26) (m_cross_S P Q) (41) from ⟨_, _, _, _, (g5.sa (show SLa o ((o + 26)) by unfold SLa; omega) (show ¬(o + 26 = o + 28) by omega) (g3.sa (show SLa o ((o + 26)) by unfold SLa; omega) (show ¬(o + 26 = o + 27) by omega) s1)), ((g5.rb (g3.rb xt1)).up (by omega)), ((g5.rb (g3.rb xu1)).up (by omega)), ((g5.rb (g3.rb xv1)).up (by omega)), ((g5.rb (g3.rb xy1)).up (by omega))⟩)) ?_
  rintro r7 _ ⟨rfl, e8⟩
  rw [e8]
  clear e8 r7
  refine g_b_ne rfl (fun c38 => ?_) (fun c38 => ?_)
  · skip
    refine g_iconst rfl ?_
    refine g_zret rfl (by omega) ?_
    refine ⟨V5, rfl, G_6.mono (by omega), ?_⟩
    have l0 := @lcmp_0 (m_dot_S (m_cross_S P Q) R) 0
    have m0 := @lcmp_lt (m_dot_S (m_cross_S P Q) R) 0
    have n0 := @lcmp_gt (0) (m_dot_S (m_cross_S P Q) R)
    have n0q := @lcmp_gt (m_dot_S (m_cross_S P Q) R) 0
    have l1 := @lcmp_0 ((m_cross_S P Q).1) 0
    have m1 := @lcmp_lt ((m_cross_S P Q).1) 0
    have n1 := @lcmp_gt (0) ((m_cross_S P Q).1)
    have n1q := @lcmp_gt ((m_cross_S P Q).1) 0
    have l2 := @lcmp_0 ((m_cross_S P Q).2.1) 0
    have m2 := @lcmp_lt ((m_cross_S P Q).2.1) 0
    have n2 := @lcmp_gt (0) ((m_cross_S P Q).2.1)
    have n2q := @lcmp_gt ((m_cross_S P Q).2.1) 0
    have l3 := @lcmp_0 ((m_cross_S P Q).2.2.1) 0
    have m3 := @lcmp_lt ((m_cross_S P Q).2.2.1) 0
    have n3 := @lcmp_gt (0) ((m_cross_S P Q).2.2.1)
    have n3q := @lcmp_gt ((m_cross_S P Q).2.2.1) 0
    unfold m_harm_O
    rw [if_pos (by unfold m_harm_C; omega)]
    rfl
  · skip
    refine g_aload_n rfl rfl ?_
    refine g_aload_n rfl rfl ?_
    refine g_getR rfl ms.1 (mr_four ms) ?_
    refine g_callVI [aO (some (o + 27))] [] rfl rfl rfl rfl (Nat.le_of_ble_eq_true rfl) ms.1 (m_isZero (by omega) ms V5 ((o + 27)) (show SLa o ((o + 27)) by unfold SLa; omega) (show SB V5 o (o + 27) (m_cross_S P R) (41) from ⟨_, _, _, _, (g5.sa (show SLa o ((o + 27)) by unfold SLa; omega) (show ¬(o + 27 = o + 28) by omega) s3), ((g5.rb xt3).up (by omega)), ((g5.rb xu3).up (by omega)), ((g5.rb xv3).up (by omega)), ((g5.rb xy3).up (by omega))⟩)) ?_
    rintro r9 _ ⟨rfl, e10⟩
    rw [e10]
    clear e10 r9
    refine g_b_ne rfl (fun c49 => ?_) (fun c49 => ?_)
    · skip
      refine g_iconst rfl ?_
      refine g_zret rfl (by omega) ?_
      refine ⟨V5, rfl, G_6.mono (by omega), ?_⟩
      have l0 := @lcmp_0 (m_dot_S (m_cross_S P Q) R) 0
      have m0 := @lcmp_lt (m_dot_S (m_cross_S P Q) R) 0
      have n0 := @lcmp_gt (0) (m_dot_S (m_cross_S P Q) R)
      have n0q := @lcmp_gt (m_dot_S (m_cross_S P Q) R) 0
      have l1 := @lcmp_0 ((m_cross_S P Q).1) 0
      have m1 := @lcmp_lt ((m_cross_S P Q).1) 0
      have n1 := @lcmp_gt (0) ((m_cross_S P Q).1)
      have n1q := @lcmp_gt ((m_cross_S P Q).1) 0
      have l2 := @lcmp_0 ((m_cross_S P Q).2.1) 0
      have m2 := @lcmp_lt ((m_cross_S P Q).2.1) 0
      have n2 := @lcmp_gt (0) ((m_cross_S P Q).2.1)
      have n2q := @lcmp_gt ((m_cross_S P Q).2.1) 0
      have l3 := @lcmp_0 ((m_cross_S P Q).2.2.1) 0
      have m3 := @lcmp_lt ((m_cross_S P Q).2.2.1) 0
      have n3 := @lcmp_gt (0) ((m_cross_S P Q).2.2.1)
      have n3q := @lcmp_gt ((m_cross_S P Q).2.2.1) 0
      unfold m_harm_O
      rw [if_pos (by unfold m_harm_C; omega)]
      rfl
    · skip
      refine g_aload_n rfl rfl ?_
      refine g_aload_n rfl rfl ?_
      refine g_getR rfl ms.1 (mr_five ms) ?_
      refine g_callVI [aO (some (o + 28))] [] rfl rfl rfl rfl (Nat.le_of_ble_eq_true rfl) ms.1 (m_isZero (by omega) ms V5 ((o + 28)) (show SLa o ((o + 28)) by unfold SLa; omega) (show SB V5 o (o + 28) (m_cross_S R Q) (41) from ⟨_, _, _, _, s5, (xt5.up (by omega)), (xu5.up (by omega)), (xv5.up (by omega)), (xy5.up (by omega))⟩)) ?_
      rintro r11 _ ⟨rfl, e12⟩
      rw [e12]
      clear e12 r11
      refine g_b_ne rfl (fun c60 => ?_) (fun c60 => ?_)
      · skip
        refine g_iconst rfl ?_
        refine g_zret rfl (by omega) ?_
        refine ⟨V5, rfl, G_6.mono (by omega), ?_⟩
        have l0 := @lcmp_0 (m_dot_S (m_cross_S P Q) R) 0
        have m0 := @lcmp_lt (m_dot_S (m_cross_S P Q) R) 0
        have n0 := @lcmp_gt (0) (m_dot_S (m_cross_S P Q) R)
        have n0q := @lcmp_gt (m_dot_S (m_cross_S P Q) R) 0
        have l1 := @lcmp_0 ((m_cross_S P Q).1) 0
        have m1 := @lcmp_lt ((m_cross_S P Q).1) 0
        have n1 := @lcmp_gt (0) ((m_cross_S P Q).1)
        have n1q := @lcmp_gt ((m_cross_S P Q).1) 0
        have l2 := @lcmp_0 ((m_cross_S P Q).2.1) 0
        have m2 := @lcmp_lt ((m_cross_S P Q).2.1) 0
        have n2 := @lcmp_gt (0) ((m_cross_S P Q).2.1)
        have n2q := @lcmp_gt ((m_cross_S P Q).2.1) 0
        have l3 := @lcmp_0 ((m_cross_S P Q).2.2.1) 0
        have m3 := @lcmp_lt ((m_cross_S P Q).2.2.1) 0
        have n3 := @lcmp_gt (0) ((m_cross_S P Q).2.2.1)
        have n3q := @lcmp_gt ((m_cross_S P Q).2.2.1) 0
        unfold m_harm_O
        rw [if_pos (by unfold m_harm_C; omega)]
        rfl
      · skip
        refine g_aload_n rfl rfl ?_
        refine g_aload_n rfl rfl ?_
        refine g_aload_n rfl rfl ?_
        refine g_getR rfl ms.1 (mr_three ms) ?_
        refine g_aload_n rfl rfl ?_
        refine g_callVI [aO (some (o + 26)), aO (some aR)] [aO (some o)] rfl rfl rfl rfl (Nat.le_of_ble_eq_true rfl) ms.1 (m_dot (by omega) ms V5 (by have := G_6.2.2.1; omega) ((o + 26)) (show SLa o ((o + 26)) by unfold SLa; omega) (show SB V5 o (o + 26) (m_cross_S P Q) (41) from ⟨_, _, _, _, (g5.sa (show SLa o ((o + 26)) by unfold SLa; omega) (show ¬(o + 26 = o + 28) by omega) (g3.sa (show SLa o ((o + 26)) by unfold SLa; omega) (show ¬(o + 26 = o + 27) by omega) s1)), ((g5.rb (g3.rb xt1)).up (by omega)), ((g5.rb (g3.rb xu1)).up (by omega)), ((g5.rb (g3.rb xv1)).up (by omega)), ((g5.rb (g3.rb xy1)).up (by omega))⟩) aR hR (show SB V5 o aR R (41) from ⟨_, _, _, _, (g5.sa hR (show ¬(aR = o + 28) by omega) (g3.sa hR (show ¬(aR = o + 27) by omega) (g1.sa hR (show ¬(aR = o + 26) by omega) sR))), ((g5.rb (g3.rb (g1.rb xRp))).up (by omega)), ((g5.rb (g3.rb (g1.rb xRq))).up (by omega)), ((g5.rb (g3.rb (g1.rb xRr))).up (by omega)), ((g5.rb (g3.rb (g1.rb xRs))).up (by omega))⟩) (by omega)) ?_
        rintro _ _ ⟨p13, rfl, V13, rfl, g13, xp13⟩
        have G_14 := G_6.trans (g13.gs _)
        refine g_callVI [aI ((p13 : Int))] [] rfl rfl rfl rfl (Nat.le_of_ble_eq_true rfl) ms.1 (r_sign (by omega) ms V13 xp13) ?_
        rintro r15 _ ⟨rfl, e16⟩
        rw [e16]
        clear e16 r15
        refine g_if_eq rfl (fun c76 => ?_) (fun c76 => ?_)
        · skip
          refine g_aload_n rfl rfl ?_
          refine g_aload_n rfl rfl ?_
          refine g_getR rfl ms.1 (mr_three ms) ?_
          refine g_iconst rfl ?_
          refine g_iald (i := 0) rfl (mt_three ms) (by omega) (by omega) ?_
          refine g_top (v2 := aI ((t1 : Int))) (congrArg aI (by exact (g13.sa (show SLa o ((o + 26)) by unfold SLa; omega) (g5.sa (show SLa o ((o + 26)) by unfold SLa; omega) (show ¬(o + 26 = o + 28) by omega) (g3.sa (show SLa o ((o + 26)) by unfold SLa; omega) (show ¬(o + 26 = o + 27) by omega) s1))).1)) ?_
          refine g_callVI [aI ((t1 : Int))] [] rfl rfl rfl rfl (Nat.le_of_ble_eq_true rfl) ms.1 (r_sign (by omega) ms V13 (g13.rb (g5.rb (g3.rb xt1)))) ?_
          rintro r17 _ ⟨rfl, e18⟩
          rw [e18]
          clear e18 r17
          refine g_if_eq rfl (fun c91 => ?_) (fun c91 => ?_)
          · skip
            refine g_aload_n rfl rfl ?_
            refine g_aload_n rfl rfl ?_
            refine g_getR rfl ms.1 (mr_three ms) ?_
            refine g_iconst rfl ?_
            refine g_iald (i := 1) rfl (mt_three ms) (by omega) (by omega) ?_
            refine g_top (v2 := aI ((u1 : Int))) (congrArg aI (by exact (g13.sa (show SLa o ((o + 26)) by unfold SLa; omega) (g5.sa (show SLa o ((o + 26)) by unfold SLa; omega) (show ¬(o + 26 = o + 28) by omega) (g3.sa (show SLa o ((o + 26)) by unfold SLa; omega) (show ¬(o + 26 = o + 27) by omega) s1))).2.1)) ?_
            refine g_callVI [aI ((u1 : Int))] [] rfl rfl rfl rfl (Nat.le_of_ble_eq_true rfl) ms.1 (r_sign (by omega) ms V13 (g13.rb (g5.rb (g3.rb xu1)))) ?_
            rintro r19 _ ⟨rfl, e20⟩
            rw [e20]
            clear e20 r19
            refine g_if_eq rfl (fun c108 => ?_) (fun c108 => ?_)
            · skip
              refine g_iconst rfl ?_
              refine g_istore (l1 := [(5, aI 2), (0, aO (some o)), (1, aO (some aP)), (2, aO (some aQ)), (3, aO (some aR)), (4, aO (some aU))]) rfl rfl ?_
              refine g_aload_n rfl rfl ?_
              refine g_getR rfl ms.1 (mr_five ms) ?_
              refine g_iload rfl rfl ?_
              refine g_iald (i := 2) rfl (mt_five ms) (by omega) (by omega) ?_
              refine g_top (v2 := aI ((v5 : Int))) (congrArg aI (by exact (g13.sa (show SLa o ((o + 28)) by unfold SLa; omega) s5).2.2.1)) ?_
              refine g_istore (l1 := [(6, aI ((v5 : Int))), (5, aI 2), (0, aO (some o)), (1, aO (some aP)), (2, aO (some aQ)), (3, aO (some aR)), (4, aO (some aU))]) rfl rfl ?_
              refine g_aload_n rfl rfl ?_
              refine g_getR rfl ms.1 (mr_four ms) ?_
              refine g_iload rfl rfl ?_
              refine g_iald (i := 2) rfl (mt_four ms) (by omega) (by omega) ?_
              refine g_top (v2 := aI ((v3 : Int))) (congrArg aI (by exact (g13.sa (show SLa o ((o + 27)) by unfold SLa; omega) (g5.sa (show SLa o ((o + 27)) by unfold SLa; omega) (show ¬(o + 27 = o + 28) by omega) s3)).2.2.1)) ?_
              refine g_istore (l1 := [(7, aI ((v3 : Int))), (6, aI ((v5 : Int))), (5, aI 2), (0, aO (some o)), (1, aO (some aP)), (2, aO (some aQ)), (3, aO (some aR)), (4, aO (some aU))]) rfl rfl ?_
              refine g_aload_n rfl rfl ?_
              refine g_aload rfl rfl ?_
              refine g_aload_n rfl rfl ?_
              refine g_aload_n rfl rfl ?_
              refine g_iload rfl rfl ?_
              refine g_aload_n rfl rfl ?_
              refine g_iconst rfl ?_
              refine g_iald (i := 0) rfl (ms.slot hP) (by omega) (by omega) ?_
              refine g_top (v2 := aI ((Pp : Int))) (congrArg aI (by exact (g13.sa hP (g5.sa hP (show ¬(aP = o + 28) by omega) (g3.sa hP (show ¬(aP = o + 27) by omega) (g1.sa hP (show ¬(aP = o + 26) by omega) sP)))).1)) ?_
              refine g_callVI [aI ((v5 : Int)), aI ((Pp : Int))] [aO (some o), aO (some aU), aO (some o)] rfl rfl rfl rfl (Nat.le_of_ble_eq_true rfl) ms.1 (r_mul (by omega) ms V13 (by have := G_14.2.2.1; omega) (g13.rb xv5) (g13.rb (g5.rb (g3.rb (g1.rb xPp)))) (by omega)) ?_
              rintro _ _ ⟨p21, rfl, V21, rfl, g21, xp21⟩
              have G_22 := G_14.trans (g21.gs _)
              refine g_aload_n rfl rfl ?_
              refine g_iload rfl rfl ?_
              refine g_aload_n rfl rfl ?_
              refine g_iconst rfl ?_
              refine g_iald (i := 0) rfl (ms.slot hQ) (by omega) (by omega) ?_
              refine g_top (v2 := aI ((Qp : Int))) (congrArg aI (by exact (g21.sa hQ (g13.sa hQ (g5.sa hQ (show ¬(aQ = o + 28) by omega) (g3.sa hQ (show ¬(aQ = o + 27) by omega) (g1.sa hQ (show ¬(aQ = o + 26) by omega) sQ))))).1)) ?_
              refine g_callVI [aI ((v3 : Int)), aI ((Qp : Int))] [aI ((p21 : Int)), aO (some o), aO (some aU), aO (some o)] rfl rfl rfl rfl (Nat.le_of_ble_eq_true rfl) ms.1 (r_mul (by omega) ms V21 (by have := G_22.2.2.1; omega) (g21.rb (g13.rb (g5.rb xv3))) (g21.rb (g13.rb (g5.rb (g3.rb (g1.rb xQp))))) (by omega)) ?_
              rintro _ _ ⟨p23, rfl, V23, rfl, g23, xp23⟩
              have G_24 := G_22.trans (g23.gs _)
              refine g_callVI [aI ((p21 : Int)), aI ((p23 : Int))] [aO (some aU), aO (some o)] rfl rfl rfl rfl (Nat.le_of_ble_eq_true rfl) ms.1 (r_sub (by omega) ms V23 (by have := G_24.2.2.1; omega) (g23.rb xp21) xp23 (62) (by omega) (by omega) (by omega)) ?_
              rintro _ _ ⟨p25, rfl, V25, rfl, g25, xp25⟩
              have G_26 := G_24.trans (g25.gs _)
              refine g_aload_n rfl rfl ?_
              refine g_aload_n rfl rfl ?_
              refine g_iload rfl rfl ?_
              refine g_aload_n rfl rfl ?_
              refine g_iconst rfl ?_
              refine g_iald (i := 1) rfl (ms.slot hP) (by omega) (by omega) ?_
              refine g_top (v2 := aI ((Pq : Int))) (congrArg aI (by exact (g25.sa hP (g23.sa hP (g21.sa hP (g13.sa hP (g5.sa hP (show ¬(aP = o + 28) by omega) (g3.sa hP (show ¬(aP = o + 27) by omega) (g1.sa hP (show ¬(aP = o + 26) by omega) sP))))))).2.1)) ?_
              refine g_callVI [aI ((v5 : Int)), aI ((Pq : Int))] [aO (some o), aI ((p25 : Int)), aO (some aU), aO (some o)] rfl rfl rfl rfl (Nat.le_of_ble_eq_true rfl) ms.1 (r_mul (by omega) ms V25 (by have := G_26.2.2.1; omega) (g25.rb (g23.rb (g21.rb (g13.rb xv5)))) (g25.rb (g23.rb (g21.rb (g13.rb (g5.rb (g3.rb (g1.rb xPq))))))) (by omega)) ?_
              rintro _ _ ⟨p27, rfl, V27, rfl, g27, xp27⟩
              have G_28 := G_26.trans (g27.gs _)
              refine g_aload_n rfl rfl ?_
              refine g_iload rfl rfl ?_
              refine g_aload_n rfl rfl ?_
              refine g_iconst rfl ?_
              refine g_iald (i := 1) rfl (ms.slot hQ) (by omega) (by omega) ?_
              refine g_top (v2 := aI ((Qq : Int))) (congrArg aI (by exact (g27.sa hQ (g25.sa hQ (g23.sa hQ (g21.sa hQ (g13.sa hQ (g5.sa hQ (show ¬(aQ = o + 28) by omega) (g3.sa hQ (show ¬(aQ = o + 27) by omega) (g1.sa hQ (show ¬(aQ = o + 26) by omega) sQ)))))))).2.1)) ?_
              refine g_callVI [aI ((v3 : Int)), aI ((Qq : Int))] [aI ((p27 : Int)), aO (some o), aI ((p25 : Int)), aO (some aU), aO (some o)] rfl rfl rfl rfl (Nat.le_of_ble_eq_true rfl) ms.1 (r_mul (by omega) ms V27 (by have := G_28.2.2.1; omega) (g27.rb (g25.rb (g23.rb (g21.rb (g13.rb (g5.rb xv3)))))) (g27.rb (g25.rb (g23.rb (g21.rb (g13.rb (g5.rb (g3.rb (g1.rb xQq)))))))) (by omega)) ?_
              rintro _ _ ⟨p29, rfl, V29, rfl, g29, xp29⟩
              have G_30 := G_28.trans (g29.gs _)
              refine g_callVI [aI ((p27 : Int)), aI ((p29 : Int))] [aI ((p25 : Int)), aO (some aU), aO (some o)] rfl rfl rfl rfl (Nat.le_of_ble_eq_true rfl) ms.1 (r_sub (by omega) ms V29 (by have := G_30.2.2.1; omega) (g29.rb xp27) xp29 (62) (by omega) (by omega) (by omega)) ?_
              rintro _ _ ⟨p31, rfl, V31, rfl, g31, xp31⟩
              have G_32 := G_30.trans (g31.gs _)
              refine g_aload_n rfl rfl ?_
              refine g_aload_n rfl rfl ?_
              refine g_iload rfl rfl ?_
              refine g_aload_n rfl rfl ?_
              refine g_iconst rfl ?_
              refine g_iald (i := 2) rfl (ms.slot hP) (by omega) (by omega) ?_
              refine g_top (v2 := aI ((Pr : Int))) (congrArg aI (by exact (g31.sa hP (g29.sa hP (g27.sa hP (g25.sa hP (g23.sa hP (g21.sa hP (g13.sa hP (g5.sa hP (show ¬(aP = o + 28) by omega) (g3.sa hP (show ¬(aP = o + 27) by omega) (g1.sa hP (show ¬(aP = o + 26) by omega) sP)))))))))).2.2.1)) ?_
              refine g_callVI [aI ((v5 : Int)), aI ((Pr : Int))] [aO (some o), aI ((p31 : Int)), aI ((p25 : Int)), aO (some aU), aO (some o)] rfl rfl rfl rfl (Nat.le_of_ble_eq_true rfl) ms.1 (r_mul (by omega) ms V31 (by have := G_32.2.2.1; omega) (g31.rb (g29.rb (g27.rb (g25.rb (g23.rb (g21.rb (g13.rb xv5))))))) (g31.rb (g29.rb (g27.rb (g25.rb (g23.rb (g21.rb (g13.rb (g5.rb (g3.rb (g1.rb xPr)))))))))) (by omega)) ?_
              rintro _ _ ⟨p33, rfl, V33, rfl, g33, xp33⟩
              have G_34 := G_32.trans (g33.gs _)
              refine g_aload_n rfl rfl ?_
              refine g_iload rfl rfl ?_
              refine g_aload_n rfl rfl ?_
              refine g_iconst rfl ?_
              refine g_iald (i := 2) rfl (ms.slot hQ) (by omega) (by omega) ?_
              refine g_top (v2 := aI ((Qr : Int))) (congrArg aI (by exact (g33.sa hQ (g31.sa hQ (g29.sa hQ (g27.sa hQ (g25.sa hQ (g23.sa hQ (g21.sa hQ (g13.sa hQ (g5.sa hQ (show ¬(aQ = o + 28) by omega) (g3.sa hQ (show ¬(aQ = o + 27) by omega) (g1.sa hQ (show ¬(aQ = o + 26) by omega) sQ))))))))))).2.2.1)) ?_
              refine g_callVI [aI ((v3 : Int)), aI ((Qr : Int))] [aI ((p33 : Int)), aO (some o), aI ((p31 : Int)), aI ((p25 : Int)), aO (some aU), aO (some o)] rfl rfl rfl rfl (Nat.le_of_ble_eq_true rfl) ms.1 (r_mul (by omega) ms V33 (by have := G_34.2.2.1; omega) (g33.rb (g31.rb (g29.rb (g27.rb (g25.rb (g23.rb (g21.rb (g13.rb (g5.rb xv3))))))))) (g33.rb (g31.rb (g29.rb (g27.rb (g25.rb (g23.rb (g21.rb (g13.rb (g5.rb (g3.rb (g1.rb xQr))))))))))) (by omega)) ?_
              rintro _ _ ⟨p35, rfl, V35, rfl, g35, xp35⟩
              have G_36 := G_34.trans (g35.gs _)
              refine g_callVI [aI ((p33 : Int)), aI ((p35 : Int))] [aI ((p31 : Int)), aI ((p25 : Int)), aO (some aU), aO (some o)] rfl rfl rfl rfl (Nat.le_of_ble_eq_true rfl) ms.1 (r_sub (by omega) ms V35 (by have := G_36.2.2.1; omega) (g35.rb xp33) xp35 (62) (by omega) (by omega) (by omega)) ?_
              rintro _ _ ⟨p37, rfl, V37, rfl, g37, xp37⟩
              have G_38 := G_36.trans (g37.gs _)
              refine g_callVN [aO (some aU), aI ((p25 : Int)), aI ((p31 : Int)), aI ((p37 : Int))] [] rfl rfl rfl rfl (Nat.le_of_ble_eq_true rfl) ms.1 (m_put (by omega) ms V37 (by have := G_38.2.2.1; omega) aU hU p25 p31 p37) ?_
              rintro _ ⟨V39, rfl, p39, g39, s39, xp39⟩
              have G_40 := G_38.trans (g39.wide (fun q hq => by have hq : q = aU := hq; show q = o + 26 ∨ q = o + 27 ∨ q = o + 28 ∨ q = aU; omega))
              refine g_iconst rfl ?_
              refine g_zret rfl (by omega) ?_
              refine ⟨V39, rfl, G_40.mono (by omega), ?_⟩
              have l0 := @lcmp_0 (m_dot_S (m_cross_S P Q) R) 0
              have m0 := @lcmp_lt (m_dot_S (m_cross_S P Q) R) 0
              have n0 := @lcmp_gt (0) (m_dot_S (m_cross_S P Q) R)
              have n0q := @lcmp_gt (m_dot_S (m_cross_S P Q) R) 0
              have l1 := @lcmp_0 ((m_cross_S P Q).1) 0
              have m1 := @lcmp_lt ((m_cross_S P Q).1) 0
              have n1 := @lcmp_gt (0) ((m_cross_S P Q).1)
              have n1q := @lcmp_gt ((m_cross_S P Q).1) 0
              have l2 := @lcmp_0 ((m_cross_S P Q).2.1) 0
              have m2 := @lcmp_lt ((m_cross_S P Q).2.1) 0
              have n2 := @lcmp_gt (0) ((m_cross_S P Q).2.1)
              have n2q := @lcmp_gt ((m_cross_S P Q).2.1) 0
              have l3 := @lcmp_0 ((m_cross_S P Q).2.2.1) 0
              have m3 := @lcmp_lt ((m_cross_S P Q).2.2.1) 0
              have n3 := @lcmp_gt (0) ((m_cross_S P Q).2.2.1)
              have n3q := @lcmp_gt ((m_cross_S P Q).2.2.1) 0
              unfold m_harm_O
              rw [if_neg (by unfold m_harm_C; omega)]
              unfold m_harm_S
              first
                | rw [if_pos (by omega)]
                | rw [if_neg (by omega), if_pos (by omega)]
                | rw [if_neg (by omega), if_neg (by omega)]
              exact ⟨rfl, _, _, _, _, s39, ((g39.rb (g37.rb (g35.rb (g33.rb (g31.rb (g29.rb (g27.rb xp25))))))).up (by omega)), ((g39.rb (g37.rb (g35.rb (g33.rb xp31)))).up (by omega)), ((g39.rb xp37).up (by omega)), (xp39.up (by omega))⟩
            · skip
              refine g_iconst rfl ?_
              refine g_goto rfl ?_
              refine g_istore (l1 := [(5, aI 1), (0, aO (some o)), (1, aO (some aP)), (2, aO (some aQ)), (3, aO (some aR)), (4, aO (some aU))]) rfl rfl ?_
              refine g_aload_n rfl rfl ?_
              refine g_getR rfl ms.1 (mr_five ms) ?_
              refine g_iload rfl rfl ?_
              refine g_iald (i := 1) rfl (mt_five ms) (by omega) (by omega) ?_
              refine g_top (v2 := aI ((u5 : Int))) (congrArg aI (by exact (g13.sa (show SLa o ((o + 28)) by unfold SLa; omega) s5).2.1)) ?_
              refine g_istore (l1 := [(6, aI ((u5 : Int))), (5, aI 1), (0, aO (some o)), (1, aO (some aP)), (2, aO (some aQ)), (3, aO (some aR)), (4, aO (some aU))]) rfl rfl ?_
              refine g_aload_n rfl rfl ?_
              refine g_getR rfl ms.1 (mr_four ms) ?_
              refine g_iload rfl rfl ?_
              refine g_iald (i := 1) rfl (mt_four ms) (by omega) (by omega) ?_
              refine g_top (v2 := aI ((u3 : Int))) (congrArg aI (by exact (g13.sa (show SLa o ((o + 27)) by unfold SLa; omega) (g5.sa (show SLa o ((o + 27)) by unfold SLa; omega) (show ¬(o + 27 = o + 28) by omega) s3)).2.1)) ?_
              refine g_istore (l1 := [(7, aI ((u3 : Int))), (6, aI ((u5 : Int))), (5, aI 1), (0, aO (some o)), (1, aO (some aP)), (2, aO (some aQ)), (3, aO (some aR)), (4, aO (some aU))]) rfl rfl ?_
              refine g_aload_n rfl rfl ?_
              refine g_aload rfl rfl ?_
              refine g_aload_n rfl rfl ?_
              refine g_aload_n rfl rfl ?_
              refine g_iload rfl rfl ?_
              refine g_aload_n rfl rfl ?_
              refine g_iconst rfl ?_
              refine g_iald (i := 0) rfl (ms.slot hP) (by omega) (by omega) ?_
              refine g_top (v2 := aI ((Pp : Int))) (congrArg aI (by exact (g13.sa hP (g5.sa hP (show ¬(aP = o + 28) by omega) (g3.sa hP (show ¬(aP = o + 27) by omega) (g1.sa hP (show ¬(aP = o + 26) by omega) sP)))).1)) ?_
              refine g_callVI [aI ((u5 : Int)), aI ((Pp : Int))] [aO (some o), aO (some aU), aO (some o)] rfl rfl rfl rfl (Nat.le_of_ble_eq_true rfl) ms.1 (r_mul (by omega) ms V13 (by have := G_14.2.2.1; omega) (g13.rb xu5) (g13.rb (g5.rb (g3.rb (g1.rb xPp)))) (by omega)) ?_
              rintro _ _ ⟨p41, rfl, V41, rfl, g41, xp41⟩
              have G_42 := G_14.trans (g41.gs _)
              refine g_aload_n rfl rfl ?_
              refine g_iload rfl rfl ?_
              refine g_aload_n rfl rfl ?_
              refine g_iconst rfl ?_
              refine g_iald (i := 0) rfl (ms.slot hQ) (by omega) (by omega) ?_
              refine g_top (v2 := aI ((Qp : Int))) (congrArg aI (by exact (g41.sa hQ (g13.sa hQ (g5.sa hQ (show ¬(aQ = o + 28) by omega) (g3.sa hQ (show ¬(aQ = o + 27) by omega) (g1.sa hQ (show ¬(aQ = o + 26) by omega) sQ))))).1)) ?_
              refine g_callVI [aI ((u3 : Int)), aI ((Qp : Int))] [aI ((p41 : Int)), aO (some o), aO (some aU), aO (some o)] rfl rfl rfl rfl (Nat.le_of_ble_eq_true rfl) ms.1 (r_mul (by omega) ms V41 (by have := G_42.2.2.1; omega) (g41.rb (g13.rb (g5.rb xu3))) (g41.rb (g13.rb (g5.rb (g3.rb (g1.rb xQp))))) (by omega)) ?_
              rintro _ _ ⟨p43, rfl, V43, rfl, g43, xp43⟩
              have G_44 := G_42.trans (g43.gs _)
              refine g_callVI [aI ((p41 : Int)), aI ((p43 : Int))] [aO (some aU), aO (some o)] rfl rfl rfl rfl (Nat.le_of_ble_eq_true rfl) ms.1 (r_sub (by omega) ms V43 (by have := G_44.2.2.1; omega) (g43.rb xp41) xp43 (62) (by omega) (by omega) (by omega)) ?_
              rintro _ _ ⟨p45, rfl, V45, rfl, g45, xp45⟩
              have G_46 := G_44.trans (g45.gs _)
              refine g_aload_n rfl rfl ?_
              refine g_aload_n rfl rfl ?_
              refine g_iload rfl rfl ?_
              refine g_aload_n rfl rfl ?_
              refine g_iconst rfl ?_
              refine g_iald (i := 1) rfl (ms.slot hP) (by omega) (by omega) ?_
              refine g_top (v2 := aI ((Pq : Int))) (congrArg aI (by exact (g45.sa hP (g43.sa hP (g41.sa hP (g13.sa hP (g5.sa hP (show ¬(aP = o + 28) by omega) (g3.sa hP (show ¬(aP = o + 27) by omega) (g1.sa hP (show ¬(aP = o + 26) by omega) sP))))))).2.1)) ?_
              refine g_callVI [aI ((u5 : Int)), aI ((Pq : Int))] [aO (some o), aI ((p45 : Int)), aO (some aU), aO (some o)] rfl rfl rfl rfl (Nat.le_of_ble_eq_true rfl) ms.1 (r_mul (by omega) ms V45 (by have := G_46.2.2.1; omega) (g45.rb (g43.rb (g41.rb (g13.rb xu5)))) (g45.rb (g43.rb (g41.rb (g13.rb (g5.rb (g3.rb (g1.rb xPq))))))) (by omega)) ?_
              rintro _ _ ⟨p47, rfl, V47, rfl, g47, xp47⟩
              have G_48 := G_46.trans (g47.gs _)
              refine g_aload_n rfl rfl ?_
              refine g_iload rfl rfl ?_
              refine g_aload_n rfl rfl ?_
              refine g_iconst rfl ?_
              refine g_iald (i := 1) rfl (ms.slot hQ) (by omega) (by omega) ?_
              refine g_top (v2 := aI ((Qq : Int))) (congrArg aI (by exact (g47.sa hQ (g45.sa hQ (g43.sa hQ (g41.sa hQ (g13.sa hQ (g5.sa hQ (show ¬(aQ = o + 28) by omega) (g3.sa hQ (show ¬(aQ = o + 27) by omega) (g1.sa hQ (show ¬(aQ = o + 26) by omega) sQ)))))))).2.1)) ?_
              refine g_callVI [aI ((u3 : Int)), aI ((Qq : Int))] [aI ((p47 : Int)), aO (some o), aI ((p45 : Int)), aO (some aU), aO (some o)] rfl rfl rfl rfl (Nat.le_of_ble_eq_true rfl) ms.1 (r_mul (by omega) ms V47 (by have := G_48.2.2.1; omega) (g47.rb (g45.rb (g43.rb (g41.rb (g13.rb (g5.rb xu3)))))) (g47.rb (g45.rb (g43.rb (g41.rb (g13.rb (g5.rb (g3.rb (g1.rb xQq)))))))) (by omega)) ?_
              rintro _ _ ⟨p49, rfl, V49, rfl, g49, xp49⟩
              have G_50 := G_48.trans (g49.gs _)
              refine g_callVI [aI ((p47 : Int)), aI ((p49 : Int))] [aI ((p45 : Int)), aO (some aU), aO (some o)] rfl rfl rfl rfl (Nat.le_of_ble_eq_true rfl) ms.1 (r_sub (by omega) ms V49 (by have := G_50.2.2.1; omega) (g49.rb xp47) xp49 (62) (by omega) (by omega) (by omega)) ?_
              rintro _ _ ⟨p51, rfl, V51, rfl, g51, xp51⟩
              have G_52 := G_50.trans (g51.gs _)
              refine g_aload_n rfl rfl ?_
              refine g_aload_n rfl rfl ?_
              refine g_iload rfl rfl ?_
              refine g_aload_n rfl rfl ?_
              refine g_iconst rfl ?_
              refine g_iald (i := 2) rfl (ms.slot hP) (by omega) (by omega) ?_
              refine g_top (v2 := aI ((Pr : Int))) (congrArg aI (by exact (g51.sa hP (g49.sa hP (g47.sa hP (g45.sa hP (g43.sa hP (g41.sa hP (g13.sa hP (g5.sa hP (show ¬(aP = o + 28) by omega) (g3.sa hP (show ¬(aP = o + 27) by omega) (g1.sa hP (show ¬(aP = o + 26) by omega) sP)))))))))).2.2.1)) ?_
              refine g_callVI [aI ((u5 : Int)), aI ((Pr : Int))] [aO (some o), aI ((p51 : Int)), aI ((p45 : Int)), aO (some aU), aO (some o)] rfl rfl rfl rfl (Nat.le_of_ble_eq_true rfl) ms.1 (r_mul (by omega) ms V51 (by have := G_52.2.2.1; omega) (g51.rb (g49.rb (g47.rb (g45.rb (g43.rb (g41.rb (g13.rb xu5))))))) (g51.rb (g49.rb (g47.rb (g45.rb (g43.rb (g41.rb (g13.rb (g5.rb (g3.rb (g1.rb xPr)))))))))) (by omega)) ?_
              rintro _ _ ⟨p53, rfl, V53, rfl, g53, xp53⟩
              have G_54 := G_52.trans (g53.gs _)
              refine g_aload_n rfl rfl ?_
              refine g_iload rfl rfl ?_
              refine g_aload_n rfl rfl ?_
              refine g_iconst rfl ?_
              refine g_iald (i := 2) rfl (ms.slot hQ) (by omega) (by omega) ?_
              refine g_top (v2 := aI ((Qr : Int))) (congrArg aI (by exact (g53.sa hQ (g51.sa hQ (g49.sa hQ (g47.sa hQ (g45.sa hQ (g43.sa hQ (g41.sa hQ (g13.sa hQ (g5.sa hQ (show ¬(aQ = o + 28) by omega) (g3.sa hQ (show ¬(aQ = o + 27) by omega) (g1.sa hQ (show ¬(aQ = o + 26) by omega) sQ))))))))))).2.2.1)) ?_
              refine g_callVI [aI ((u3 : Int)), aI ((Qr : Int))] [aI ((p53 : Int)), aO (some o), aI ((p51 : Int)), aI ((p45 : Int)), aO (some aU), aO (some o)] rfl rfl rfl rfl (Nat.le_of_ble_eq_true rfl) ms.1 (r_mul (by omega) ms V53 (by have := G_54.2.2.1; omega) (g53.rb (g51.rb (g49.rb (g47.rb (g45.rb (g43.rb (g41.rb (g13.rb (g5.rb xu3))))))))) (g53.rb (g51.rb (g49.rb (g47.rb (g45.rb (g43.rb (g41.rb (g13.rb (g5.rb (g3.rb (g1.rb xQr))))))))))) (by omega)) ?_
              rintro _ _ ⟨p55, rfl, V55, rfl, g55, xp55⟩
              have G_56 := G_54.trans (g55.gs _)
              refine g_callVI [aI ((p53 : Int)), aI ((p55 : Int))] [aI ((p51 : Int)), aI ((p45 : Int)), aO (some aU), aO (some o)] rfl rfl rfl rfl (Nat.le_of_ble_eq_true rfl) ms.1 (r_sub (by omega) ms V55 (by have := G_56.2.2.1; omega) (g55.rb xp53) xp55 (62) (by omega) (by omega) (by omega)) ?_
              rintro _ _ ⟨p57, rfl, V57, rfl, g57, xp57⟩
              have G_58 := G_56.trans (g57.gs _)
              refine g_callVN [aO (some aU), aI ((p45 : Int)), aI ((p51 : Int)), aI ((p57 : Int))] [] rfl rfl rfl rfl (Nat.le_of_ble_eq_true rfl) ms.1 (m_put (by omega) ms V57 (by have := G_58.2.2.1; omega) aU hU p45 p51 p57) ?_
              rintro _ ⟨V59, rfl, p59, g59, s59, xp59⟩
              have G_60 := G_58.trans (g59.wide (fun q hq => by have hq : q = aU := hq; show q = o + 26 ∨ q = o + 27 ∨ q = o + 28 ∨ q = aU; omega))
              refine g_iconst rfl ?_
              refine g_zret rfl (by omega) ?_
              refine ⟨V59, rfl, G_60.mono (by omega), ?_⟩
              have l0 := @lcmp_0 (m_dot_S (m_cross_S P Q) R) 0
              have m0 := @lcmp_lt (m_dot_S (m_cross_S P Q) R) 0
              have n0 := @lcmp_gt (0) (m_dot_S (m_cross_S P Q) R)
              have n0q := @lcmp_gt (m_dot_S (m_cross_S P Q) R) 0
              have l1 := @lcmp_0 ((m_cross_S P Q).1) 0
              have m1 := @lcmp_lt ((m_cross_S P Q).1) 0
              have n1 := @lcmp_gt (0) ((m_cross_S P Q).1)
              have n1q := @lcmp_gt ((m_cross_S P Q).1) 0
              have l2 := @lcmp_0 ((m_cross_S P Q).2.1) 0
              have m2 := @lcmp_lt ((m_cross_S P Q).2.1) 0
              have n2 := @lcmp_gt (0) ((m_cross_S P Q).2.1)
              have n2q := @lcmp_gt ((m_cross_S P Q).2.1) 0
              have l3 := @lcmp_0 ((m_cross_S P Q).2.2.1) 0
              have m3 := @lcmp_lt ((m_cross_S P Q).2.2.1) 0
              have n3 := @lcmp_gt (0) ((m_cross_S P Q).2.2.1)
              have n3q := @lcmp_gt ((m_cross_S P Q).2.2.1) 0
              unfold m_harm_O
              rw [if_neg (by unfold m_harm_C; omega)]
              unfold m_harm_S
              first
                | rw [if_pos (by omega)]
                | rw [if_neg (by omega), if_pos (by omega)]
                | rw [if_neg (by omega), if_neg (by omega)]
              exact ⟨rfl, _, _, _, _, s59, ((g59.rb (g57.rb (g55.rb (g53.rb (g51.rb (g49.rb (g47.rb xp45))))))).up (by omega)), ((g59.rb (g57.rb (g55.rb (g53.rb xp51)))).up (by omega)), ((g59.rb xp57).up (by omega)), (xp59.up (by omega))⟩
          · skip
            refine g_iconst rfl ?_
            refine g_goto rfl ?_
            refine g_istore (l1 := [(5, aI 0), (0, aO (some o)), (1, aO (some aP)), (2, aO (some aQ)), (3, aO (some aR)), (4, aO (some aU))]) rfl rfl ?_
            refine g_aload_n rfl rfl ?_
            refine g_getR rfl ms.1 (mr_five ms) ?_
            refine g_iload rfl rfl ?_
            refine g_iald (i := 0) rfl (mt_five ms) (by omega) (by omega) ?_
            refine g_top (v2 := aI ((t5 : Int))) (congrArg aI (by exact (g13.sa (show SLa o ((o + 28)) by unfold SLa; omega) s5).1)) ?_
            refine g_istore (l1 := [(6, aI ((t5 : Int))), (5, aI 0), (0, aO (some o)), (1, aO (some aP)), (2, aO (some aQ)), (3, aO (some aR)), (4, aO (some aU))]) rfl rfl ?_
            refine g_aload_n rfl rfl ?_
            refine g_getR rfl ms.1 (mr_four ms) ?_
            refine g_iload rfl rfl ?_
            refine g_iald (i := 0) rfl (mt_four ms) (by omega) (by omega) ?_
            refine g_top (v2 := aI ((t3 : Int))) (congrArg aI (by exact (g13.sa (show SLa o ((o + 27)) by unfold SLa; omega) (g5.sa (show SLa o ((o + 27)) by unfold SLa; omega) (show ¬(o + 27 = o + 28) by omega) s3)).1)) ?_
            refine g_istore (l1 := [(7, aI ((t3 : Int))), (6, aI ((t5 : Int))), (5, aI 0), (0, aO (some o)), (1, aO (some aP)), (2, aO (some aQ)), (3, aO (some aR)), (4, aO (some aU))]) rfl rfl ?_
            refine g_aload_n rfl rfl ?_
            refine g_aload rfl rfl ?_
            refine g_aload_n rfl rfl ?_
            refine g_aload_n rfl rfl ?_
            refine g_iload rfl rfl ?_
            refine g_aload_n rfl rfl ?_
            refine g_iconst rfl ?_
            refine g_iald (i := 0) rfl (ms.slot hP) (by omega) (by omega) ?_
            refine g_top (v2 := aI ((Pp : Int))) (congrArg aI (by exact (g13.sa hP (g5.sa hP (show ¬(aP = o + 28) by omega) (g3.sa hP (show ¬(aP = o + 27) by omega) (g1.sa hP (show ¬(aP = o + 26) by omega) sP)))).1)) ?_
            refine g_callVI [aI ((t5 : Int)), aI ((Pp : Int))] [aO (some o), aO (some aU), aO (some o)] rfl rfl rfl rfl (Nat.le_of_ble_eq_true rfl) ms.1 (r_mul (by omega) ms V13 (by have := G_14.2.2.1; omega) (g13.rb xt5) (g13.rb (g5.rb (g3.rb (g1.rb xPp)))) (by omega)) ?_
            rintro _ _ ⟨p61, rfl, V61, rfl, g61, xp61⟩
            have G_62 := G_14.trans (g61.gs _)
            refine g_aload_n rfl rfl ?_
            refine g_iload rfl rfl ?_
            refine g_aload_n rfl rfl ?_
            refine g_iconst rfl ?_
            refine g_iald (i := 0) rfl (ms.slot hQ) (by omega) (by omega) ?_
            refine g_top (v2 := aI ((Qp : Int))) (congrArg aI (by exact (g61.sa hQ (g13.sa hQ (g5.sa hQ (show ¬(aQ = o + 28) by omega) (g3.sa hQ (show ¬(aQ = o + 27) by omega) (g1.sa hQ (show ¬(aQ = o + 26) by omega) sQ))))).1)) ?_
            refine g_callVI [aI ((t3 : Int)), aI ((Qp : Int))] [aI ((p61 : Int)), aO (some o), aO (some aU), aO (some o)] rfl rfl rfl rfl (Nat.le_of_ble_eq_true rfl) ms.1 (r_mul (by omega) ms V61 (by have := G_62.2.2.1; omega) (g61.rb (g13.rb (g5.rb xt3))) (g61.rb (g13.rb (g5.rb (g3.rb (g1.rb xQp))))) (by omega)) ?_
            rintro _ _ ⟨p63, rfl, V63, rfl, g63, xp63⟩
            have G_64 := G_62.trans (g63.gs _)
            refine g_callVI [aI ((p61 : Int)), aI ((p63 : Int))] [aO (some aU), aO (some o)] rfl rfl rfl rfl (Nat.le_of_ble_eq_true rfl) ms.1 (r_sub (by omega) ms V63 (by have := G_64.2.2.1; omega) (g63.rb xp61) xp63 (62) (by omega) (by omega) (by omega)) ?_
            rintro _ _ ⟨p65, rfl, V65, rfl, g65, xp65⟩
            have G_66 := G_64.trans (g65.gs _)
            refine g_aload_n rfl rfl ?_
            refine g_aload_n rfl rfl ?_
            refine g_iload rfl rfl ?_
            refine g_aload_n rfl rfl ?_
            refine g_iconst rfl ?_
            refine g_iald (i := 1) rfl (ms.slot hP) (by omega) (by omega) ?_
            refine g_top (v2 := aI ((Pq : Int))) (congrArg aI (by exact (g65.sa hP (g63.sa hP (g61.sa hP (g13.sa hP (g5.sa hP (show ¬(aP = o + 28) by omega) (g3.sa hP (show ¬(aP = o + 27) by omega) (g1.sa hP (show ¬(aP = o + 26) by omega) sP))))))).2.1)) ?_
            refine g_callVI [aI ((t5 : Int)), aI ((Pq : Int))] [aO (some o), aI ((p65 : Int)), aO (some aU), aO (some o)] rfl rfl rfl rfl (Nat.le_of_ble_eq_true rfl) ms.1 (r_mul (by omega) ms V65 (by have := G_66.2.2.1; omega) (g65.rb (g63.rb (g61.rb (g13.rb xt5)))) (g65.rb (g63.rb (g61.rb (g13.rb (g5.rb (g3.rb (g1.rb xPq))))))) (by omega)) ?_
            rintro _ _ ⟨p67, rfl, V67, rfl, g67, xp67⟩
            have G_68 := G_66.trans (g67.gs _)
            refine g_aload_n rfl rfl ?_
            refine g_iload rfl rfl ?_
            refine g_aload_n rfl rfl ?_
            refine g_iconst rfl ?_
            refine g_iald (i := 1) rfl (ms.slot hQ) (by omega) (by omega) ?_
            refine g_top (v2 := aI ((Qq : Int))) (congrArg aI (by exact (g67.sa hQ (g65.sa hQ (g63.sa hQ (g61.sa hQ (g13.sa hQ (g5.sa hQ (show ¬(aQ = o + 28) by omega) (g3.sa hQ (show ¬(aQ = o + 27) by omega) (g1.sa hQ (show ¬(aQ = o + 26) by omega) sQ)))))))).2.1)) ?_
            refine g_callVI [aI ((t3 : Int)), aI ((Qq : Int))] [aI ((p67 : Int)), aO (some o), aI ((p65 : Int)), aO (some aU), aO (some o)] rfl rfl rfl rfl (Nat.le_of_ble_eq_true rfl) ms.1 (r_mul (by omega) ms V67 (by have := G_68.2.2.1; omega) (g67.rb (g65.rb (g63.rb (g61.rb (g13.rb (g5.rb xt3)))))) (g67.rb (g65.rb (g63.rb (g61.rb (g13.rb (g5.rb (g3.rb (g1.rb xQq)))))))) (by omega)) ?_
            rintro _ _ ⟨p69, rfl, V69, rfl, g69, xp69⟩
            have G_70 := G_68.trans (g69.gs _)
            refine g_callVI [aI ((p67 : Int)), aI ((p69 : Int))] [aI ((p65 : Int)), aO (some aU), aO (some o)] rfl rfl rfl rfl (Nat.le_of_ble_eq_true rfl) ms.1 (r_sub (by omega) ms V69 (by have := G_70.2.2.1; omega) (g69.rb xp67) xp69 (62) (by omega) (by omega) (by omega)) ?_
            rintro _ _ ⟨p71, rfl, V71, rfl, g71, xp71⟩
            have G_72 := G_70.trans (g71.gs _)
            refine g_aload_n rfl rfl ?_
            refine g_aload_n rfl rfl ?_
            refine g_iload rfl rfl ?_
            refine g_aload_n rfl rfl ?_
            refine g_iconst rfl ?_
            refine g_iald (i := 2) rfl (ms.slot hP) (by omega) (by omega) ?_
            refine g_top (v2 := aI ((Pr : Int))) (congrArg aI (by exact (g71.sa hP (g69.sa hP (g67.sa hP (g65.sa hP (g63.sa hP (g61.sa hP (g13.sa hP (g5.sa hP (show ¬(aP = o + 28) by omega) (g3.sa hP (show ¬(aP = o + 27) by omega) (g1.sa hP (show ¬(aP = o + 26) by omega) sP)))))))))).2.2.1)) ?_
            refine g_callVI [aI ((t5 : Int)), aI ((Pr : Int))] [aO (some o), aI ((p71 : Int)), aI ((p65 : Int)), aO (some aU), aO (some o)] rfl rfl rfl rfl (Nat.le_of_ble_eq_true rfl) ms.1 (r_mul (by omega) ms V71 (by have := G_72.2.2.1; omega) (g71.rb (g69.rb (g67.rb (g65.rb (g63.rb (g61.rb (g13.rb xt5))))))) (g71.rb (g69.rb (g67.rb (g65.rb (g63.rb (g61.rb (g13.rb (g5.rb (g3.rb (g1.rb xPr)))))))))) (by omega)) ?_
            rintro _ _ ⟨p73, rfl, V73, rfl, g73, xp73⟩
            have G_74 := G_72.trans (g73.gs _)
            refine g_aload_n rfl rfl ?_
            refine g_iload rfl rfl ?_
            refine g_aload_n rfl rfl ?_
            refine g_iconst rfl ?_
            refine g_iald (i := 2) rfl (ms.slot hQ) (by omega) (by omega) ?_
            refine g_top (v2 := aI ((Qr : Int))) (congrArg aI (by exact (g73.sa hQ (g71.sa hQ (g69.sa hQ (g67.sa hQ (g65.sa hQ (g63.sa hQ (g61.sa hQ (g13.sa hQ (g5.sa hQ (show ¬(aQ = o + 28) by omega) (g3.sa hQ (show ¬(aQ = o + 27) by omega) (g1.sa hQ (show ¬(aQ = o + 26) by omega) sQ))))))))))).2.2.1)) ?_
            refine g_callVI [aI ((t3 : Int)), aI ((Qr : Int))] [aI ((p73 : Int)), aO (some o), aI ((p71 : Int)), aI ((p65 : Int)), aO (some aU), aO (some o)] rfl rfl rfl rfl (Nat.le_of_ble_eq_true rfl) ms.1 (r_mul (by omega) ms V73 (by have := G_74.2.2.1; omega) (g73.rb (g71.rb (g69.rb (g67.rb (g65.rb (g63.rb (g61.rb (g13.rb (g5.rb xt3))))))))) (g73.rb (g71.rb (g69.rb (g67.rb (g65.rb (g63.rb (g61.rb (g13.rb (g5.rb (g3.rb (g1.rb xQr))))))))))) (by omega)) ?_
            rintro _ _ ⟨p75, rfl, V75, rfl, g75, xp75⟩
            have G_76 := G_74.trans (g75.gs _)
            refine g_callVI [aI ((p73 : Int)), aI ((p75 : Int))] [aI ((p71 : Int)), aI ((p65 : Int)), aO (some aU), aO (some o)] rfl rfl rfl rfl (Nat.le_of_ble_eq_true rfl) ms.1 (r_sub (by omega) ms V75 (by have := G_76.2.2.1; omega) (g75.rb xp73) xp75 (62) (by omega) (by omega) (by omega)) ?_
            rintro _ _ ⟨p77, rfl, V77, rfl, g77, xp77⟩
            have G_78 := G_76.trans (g77.gs _)
            refine g_callVN [aO (some aU), aI ((p65 : Int)), aI ((p71 : Int)), aI ((p77 : Int))] [] rfl rfl rfl rfl (Nat.le_of_ble_eq_true rfl) ms.1 (m_put (by omega) ms V77 (by have := G_78.2.2.1; omega) aU hU p65 p71 p77) ?_
            rintro _ ⟨V79, rfl, p79, g79, s79, xp79⟩
            have G_80 := G_78.trans (g79.wide (fun q hq => by have hq : q = aU := hq; show q = o + 26 ∨ q = o + 27 ∨ q = o + 28 ∨ q = aU; omega))
            refine g_iconst rfl ?_
            refine g_zret rfl (by omega) ?_
            refine ⟨V79, rfl, G_80.mono (by omega), ?_⟩
            have l0 := @lcmp_0 (m_dot_S (m_cross_S P Q) R) 0
            have m0 := @lcmp_lt (m_dot_S (m_cross_S P Q) R) 0
            have n0 := @lcmp_gt (0) (m_dot_S (m_cross_S P Q) R)
            have n0q := @lcmp_gt (m_dot_S (m_cross_S P Q) R) 0
            have l1 := @lcmp_0 ((m_cross_S P Q).1) 0
            have m1 := @lcmp_lt ((m_cross_S P Q).1) 0
            have n1 := @lcmp_gt (0) ((m_cross_S P Q).1)
            have n1q := @lcmp_gt ((m_cross_S P Q).1) 0
            have l2 := @lcmp_0 ((m_cross_S P Q).2.1) 0
            have m2 := @lcmp_lt ((m_cross_S P Q).2.1) 0
            have n2 := @lcmp_gt (0) ((m_cross_S P Q).2.1)
            have n2q := @lcmp_gt ((m_cross_S P Q).2.1) 0
            have l3 := @lcmp_0 ((m_cross_S P Q).2.2.1) 0
            have m3 := @lcmp_lt ((m_cross_S P Q).2.2.1) 0
            have n3 := @lcmp_gt (0) ((m_cross_S P Q).2.2.1)
            have n3q := @lcmp_gt ((m_cross_S P Q).2.2.1) 0
            unfold m_harm_O
            rw [if_neg (by unfold m_harm_C; omega)]
            unfold m_harm_S
            first
              | rw [if_pos (by omega)]
              | rw [if_neg (by omega), if_pos (by omega)]
              | rw [if_neg (by omega), if_neg (by omega)]
            exact ⟨rfl, _, _, _, _, s79, ((g79.rb (g77.rb (g75.rb (g73.rb (g71.rb (g69.rb (g67.rb xp65))))))).up (by omega)), ((g79.rb (g77.rb (g75.rb (g73.rb xp71)))).up (by omega)), ((g79.rb xp77).up (by omega)), (xp79.up (by omega))⟩
        · skip
          refine g_iconst rfl ?_
          refine g_zret rfl (by omega) ?_
          refine ⟨V13, rfl, G_14.mono (by omega), ?_⟩
          have l0 := @lcmp_0 (m_dot_S (m_cross_S P Q) R) 0
          have m0 := @lcmp_lt (m_dot_S (m_cross_S P Q) R) 0
          have n0 := @lcmp_gt (0) (m_dot_S (m_cross_S P Q) R)
          have n0q := @lcmp_gt (m_dot_S (m_cross_S P Q) R) 0
          have l1 := @lcmp_0 ((m_cross_S P Q).1) 0
          have m1 := @lcmp_lt ((m_cross_S P Q).1) 0
          have n1 := @lcmp_gt (0) ((m_cross_S P Q).1)
          have n1q := @lcmp_gt ((m_cross_S P Q).1) 0
          have l2 := @lcmp_0 ((m_cross_S P Q).2.1) 0
          have m2 := @lcmp_lt ((m_cross_S P Q).2.1) 0
          have n2 := @lcmp_gt (0) ((m_cross_S P Q).2.1)
          have n2q := @lcmp_gt ((m_cross_S P Q).2.1) 0
          have l3 := @lcmp_0 ((m_cross_S P Q).2.2.1) 0
          have m3 := @lcmp_lt ((m_cross_S P Q).2.2.1) 0
          have n3 := @lcmp_gt (0) ((m_cross_S P Q).2.2.1)
          have n3q := @lcmp_gt ((m_cross_S P Q).2.2.1) 0
          unfold m_harm_O
          rw [if_pos (by unfold m_harm_C; omega)]
          rfl
def m_norm_S (L : T4) : Int := (L.1 * L.1) + (L.2.1 * L.2.1)
def m_reach_S (L R : T4) : Int := (2 * R.1 * L.2.2.1) - ((L.1 * R.2.1) + (L.2.1 * R.2.2.1))
def m_depth_S (L R : T4) : Int := ((m_bulge_S R) * (m_norm_S L)) - ((m_reach_S L R) * (m_reach_S L R))
def m_hit_S (L R : T4) (s : Int) : T4 := ((-((R.2.1 * (m_norm_S L)) + ((m_reach_S L R) * L.1))) + (s * L.2.1), (-((R.2.2.1 * (m_norm_S L)) + ((m_reach_S L R) * L.2.1))) - (s * L.1), 2 * R.1 * (m_norm_S L), 0)
abbrev m_fwd (b : Bool) (L : T4) : Prop := (b = true ∧ (0 < L.2.1 ∨ L.2.1 = 0 ∧ ¬ 0 < L.1)) ∨ (b = false ∧ (L.2.1 < 0 ∨ L.2.1 = 0 ∧ 0 < L.1))
theorem m_fwd1 {L : T4} : m_fwd true L ↔ (0 < L.2.1 ∨ L.2.1 = 0 ∧ ¬ 0 < L.1) := by unfold m_fwd; simp
theorem m_fwd0 {L : T4} : m_fwd false L ↔ (L.2.1 < 0 ∨ L.2.1 = 0 ∧ 0 < L.1) := by unfold m_fwd; simp
noncomputable def m_meet_O (b : Bool) (L R : T4) : Option T4 := if L.1 = 0 ∧ L.2.1 = 0 then none else match rootO (m_depth_S L R) with
  | none => none
  | some s => some (m_hit_S L R (if m_fwd b L then s else -s))
theorem m_meet_no {b : Bool} {L R : T4} (h : L.1 = 0 ∧ L.2.1 = 0) : m_meet_O b L R = none := by unfold m_meet_O; rw [if_pos h]
theorem m_meet_no2 {b : Bool} {L R : T4} (h : ¬(L.1 = 0 ∧ L.2.1 = 0)) (e : rootO (m_depth_S L R) = none) : m_meet_O b L R = none := by unfold m_meet_O; rw [if_neg h, e]
theorem m_meet_t {b : Bool} {L R : T4} {s : Int} (h : ¬(L.1 = 0 ∧ L.2.1 = 0)) (e : rootO (m_depth_S L R) = some s) (q : m_fwd b L) : m_meet_O b L R = some (m_hit_S L R s) := by
  unfold m_meet_O
  rw [if_neg h, e]
  show some (m_hit_S L R (if m_fwd b L then s else -s)) = _
  rw [if_pos q]
theorem m_meet_f {b : Bool} {L R : T4} {s : Int} (h : ¬(L.1 = 0 ∧ L.2.1 = 0)) (e : rootO (m_depth_S L R) = some s) (q : ¬ m_fwd b L) : m_meet_O b L R = some (m_hit_S L R (-s)) := by
  unfold m_meet_O
  rw [if_neg h, e]
  show some (m_hit_S L R (if m_fwd b L then s else -s)) = _
  rw [if_neg q]
def m_thru_S (P : T4) (Q : T4) (R : T4) : T4 := (m_rows_S (P.1 * P.2.2.1) (P.2.1 * P.2.2.1) (P.2.2.1 * P.2.2.1) (Q.1 * Q.2.2.1) (Q.2.1 * Q.2.2.1) (Q.2.2.1 * Q.2.2.1) (R.1 * R.2.2.1) (R.2.1 * R.2.2.1) (R.2.2.1 * R.2.2.1), -(m_rows_S ((P.1 * P.1) + (P.2.1 * P.2.1)) (P.2.1 * P.2.2.1) (P.2.2.1 * P.2.2.1) ((Q.1 * Q.1) + (Q.2.1 * Q.2.1)) (Q.2.1 * Q.2.2.1) (Q.2.2.1 * Q.2.2.1) ((R.1 * R.1) + (R.2.1 * R.2.1)) (R.2.1 * R.2.2.1) (R.2.2.1 * R.2.2.1)), m_rows_S ((P.1 * P.1) + (P.2.1 * P.2.1)) (P.1 * P.2.2.1) (P.2.2.1 * P.2.2.1) ((Q.1 * Q.1) + (Q.2.1 * Q.2.1)) (Q.1 * Q.2.2.1) (Q.2.2.1 * Q.2.2.1) ((R.1 * R.1) + (R.2.1 * R.2.1)) (R.1 * R.2.2.1) (R.2.2.1 * R.2.2.1), -(m_rows_S ((P.1 * P.1) + (P.2.1 * P.2.1)) (P.1 * P.2.2.1) (P.2.1 * P.2.2.1) ((Q.1 * Q.1) + (Q.2.1 * Q.2.1)) (Q.1 * Q.2.2.1) (Q.2.1 * Q.2.2.1) ((R.1 * R.1) + (R.2.1 * R.2.1)) (R.1 * R.2.2.1) (R.2.1 * R.2.2.1)))
def m_thru_O (P : T4) (Q : T4) (R : T4) : Option T4 := if m_rows_S (P.1 * P.2.2.1) (P.2.1 * P.2.2.1) (P.2.2.1 * P.2.2.1) (Q.1 * Q.2.2.1) (Q.2.1 * Q.2.2.1) (Q.2.2.1 * Q.2.2.1) (R.1 * R.2.2.1) (R.2.1 * R.2.2.1) (R.2.2.1 * R.2.2.1) = 0 then none else some (m_thru_S P Q R)
set_option maxRecDepth 100000 in
set_option maxHeartbeats 4000000 in
theorem m_thru {w : aW} {d : Nat} (hd : 7 ≤ d) {k : Nat} {h : aH} {o : Nat} (ms : MS h o) (V : Nat → Nat → Int) (hF : 0 ≤ V o 1 ∧ V o 1 + 78 ≤ 700) {P : T4} (aP : Nat) (hP : SLa o aP) (tP : SB V o aP P (k)) {Q : T4} (aQ : Nat) (hQ : SLa o aQ) (tQ : SB V o aQ Q (k)) {R : T4} (aR : Nat) (hR : SLa o aR) (tR : SB V o aR R (k)) (aU : Nat) (hU : SLa o aU)  (hk : k ≤ 62) : WP w d 302 [aO (some o), aO (some aP), aO (some aQ), aO (some aR), aO (some aU)] (hw h V) (RI (fun r h1 => ∃ V1, h1 = hw h V1 ∧ Gs V V1 o 78 (fun q => q = aU) ∧ BO V1 o aU r (m_thru_O P Q R) (6 * k + 6))) := by
  obtain ⟨d, rfl⟩ : ∃ d1, d = d1 + 1 := ⟨d - 1, by omega⟩
  refine WP.enter (cd := cd_X12_through) rfl ?_
  have G0 := Gs.refl V o (fun q => q = aU)
  obtain ⟨Pp, Pq, Pr, Ps, sP, xPp, xPq, xPr, xPs⟩ := tP
  obtain ⟨Qp, Qq, Qr, Qs, sQ, xQp, xQq, xQr, xQs⟩ := tQ
  obtain ⟨Rp, Rq, Rr, Rs, sR, xRp, xRq, xRr, xRs⟩ := tR
  have hs_P := hP
  unfold SLa at hs_P
  have hs_Q := hQ
  unfold SLa at hs_Q
  have hs_R := hR
  unfold SLa at hs_R
  have hs_U := hU
  unfold SLa at hs_U
  have l0 := @lcmp_0 (m_rows_S (P.1 * P.2.2.1) (P.2.1 * P.2.2.1) (P.2.2.1 * P.2.2.1) (Q.1 * Q.2.2.1) (Q.2.1 * Q.2.2.1) (Q.2.2.1 * Q.2.2.1) (R.1 * R.2.2.1) (R.2.1 * R.2.2.1) (R.2.2.1 * R.2.2.1)) 0
  have m0 := @lcmp_lt (m_rows_S (P.1 * P.2.2.1) (P.2.1 * P.2.2.1) (P.2.2.1 * P.2.2.1) (Q.1 * Q.2.2.1) (Q.2.1 * Q.2.2.1) (Q.2.2.1 * Q.2.2.1) (R.1 * R.2.2.1) (R.2.1 * R.2.2.1) (R.2.2.1 * R.2.2.1)) 0
  have n0 := @lcmp_gt (0) (m_rows_S (P.1 * P.2.2.1) (P.2.1 * P.2.2.1) (P.2.2.1 * P.2.2.1) (Q.1 * Q.2.2.1) (Q.2.1 * Q.2.2.1) (Q.2.2.1 * Q.2.2.1) (R.1 * R.2.2.1) (R.2.1 * R.2.2.1) (R.2.2.1 * R.2.2.1))
  have n0q := @lcmp_gt (m_rows_S (P.1 * P.2.2.1) (P.2.1 * P.2.2.1) (P.2.2.1 * P.2.2.1) (Q.1 * Q.2.2.1) (Q.2.1 * Q.2.2.1) (Q.2.2.1 * Q.2.2.1) (R.1 * R.2.2.1) (R.2.1 * R.2.2.1) (R.2.2.1 * R.2.2.1)) 0
  have hls : largs 0 [aO (some o), aO (some aP), aO (some aQ), aO (some aR), aO (some aU)] = [(0, aO (some o)), (1, aO (some aP)), (2, aO (some aQ)), (3, aO (some aR)), (4, aO (some aU))] := rfl
  rw [hls]
  clear hls
  refine g_aload rfl rfl ?_
  refine g_astore (l1 := [(5, aO (some aU)), (0, aO (some o)), (1, aO (some aP)), (2, aO (some aQ)), (3, aO (some aR)), (4, aO (some aU))]) rfl rfl ?_
  refine g_aload_n rfl rfl ?_
  refine g_aload_n rfl rfl ?_
  refine g_aload_n rfl rfl ?_
  refine g_iconst rfl ?_
  refine g_iald (i := 0) rfl (ms.slot hP) (by omega) (by omega) ?_
  refine g_top (v2 := aI ((Pp : Int))) (congrArg aI (by exact sP.1)) ?_
  refine g_callVI [aI ((Pp : Int))] [aO (some o)] rfl rfl rfl rfl (Nat.le_of_ble_eq_true rfl) ms.1 (r_square (by omega) ms V (by have := G0.2.2.1; omega) xPp (by omega)) ?_
  rintro _ _ ⟨p1, rfl, V1, rfl, g1, xp1⟩
  have G_2 := G0.trans (g1.gs _)
  refine g_aload_n rfl rfl ?_
  refine g_aload_n rfl rfl ?_
  refine g_iconst rfl ?_
  refine g_iald (i := 1) rfl (ms.slot hP) (by omega) (by omega) ?_
  refine g_top (v2 := aI ((Pq : Int))) (congrArg aI (by exact (g1.sa hP sP).2.1)) ?_
  refine g_callVI [aI ((Pq : Int))] [aI ((p1 : Int)), aO (some o)] rfl rfl rfl rfl (Nat.le_of_ble_eq_true rfl) ms.1 (r_square (by omega) ms V1 (by have := G_2.2.2.1; omega) (g1.rb xPq) (by omega)) ?_
  rintro _ _ ⟨p3, rfl, V3, rfl, g3, xp3⟩
  have G_4 := G_2.trans (g3.gs _)
  refine g_callVI [aI ((p1 : Int)), aI ((p3 : Int))] [] rfl rfl rfl rfl (Nat.le_of_ble_eq_true rfl) ms.1 (r_add (by omega) ms V3 (by have := G_4.2.2.1; omega) (g3.rb xp1) xp3 (2 * k + 1) (by omega) (by omega) (by omega)) ?_
  rintro _ _ ⟨p5, rfl, V5, rfl, g5, xp5⟩
  have G_6 := G_4.trans (g5.gs _)
  refine g_istore (l1 := [(6, aI ((p5 : Int))), (5, aO (some aU)), (0, aO (some o)), (1, aO (some aP)), (2, aO (some aQ)), (3, aO (some aR)), (4, aO (some aU))]) rfl rfl ?_
  refine g_aload_n rfl rfl ?_
  refine g_aload_n rfl rfl ?_
  refine g_aload_n rfl rfl ?_
  refine g_iconst rfl ?_
  refine g_iald (i := 0) rfl (ms.slot hQ) (by omega) (by omega) ?_
  refine g_top (v2 := aI ((Qp : Int))) (congrArg aI (by exact (g5.sa hQ (g3.sa hQ (g1.sa hQ sQ))).1)) ?_
  refine g_callVI [aI ((Qp : Int))] [aO (some o)] rfl rfl rfl rfl (Nat.le_of_ble_eq_true rfl) ms.1 (r_square (by omega) ms V5 (by have := G_6.2.2.1; omega) (g5.rb (g3.rb (g1.rb xQp))) (by omega)) ?_
  rintro _ _ ⟨p7, rfl, V7, rfl, g7, xp7⟩
  have G_8 := G_6.trans (g7.gs _)
  refine g_aload_n rfl rfl ?_
  refine g_aload_n rfl rfl ?_
  refine g_iconst rfl ?_
  refine g_iald (i := 1) rfl (ms.slot hQ) (by omega) (by omega) ?_
  refine g_top (v2 := aI ((Qq : Int))) (congrArg aI (by exact (g7.sa hQ (g5.sa hQ (g3.sa hQ (g1.sa hQ sQ)))).2.1)) ?_
  refine g_callVI [aI ((Qq : Int))] [aI ((p7 : Int)), aO (some o)] rfl rfl rfl rfl (Nat.le_of_ble_eq_true rfl) ms.1 (r_square (by omega) ms V7 (by have := G_8.2.2.1; omega) (g7.rb (g5.rb (g3.rb (g1.rb xQq)))) (by omega)) ?_
  rintro _ _ ⟨p9, rfl, V9, rfl, g9, xp9⟩
  have G_10 := G_8.trans (g9.gs _)
  refine g_callVI [aI ((p7 : Int)), aI ((p9 : Int))] [] rfl rfl rfl rfl (Nat.le_of_ble_eq_true rfl) ms.1 (r_add (by omega) ms V9 (by have := G_10.2.2.1; omega) (g9.rb xp7) xp9 (2 * k + 1) (by omega) (by omega) (by omega)) ?_
  rintro _ _ ⟨p11, rfl, V11, rfl, g11, xp11⟩
  have G_12 := G_10.trans (g11.gs _)
  refine g_istore (l1 := [(7, aI ((p11 : Int))), (6, aI ((p5 : Int))), (5, aO (some aU)), (0, aO (some o)), (1, aO (some aP)), (2, aO (some aQ)), (3, aO (some aR)), (4, aO (some aU))]) rfl rfl ?_
  refine g_aload_n rfl rfl ?_
  refine g_aload_n rfl rfl ?_
  refine g_aload_n rfl rfl ?_
  refine g_iconst rfl ?_
  refine g_iald (i := 0) rfl (ms.slot hR) (by omega) (by omega) ?_
  refine g_top (v2 := aI ((Rp : Int))) (congrArg aI (by exact (g11.sa hR (g9.sa hR (g7.sa hR (g5.sa hR (g3.sa hR (g1.sa hR sR)))))).1)) ?_
  refine g_callVI [aI ((Rp : Int))] [aO (some o)] rfl rfl rfl rfl (Nat.le_of_ble_eq_true rfl) ms.1 (r_square (by omega) ms V11 (by have := G_12.2.2.1; omega) (g11.rb (g9.rb (g7.rb (g5.rb (g3.rb (g1.rb xRp)))))) (by omega)) ?_
  rintro _ _ ⟨p13, rfl, V13, rfl, g13, xp13⟩
  have G_14 := G_12.trans (g13.gs _)
  refine g_aload_n rfl rfl ?_
  refine g_aload_n rfl rfl ?_
  refine g_iconst rfl ?_
  refine g_iald (i := 1) rfl (ms.slot hR) (by omega) (by omega) ?_
  refine g_top (v2 := aI ((Rq : Int))) (congrArg aI (by exact (g13.sa hR (g11.sa hR (g9.sa hR (g7.sa hR (g5.sa hR (g3.sa hR (g1.sa hR sR))))))).2.1)) ?_
  refine g_callVI [aI ((Rq : Int))] [aI ((p13 : Int)), aO (some o)] rfl rfl rfl rfl (Nat.le_of_ble_eq_true rfl) ms.1 (r_square (by omega) ms V13 (by have := G_14.2.2.1; omega) (g13.rb (g11.rb (g9.rb (g7.rb (g5.rb (g3.rb (g1.rb xRq))))))) (by omega)) ?_
  rintro _ _ ⟨p15, rfl, V15, rfl, g15, xp15⟩
  have G_16 := G_14.trans (g15.gs _)
  refine g_callVI [aI ((p13 : Int)), aI ((p15 : Int))] [] rfl rfl rfl rfl (Nat.le_of_ble_eq_true rfl) ms.1 (r_add (by omega) ms V15 (by have := G_16.2.2.1; omega) (g15.rb xp13) xp15 (2 * k + 1) (by omega) (by omega) (by omega)) ?_
  rintro _ _ ⟨p17, rfl, V17, rfl, g17, xp17⟩
  have G_18 := G_16.trans (g17.gs _)
  refine g_istore (l1 := [(8, aI ((p17 : Int))), (7, aI ((p11 : Int))), (6, aI ((p5 : Int))), (5, aO (some aU)), (0, aO (some o)), (1, aO (some aP)), (2, aO (some aQ)), (3, aO (some aR)), (4, aO (some aU))]) rfl rfl ?_
  refine g_aload_n rfl rfl ?_
  refine g_aload_n rfl rfl ?_
  refine g_iconst rfl ?_
  refine g_iald (i := 0) rfl (ms.slot hP) (by omega) (by omega) ?_
  refine g_top (v2 := aI ((Pp : Int))) (congrArg aI (by exact (g17.sa hP (g15.sa hP (g13.sa hP (g11.sa hP (g9.sa hP (g7.sa hP (g5.sa hP (g3.sa hP (g1.sa hP sP))))))))).1)) ?_
  refine g_aload_n rfl rfl ?_
  refine g_iconst rfl ?_
  refine g_iald (i := 2) rfl (ms.slot hP) (by omega) (by omega) ?_
  refine g_top (v2 := aI ((Pr : Int))) (congrArg aI (by exact (g17.sa hP (g15.sa hP (g13.sa hP (g11.sa hP (g9.sa hP (g7.sa hP (g5.sa hP (g3.sa hP (g1.sa hP sP))))))))).2.2.1)) ?_
  refine g_callVI [aI ((Pp : Int)), aI ((Pr : Int))] [] rfl rfl rfl rfl (Nat.le_of_ble_eq_true rfl) ms.1 (r_mul (by omega) ms V17 (by have := G_18.2.2.1; omega) (g17.rb (g15.rb (g13.rb (g11.rb (g9.rb (g7.rb (g5.rb (g3.rb (g1.rb xPp))))))))) (g17.rb (g15.rb (g13.rb (g11.rb (g9.rb (g7.rb (g5.rb (g3.rb (g1.rb xPr))))))))) (by omega)) ?_
  rintro _ _ ⟨p19, rfl, V19, rfl, g19, xp19⟩
  have G_20 := G_18.trans (g19.gs _)
  refine g_istore (l1 := [(9, aI ((p19 : Int))), (8, aI ((p17 : Int))), (7, aI ((p11 : Int))), (6, aI ((p5 : Int))), (5, aO (some aU)), (0, aO (some o)), (1, aO (some aP)), (2, aO (some aQ)), (3, aO (some aR)), (4, aO (some aU))]) rfl rfl ?_
  refine g_aload_n rfl rfl ?_
  refine g_aload_n rfl rfl ?_
  refine g_iconst rfl ?_
  refine g_iald (i := 0) rfl (ms.slot hQ) (by omega) (by omega) ?_
  refine g_top (v2 := aI ((Qp : Int))) (congrArg aI (by exact (g19.sa hQ (g17.sa hQ (g15.sa hQ (g13.sa hQ (g11.sa hQ (g9.sa hQ (g7.sa hQ (g5.sa hQ (g3.sa hQ (g1.sa hQ sQ)))))))))).1)) ?_
  refine g_aload_n rfl rfl ?_
  refine g_iconst rfl ?_
  refine g_iald (i := 2) rfl (ms.slot hQ) (by omega) (by omega) ?_
  refine g_top (v2 := aI ((Qr : Int))) (congrArg aI (by exact (g19.sa hQ (g17.sa hQ (g15.sa hQ (g13.sa hQ (g11.sa hQ (g9.sa hQ (g7.sa hQ (g5.sa hQ (g3.sa hQ (g1.sa hQ sQ)))))))))).2.2.1)) ?_
  refine g_callVI [aI ((Qp : Int)), aI ((Qr : Int))] [] rfl rfl rfl rfl (Nat.le_of_ble_eq_true rfl) ms.1 (r_mul (by omega) ms V19 (by have := G_20.2.2.1; omega) (g19.rb (g17.rb (g15.rb (g13.rb (g11.rb (g9.rb (g7.rb (g5.rb (g3.rb (g1.rb xQp)))))))))) (g19.rb (g17.rb (g15.rb (g13.rb (g11.rb (g9.rb (g7.rb (g5.rb (g3.rb (g1.rb xQr)))))))))) (by omega)) ?_
  rintro _ _ ⟨p21, rfl, V21, rfl, g21, xp21⟩
  have G_22 := G_20.trans (g21.gs _)
  refine g_istore (l1 := [(10, aI ((p21 : Int))), (9, aI ((p19 : Int))), (8, aI ((p17 : Int))), (7, aI ((p11 : Int))), (6, aI ((p5 : Int))), (5, aO (some aU)), (0, aO (some o)), (1, aO (some aP)), (2, aO (some aQ)), (3, aO (some aR)), (4, aO (some aU))]) rfl rfl ?_
  refine g_aload_n rfl rfl ?_
  refine g_aload_n rfl rfl ?_
  refine g_iconst rfl ?_
  refine g_iald (i := 0) rfl (ms.slot hR) (by omega) (by omega) ?_
  refine g_top (v2 := aI ((Rp : Int))) (congrArg aI (by exact (g21.sa hR (g19.sa hR (g17.sa hR (g15.sa hR (g13.sa hR (g11.sa hR (g9.sa hR (g7.sa hR (g5.sa hR (g3.sa hR (g1.sa hR sR))))))))))).1)) ?_
  refine g_aload_n rfl rfl ?_
  refine g_iconst rfl ?_
  refine g_iald (i := 2) rfl (ms.slot hR) (by omega) (by omega) ?_
  refine g_top (v2 := aI ((Rr : Int))) (congrArg aI (by exact (g21.sa hR (g19.sa hR (g17.sa hR (g15.sa hR (g13.sa hR (g11.sa hR (g9.sa hR (g7.sa hR (g5.sa hR (g3.sa hR (g1.sa hR sR))))))))))).2.2.1)) ?_
  refine g_callVI [aI ((Rp : Int)), aI ((Rr : Int))] [] rfl rfl rfl rfl (Nat.le_of_ble_eq_true rfl) ms.1 (r_mul (by omega) ms V21 (by have := G_22.2.2.1; omega) (g21.rb (g19.rb (g17.rb (g15.rb (g13.rb (g11.rb (g9.rb (g7.rb (g5.rb (g3.rb (g1.rb xRp))))))))))) (g21.rb (g19.rb (g17.rb (g15.rb (g13.rb (g11.rb (g9.rb (g7.rb (g5.rb (g3.rb (g1.rb xRr))))))))))) (by omega)) ?_
  rintro _ _ ⟨p23, rfl, V23, rfl, g23, xp23⟩
  have G_24 := G_22.trans (g23.gs _)
  refine g_istore (l1 := [(11, aI ((p23 : Int))), (10, aI ((p21 : Int))), (9, aI ((p19 : Int))), (8, aI ((p17 : Int))), (7, aI ((p11 : Int))), (6, aI ((p5 : Int))), (5, aO (some aU)), (0, aO (some o)), (1, aO (some aP)), (2, aO (some aQ)), (3, aO (some aR)), (4, aO (some aU))]) rfl rfl ?_
  refine g_aload_n rfl rfl ?_
  refine g_aload_n rfl rfl ?_
  refine g_iconst rfl ?_
  refine g_iald (i := 1) rfl (ms.slot hP) (by omega) (by omega) ?_
  refine g_top (v2 := aI ((Pq : Int))) (congrArg aI (by exact (g23.sa hP (g21.sa hP (g19.sa hP (g17.sa hP (g15.sa hP (g13.sa hP (g11.sa hP (g9.sa hP (g7.sa hP (g5.sa hP (g3.sa hP (g1.sa hP sP)))))))))))).2.1)) ?_
  refine g_aload_n rfl rfl ?_
  refine g_iconst rfl ?_
  refine g_iald (i := 2) rfl (ms.slot hP) (by omega) (by omega) ?_
  refine g_top (v2 := aI ((Pr : Int))) (congrArg aI (by exact (g23.sa hP (g21.sa hP (g19.sa hP (g17.sa hP (g15.sa hP (g13.sa hP (g11.sa hP (g9.sa hP (g7.sa hP (g5.sa hP (g3.sa hP (g1.sa hP sP)))))))))))).2.2.1)) ?_
  refine g_callVI [aI ((Pq : Int)), aI ((Pr : Int))] [] rfl rfl rfl rfl (Nat.le_of_ble_eq_true rfl) ms.1 (r_mul (by omega) ms V23 (by have := G_24.2.2.1; omega) (g23.rb (g21.rb (g19.rb (g17.rb (g15.rb (g13.rb (g11.rb (g9.rb (g7.rb (g5.rb (g3.rb (g1.rb xPq)))))))))))) (g23.rb (g21.rb (g19.rb (g17.rb (g15.rb (g13.rb (g11.rb (g9.rb (g7.rb (g5.rb (g3.rb (g1.rb xPr)))))))))))) (by omega)) ?_
  rintro _ _ ⟨p25, rfl, V25, rfl, g25, xp25⟩
  have G_26 := G_24.trans (g25.gs _)
  refine g_istore (l1 := [(12, aI ((p25 : Int))), (11, aI ((p23 : Int))), (10, aI ((p21 : Int))), (9, aI ((p19 : Int))), (8, aI ((p17 : Int))), (7, aI ((p11 : Int))), (6, aI ((p5 : Int))), (5, aO (some aU)), (0, aO (some o)), (1, aO (some aP)), (2, aO (some aQ)), (3, aO (some aR)), (4, aO (some aU))]) rfl rfl ?_
  refine g_aload_n rfl rfl ?_
  refine g_aload_n rfl rfl ?_
  refine g_iconst rfl ?_
  refine g_iald (i := 1) rfl (ms.slot hQ) (by omega) (by omega) ?_
  refine g_top (v2 := aI ((Qq : Int))) (congrArg aI (by exact (g25.sa hQ (g23.sa hQ (g21.sa hQ (g19.sa hQ (g17.sa hQ (g15.sa hQ (g13.sa hQ (g11.sa hQ (g9.sa hQ (g7.sa hQ (g5.sa hQ (g3.sa hQ (g1.sa hQ sQ))))))))))))).2.1)) ?_
  refine g_aload_n rfl rfl ?_
  refine g_iconst rfl ?_
  refine g_iald (i := 2) rfl (ms.slot hQ) (by omega) (by omega) ?_
  refine g_top (v2 := aI ((Qr : Int))) (congrArg aI (by exact (g25.sa hQ (g23.sa hQ (g21.sa hQ (g19.sa hQ (g17.sa hQ (g15.sa hQ (g13.sa hQ (g11.sa hQ (g9.sa hQ (g7.sa hQ (g5.sa hQ (g3.sa hQ (g1.sa hQ sQ))))))))))))).2.2.1)) ?_
  refine g_callVI [aI ((Qq : Int)), aI ((Qr : Int))] [] rfl rfl rfl rfl (Nat.le_of_ble_eq_true rfl) ms.1 (r_mul (by omega) ms V25 (by have := G_26.2.2.1; omega) (g25.rb (g23.rb (g21.rb (g19.rb (g17.rb (g15.rb (g13.rb (g11.rb (g9.rb (g7.rb (g5.rb (g3.rb (g1.rb xQq))))))))))))) (g25.rb (g23.rb (g21.rb (g19.rb (g17.rb (g15.rb (g13.rb (g11.rb (g9.rb (g7.rb (g5.rb (g3.rb (g1.rb xQr))))))))))))) (by omega)) ?_
  rintro _ _ ⟨p27, rfl, V27, rfl, g27, xp27⟩
  have G_28 := G_26.trans (g27.gs _)
  refine g_istore (l1 := [(13, aI ((p27 : Int))), (12, aI ((p25 : Int))), (11, aI ((p23 : Int))), (10, aI ((p21 : Int))), (9, aI ((p19 : Int))), (8, aI ((p17 : Int))), (7, aI ((p11 : Int))), (6, aI ((p5 : Int))), (5, aO (some aU)), (0, aO (some o)), (1, aO (some aP)), (2, aO (some aQ)), (3, aO (some aR)), (4, aO (some aU))]) rfl rfl ?_
  refine g_aload_n rfl rfl ?_
  refine g_aload_n rfl rfl ?_
  refine g_iconst rfl ?_
  refine g_iald (i := 1) rfl (ms.slot hR) (by omega) (by omega) ?_
  refine g_top (v2 := aI ((Rq : Int))) (congrArg aI (by exact (g27.sa hR (g25.sa hR (g23.sa hR (g21.sa hR (g19.sa hR (g17.sa hR (g15.sa hR (g13.sa hR (g11.sa hR (g9.sa hR (g7.sa hR (g5.sa hR (g3.sa hR (g1.sa hR sR)))))))))))))).2.1)) ?_
  refine g_aload_n rfl rfl ?_
  refine g_iconst rfl ?_
  refine g_iald (i := 2) rfl (ms.slot hR) (by omega) (by omega) ?_
  refine g_top (v2 := aI ((Rr : Int))) (congrArg aI (by exact (g27.sa hR (g25.sa hR (g23.sa hR (g21.sa hR (g19.sa hR (g17.sa hR (g15.sa hR (g13.sa hR (g11.sa hR (g9.sa hR (g7.sa hR (g5.sa hR (g3.sa hR (g1.sa hR sR)))))))))))))).2.2.1)) ?_
  refine g_callVI [aI ((Rq : Int)), aI ((Rr : Int))] [] rfl rfl rfl rfl (Nat.le_of_ble_eq_true rfl) ms.1 (r_mul (by omega) ms V27 (by have := G_28.2.2.1; omega) (g27.rb (g25.rb (g23.rb (g21.rb (g19.rb (g17.rb (g15.rb (g13.rb (g11.rb (g9.rb (g7.rb (g5.rb (g3.rb (g1.rb xRq)))))))))))))) (g27.rb (g25.rb (g23.rb (g21.rb (g19.rb (g17.rb (g15.rb (g13.rb (g11.rb (g9.rb (g7.rb (g5.rb (g3.rb (g1.rb xRr)))))))))))))) (by omega)) ?_
  rintro _ _ ⟨p29, rfl, V29, rfl, g29, xp29⟩
  have G_30 := G_28.trans (g29.gs _)
  refine g_istore (l1 := [(14, aI ((p29 : Int))), (13, aI ((p27 : Int))), (12, aI ((p25 : Int))), (11, aI ((p23 : Int))), (10, aI ((p21 : Int))), (9, aI ((p19 : Int))), (8, aI ((p17 : Int))), (7, aI ((p11 : Int))), (6, aI ((p5 : Int))), (5, aO (some aU)), (0, aO (some o)), (1, aO (some aP)), (2, aO (some aQ)), (3, aO (some aR)), (4, aO (some aU))]) rfl rfl ?_
  refine g_aload_n rfl rfl ?_
  refine g_aload_n rfl rfl ?_
  refine g_iconst rfl ?_
  refine g_iald (i := 2) rfl (ms.slot hP) (by omega) (by omega) ?_
  refine g_top (v2 := aI ((Pr : Int))) (congrArg aI (by exact (g29.sa hP (g27.sa hP (g25.sa hP (g23.sa hP (g21.sa hP (g19.sa hP (g17.sa hP (g15.sa hP (g13.sa hP (g11.sa hP (g9.sa hP (g7.sa hP (g5.sa hP (g3.sa hP (g1.sa hP sP))))))))))))))).2.2.1)) ?_
  refine g_callVI [aI ((Pr : Int))] [] rfl rfl rfl rfl (Nat.le_of_ble_eq_true rfl) ms.1 (r_square (by omega) ms V29 (by have := G_30.2.2.1; omega) (g29.rb (g27.rb (g25.rb (g23.rb (g21.rb (g19.rb (g17.rb (g15.rb (g13.rb (g11.rb (g9.rb (g7.rb (g5.rb (g3.rb (g1.rb xPr))))))))))))))) (by omega)) ?_
  rintro _ _ ⟨p31, rfl, V31, rfl, g31, xp31⟩
  have G_32 := G_30.trans (g31.gs _)
  refine g_istore (l1 := [(15, aI ((p31 : Int))), (14, aI ((p29 : Int))), (13, aI ((p27 : Int))), (12, aI ((p25 : Int))), (11, aI ((p23 : Int))), (10, aI ((p21 : Int))), (9, aI ((p19 : Int))), (8, aI ((p17 : Int))), (7, aI ((p11 : Int))), (6, aI ((p5 : Int))), (5, aO (some aU)), (0, aO (some o)), (1, aO (some aP)), (2, aO (some aQ)), (3, aO (some aR)), (4, aO (some aU))]) rfl rfl ?_
  refine g_aload_n rfl rfl ?_
  refine g_aload_n rfl rfl ?_
  refine g_iconst rfl ?_
  refine g_iald (i := 2) rfl (ms.slot hQ) (by omega) (by omega) ?_
  refine g_top (v2 := aI ((Qr : Int))) (congrArg aI (by exact (g31.sa hQ (g29.sa hQ (g27.sa hQ (g25.sa hQ (g23.sa hQ (g21.sa hQ (g19.sa hQ (g17.sa hQ (g15.sa hQ (g13.sa hQ (g11.sa hQ (g9.sa hQ (g7.sa hQ (g5.sa hQ (g3.sa hQ (g1.sa hQ sQ)))))))))))))))).2.2.1)) ?_
  refine g_callVI [aI ((Qr : Int))] [] rfl rfl rfl rfl (Nat.le_of_ble_eq_true rfl) ms.1 (r_square (by omega) ms V31 (by have := G_32.2.2.1; omega) (g31.rb (g29.rb (g27.rb (g25.rb (g23.rb (g21.rb (g19.rb (g17.rb (g15.rb (g13.rb (g11.rb (g9.rb (g7.rb (g5.rb (g3.rb (g1.rb xQr)))))))))))))))) (by omega)) ?_
  rintro _ _ ⟨p33, rfl, V33, rfl, g33, xp33⟩
  have G_34 := G_32.trans (g33.gs _)
  refine g_istore (l1 := [(16, aI ((p33 : Int))), (15, aI ((p31 : Int))), (14, aI ((p29 : Int))), (13, aI ((p27 : Int))), (12, aI ((p25 : Int))), (11, aI ((p23 : Int))), (10, aI ((p21 : Int))), (9, aI ((p19 : Int))), (8, aI ((p17 : Int))), (7, aI ((p11 : Int))), (6, aI ((p5 : Int))), (5, aO (some aU)), (0, aO (some o)), (1, aO (some aP)), (2, aO (some aQ)), (3, aO (some aR)), (4, aO (some aU))]) rfl rfl ?_
  refine g_aload_n rfl rfl ?_
  refine g_aload_n rfl rfl ?_
  refine g_iconst rfl ?_
  refine g_iald (i := 2) rfl (ms.slot hR) (by omega) (by omega) ?_
  refine g_top (v2 := aI ((Rr : Int))) (congrArg aI (by exact (g33.sa hR (g31.sa hR (g29.sa hR (g27.sa hR (g25.sa hR (g23.sa hR (g21.sa hR (g19.sa hR (g17.sa hR (g15.sa hR (g13.sa hR (g11.sa hR (g9.sa hR (g7.sa hR (g5.sa hR (g3.sa hR (g1.sa hR sR))))))))))))))))).2.2.1)) ?_
  refine g_callVI [aI ((Rr : Int))] [] rfl rfl rfl rfl (Nat.le_of_ble_eq_true rfl) ms.1 (r_square (by omega) ms V33 (by have := G_34.2.2.1; omega) (g33.rb (g31.rb (g29.rb (g27.rb (g25.rb (g23.rb (g21.rb (g19.rb (g17.rb (g15.rb (g13.rb (g11.rb (g9.rb (g7.rb (g5.rb (g3.rb (g1.rb xRr))))))))))))))))) (by omega)) ?_
  rintro _ _ ⟨p35, rfl, V35, rfl, g35, xp35⟩
  have G_36 := G_34.trans (g35.gs _)
  refine g_istore (l1 := [(17, aI ((p35 : Int))), (16, aI ((p33 : Int))), (15, aI ((p31 : Int))), (14, aI ((p29 : Int))), (13, aI ((p27 : Int))), (12, aI ((p25 : Int))), (11, aI ((p23 : Int))), (10, aI ((p21 : Int))), (9, aI ((p19 : Int))), (8, aI ((p17 : Int))), (7, aI ((p11 : Int))), (6, aI ((p5 : Int))), (5, aO (some aU)), (0, aO (some o)), (1, aO (some aP)), (2, aO (some aQ)), (3, aO (some aR)), (4, aO (some aU))]) rfl rfl ?_
  refine g_aload rfl rfl ?_
  refine g_iconst rfl ?_
  refine g_aload_n rfl rfl ?_
  refine g_iload rfl rfl ?_
  refine g_iload rfl rfl ?_
  refine g_iload rfl rfl ?_
  refine g_iload rfl rfl ?_
  refine g_iload rfl rfl ?_
  refine g_iload rfl rfl ?_
  refine g_iload rfl rfl ?_
  refine g_iload rfl rfl ?_
  refine g_iload rfl rfl ?_
  refine g_callVI [aI ((p19 : Int)), aI ((p25 : Int)), aI ((p31 : Int)), aI ((p21 : Int)), aI ((p27 : Int)), aI ((p33 : Int)), aI ((p23 : Int)), aI ((p29 : Int)), aI ((p35 : Int))] [aI 0, aO (some aU)] rfl rfl rfl rfl (Nat.le_of_ble_eq_true rfl) ms.1 (m_rows (by omega) ms V35 (by have := G_36.2.2.1; omega) (show RB V35 o p19 (P.1 * P.2.2.1) (2 * k) from ((g35.rb (g33.rb (g31.rb (g29.rb (g27.rb (g25.rb (g23.rb (g21.rb xp19)))))))).up (by omega))) (show RB V35 o p25 (P.2.1 * P.2.2.1) (2 * k) from ((g35.rb (g33.rb (g31.rb (g29.rb (g27.rb xp25))))).up (by omega))) (show RB V35 o p31 (P.2.2.1 * P.2.2.1) (2 * k) from ((g35.rb (g33.rb xp31)).up (by omega))) (show RB V35 o p21 (Q.1 * Q.2.2.1) (2 * k) from ((g35.rb (g33.rb (g31.rb (g29.rb (g27.rb (g25.rb (g23.rb xp21))))))).up (by omega))) (show RB V35 o p27 (Q.2.1 * Q.2.2.1) (2 * k) from ((g35.rb (g33.rb (g31.rb (g29.rb xp27)))).up (by omega))) (show RB V35 o p33 (Q.2.2.1 * Q.2.2.1) (2 * k) from ((g35.rb xp33).up (by omega))) (show RB V35 o p23 (R.1 * R.2.2.1) (2 * k) from ((g35.rb (g33.rb (g31.rb (g29.rb (g27.rb (g25.rb xp23)))))).up (by omega))) (show RB V35 o p29 (R.2.1 * R.2.2.1) (2 * k) from ((g35.rb (g33.rb (g31.rb xp29))).up (by omega))) (show RB V35 o p35 (R.2.2.1 * R.2.2.1) (2 * k) from (xp35.up (by omega))) (by omega)) ?_
  rintro _ _ ⟨p37, rfl, V37, rfl, g37, xp37⟩
  have G_38 := G_36.trans (g37.gs _)
  refine g_iast (i := 0) rfl (ms.slot hU) (by omega) (by omega) ?_
  obtain ⟨V39, eV39⟩ : ∃ W, W = vset V37 aU 0 (p37 : Int) := ⟨_, rfl⟩
  refine g_hp (h2 := hw h V39) (by rw [eV39]; rfl) ?_
  have g39 : Gs V37 V39 o 0 (fun q => q = aU) := by rw [eV39]; exact Gs.cell hU
  have c39_0 : V39 aU 0 = (p37 : Int) := by rw [eV39]; exact vset_eq _ _ _ _
  have G_40 := G_38.trans (g39.wide (fun q hq => by have hq : q = aU := hq; show q = aU; omega))
  refine g_aload rfl rfl ?_
  refine g_iconst rfl ?_
  refine g_aload_n rfl rfl ?_
  refine g_aload_n rfl rfl ?_
  refine g_iload rfl rfl ?_
  refine g_iload rfl rfl ?_
  refine g_iload rfl rfl ?_
  refine g_iload rfl rfl ?_
  refine g_iload rfl rfl ?_
  refine g_iload rfl rfl ?_
  refine g_iload rfl rfl ?_
  refine g_iload rfl rfl ?_
  refine g_iload rfl rfl ?_
  refine g_callVI [aI ((p5 : Int)), aI ((p25 : Int)), aI ((p31 : Int)), aI ((p11 : Int)), aI ((p27 : Int)), aI ((p33 : Int)), aI ((p17 : Int)), aI ((p29 : Int)), aI ((p35 : Int))] [aO (some o), aI 1, aO (some aU)] rfl rfl rfl rfl (Nat.le_of_ble_eq_true rfl) ms.1 (m_rows (by omega) ms V39 (by have := G_40.2.2.1; omega) (show RB V39 o p5 ((P.1 * P.1) + (P.2.1 * P.2.1)) (2 * k + 1) from ((g39.rb (g37.rb (g35.rb (g33.rb (g31.rb (g29.rb (g27.rb (g25.rb (g23.rb (g21.rb (g19.rb (g17.rb (g15.rb (g13.rb (g11.rb (g9.rb (g7.rb xp5))))))))))))))))).up (by omega))) (show RB V39 o p25 (P.2.1 * P.2.2.1) (2 * k + 1) from ((g39.rb (g37.rb (g35.rb (g33.rb (g31.rb (g29.rb (g27.rb xp25))))))).up (by omega))) (show RB V39 o p31 (P.2.2.1 * P.2.2.1) (2 * k + 1) from ((g39.rb (g37.rb (g35.rb (g33.rb xp31)))).up (by omega))) (show RB V39 o p11 ((Q.1 * Q.1) + (Q.2.1 * Q.2.1)) (2 * k + 1) from ((g39.rb (g37.rb (g35.rb (g33.rb (g31.rb (g29.rb (g27.rb (g25.rb (g23.rb (g21.rb (g19.rb (g17.rb (g15.rb (g13.rb xp11)))))))))))))).up (by omega))) (show RB V39 o p27 (Q.2.1 * Q.2.2.1) (2 * k + 1) from ((g39.rb (g37.rb (g35.rb (g33.rb (g31.rb (g29.rb xp27)))))).up (by omega))) (show RB V39 o p33 (Q.2.2.1 * Q.2.2.1) (2 * k + 1) from ((g39.rb (g37.rb (g35.rb xp33))).up (by omega))) (show RB V39 o p17 ((R.1 * R.1) + (R.2.1 * R.2.1)) (2 * k + 1) from ((g39.rb (g37.rb (g35.rb (g33.rb (g31.rb (g29.rb (g27.rb (g25.rb (g23.rb (g21.rb (g19.rb xp17))))))))))).up (by omega))) (show RB V39 o p29 (R.2.1 * R.2.2.1) (2 * k + 1) from ((g39.rb (g37.rb (g35.rb (g33.rb (g31.rb xp29))))).up (by omega))) (show RB V39 o p35 (R.2.2.1 * R.2.2.1) (2 * k + 1) from ((g39.rb (g37.rb xp35)).up (by omega))) (by omega)) ?_
  rintro _ _ ⟨p41, rfl, V41, rfl, g41, xp41⟩
  have G_42 := G_40.trans (g41.gs _)
  refine g_callVI [aI ((p41 : Int))] [aI 1, aO (some aU)] rfl rfl rfl rfl (Nat.le_of_ble_eq_true rfl) ms.1 (r_neg (by omega) ms V41 (by have := G_42.2.2.1; omega) xp41 (by omega)) ?_
  rintro _ _ ⟨p43, rfl, V43, rfl, g43, xp43⟩
  have G_44 := G_42.trans (g43.gs _)
  refine g_iast (i := 1) rfl (ms.slot hU) (by omega) (by omega) ?_
  obtain ⟨V45, eV45⟩ : ∃ W, W = vset V43 aU 1 (p43 : Int) := ⟨_, rfl⟩
  refine g_hp (h2 := hw h V45) (by rw [eV45]; rfl) ?_
  have g45 : Gs V43 V45 o 0 (fun q => q = aU) := by rw [eV45]; exact Gs.cell hU
  have c45_0 : V45 aU 0 = (p37 : Int) := by rw [eV45, vset_ne _ _ _ _ (by omega)]; exact (g43.sc hU (g41.sc hU c39_0))
  have c45_1 : V45 aU 1 = (p43 : Int) := by rw [eV45]; exact vset_eq _ _ _ _
  have G_46 := G_44.trans (g45.wide (fun q hq => by have hq : q = aU := hq; show q = aU; omega))
  refine g_aload rfl rfl ?_
  refine g_iconst rfl ?_
  refine g_aload_n rfl rfl ?_
  refine g_iload rfl rfl ?_
  refine g_iload rfl rfl ?_
  refine g_iload rfl rfl ?_
  refine g_iload rfl rfl ?_
  refine g_iload rfl rfl ?_
  refine g_iload rfl rfl ?_
  refine g_iload rfl rfl ?_
  refine g_iload rfl rfl ?_
  refine g_iload rfl rfl ?_
  refine g_callVI [aI ((p5 : Int)), aI ((p19 : Int)), aI ((p31 : Int)), aI ((p11 : Int)), aI ((p21 : Int)), aI ((p33 : Int)), aI ((p17 : Int)), aI ((p23 : Int)), aI ((p35 : Int))] [aI 2, aO (some aU)] rfl rfl rfl rfl (Nat.le_of_ble_eq_true rfl) ms.1 (m_rows (by omega) ms V45 (by have := G_46.2.2.1; omega) (show RB V45 o p5 ((P.1 * P.1) + (P.2.1 * P.2.1)) (2 * k + 1) from ((g45.rb (g43.rb (g41.rb (g39.rb (g37.rb (g35.rb (g33.rb (g31.rb (g29.rb (g27.rb (g25.rb (g23.rb (g21.rb (g19.rb (g17.rb (g15.rb (g13.rb (g11.rb (g9.rb (g7.rb xp5)))))))))))))))))))).up (by omega))) (show RB V45 o p19 (P.1 * P.2.2.1) (2 * k + 1) from ((g45.rb (g43.rb (g41.rb (g39.rb (g37.rb (g35.rb (g33.rb (g31.rb (g29.rb (g27.rb (g25.rb (g23.rb (g21.rb xp19))))))))))))).up (by omega))) (show RB V45 o p31 (P.2.2.1 * P.2.2.1) (2 * k + 1) from ((g45.rb (g43.rb (g41.rb (g39.rb (g37.rb (g35.rb (g33.rb xp31))))))).up (by omega))) (show RB V45 o p11 ((Q.1 * Q.1) + (Q.2.1 * Q.2.1)) (2 * k + 1) from ((g45.rb (g43.rb (g41.rb (g39.rb (g37.rb (g35.rb (g33.rb (g31.rb (g29.rb (g27.rb (g25.rb (g23.rb (g21.rb (g19.rb (g17.rb (g15.rb (g13.rb xp11))))))))))))))))).up (by omega))) (show RB V45 o p21 (Q.1 * Q.2.2.1) (2 * k + 1) from ((g45.rb (g43.rb (g41.rb (g39.rb (g37.rb (g35.rb (g33.rb (g31.rb (g29.rb (g27.rb (g25.rb (g23.rb xp21)))))))))))).up (by omega))) (show RB V45 o p33 (Q.2.2.1 * Q.2.2.1) (2 * k + 1) from ((g45.rb (g43.rb (g41.rb (g39.rb (g37.rb (g35.rb xp33)))))).up (by omega))) (show RB V45 o p17 ((R.1 * R.1) + (R.2.1 * R.2.1)) (2 * k + 1) from ((g45.rb (g43.rb (g41.rb (g39.rb (g37.rb (g35.rb (g33.rb (g31.rb (g29.rb (g27.rb (g25.rb (g23.rb (g21.rb (g19.rb xp17)))))))))))))).up (by omega))) (show RB V45 o p23 (R.1 * R.2.2.1) (2 * k + 1) from ((g45.rb (g43.rb (g41.rb (g39.rb (g37.rb (g35.rb (g33.rb (g31.rb (g29.rb (g27.rb (g25.rb xp23))))))))))).up (by omega))) (show RB V45 o p35 (R.2.2.1 * R.2.2.1) (2 * k + 1) from ((g45.rb (g43.rb (g41.rb (g39.rb (g37.rb xp35))))).up (by omega))) (by omega)) ?_
  rintro _ _ ⟨p47, rfl, V47, rfl, g47, xp47⟩
  have G_48 := G_46.trans (g47.gs _)
  refine g_iast (i := 2) rfl (ms.slot hU) (by omega) (by omega) ?_
  obtain ⟨V49, eV49⟩ : ∃ W, W = vset V47 aU 2 (p47 : Int) := ⟨_, rfl⟩
  refine g_hp (h2 := hw h V49) (by rw [eV49]; rfl) ?_
  have g49 : Gs V47 V49 o 0 (fun q => q = aU) := by rw [eV49]; exact Gs.cell hU
  have c49_0 : V49 aU 0 = (p37 : Int) := by rw [eV49, vset_ne _ _ _ _ (by omega)]; exact (g47.sc hU c45_0)
  have c49_1 : V49 aU 1 = (p43 : Int) := by rw [eV49, vset_ne _ _ _ _ (by omega)]; exact (g47.sc hU c45_1)
  have c49_2 : V49 aU 2 = (p47 : Int) := by rw [eV49]; exact vset_eq _ _ _ _
  have G_50 := G_48.trans (g49.wide (fun q hq => by have hq : q = aU := hq; show q = aU; omega))
  refine g_aload rfl rfl ?_
  refine g_iconst rfl ?_
  refine g_aload_n rfl rfl ?_
  refine g_aload_n rfl rfl ?_
  refine g_iload rfl rfl ?_
  refine g_iload rfl rfl ?_
  refine g_iload rfl rfl ?_
  refine g_iload rfl rfl ?_
  refine g_iload rfl rfl ?_
  refine g_iload rfl rfl ?_
  refine g_iload rfl rfl ?_
  refine g_iload rfl rfl ?_
  refine g_iload rfl rfl ?_
  refine g_callVI [aI ((p5 : Int)), aI ((p19 : Int)), aI ((p25 : Int)), aI ((p11 : Int)), aI ((p21 : Int)), aI ((p27 : Int)), aI ((p17 : Int)), aI ((p23 : Int)), aI ((p29 : Int))] [aO (some o), aI 3, aO (some aU)] rfl rfl rfl rfl (Nat.le_of_ble_eq_true rfl) ms.1 (m_rows (by omega) ms V49 (by have := G_50.2.2.1; omega) (show RB V49 o p5 ((P.1 * P.1) + (P.2.1 * P.2.1)) (2 * k + 1) from ((g49.rb (g47.rb (g45.rb (g43.rb (g41.rb (g39.rb (g37.rb (g35.rb (g33.rb (g31.rb (g29.rb (g27.rb (g25.rb (g23.rb (g21.rb (g19.rb (g17.rb (g15.rb (g13.rb (g11.rb (g9.rb (g7.rb xp5)))))))))))))))))))))).up (by omega))) (show RB V49 o p19 (P.1 * P.2.2.1) (2 * k + 1) from ((g49.rb (g47.rb (g45.rb (g43.rb (g41.rb (g39.rb (g37.rb (g35.rb (g33.rb (g31.rb (g29.rb (g27.rb (g25.rb (g23.rb (g21.rb xp19))))))))))))))).up (by omega))) (show RB V49 o p25 (P.2.1 * P.2.2.1) (2 * k + 1) from ((g49.rb (g47.rb (g45.rb (g43.rb (g41.rb (g39.rb (g37.rb (g35.rb (g33.rb (g31.rb (g29.rb (g27.rb xp25)))))))))))).up (by omega))) (show RB V49 o p11 ((Q.1 * Q.1) + (Q.2.1 * Q.2.1)) (2 * k + 1) from ((g49.rb (g47.rb (g45.rb (g43.rb (g41.rb (g39.rb (g37.rb (g35.rb (g33.rb (g31.rb (g29.rb (g27.rb (g25.rb (g23.rb (g21.rb (g19.rb (g17.rb (g15.rb (g13.rb xp11))))))))))))))))))).up (by omega))) (show RB V49 o p21 (Q.1 * Q.2.2.1) (2 * k + 1) from ((g49.rb (g47.rb (g45.rb (g43.rb (g41.rb (g39.rb (g37.rb (g35.rb (g33.rb (g31.rb (g29.rb (g27.rb (g25.rb (g23.rb xp21)))))))))))))).up (by omega))) (show RB V49 o p27 (Q.2.1 * Q.2.2.1) (2 * k + 1) from ((g49.rb (g47.rb (g45.rb (g43.rb (g41.rb (g39.rb (g37.rb (g35.rb (g33.rb (g31.rb (g29.rb xp27))))))))))).up (by omega))) (show RB V49 o p17 ((R.1 * R.1) + (R.2.1 * R.2.1)) (2 * k + 1) from ((g49.rb (g47.rb (g45.rb (g43.rb (g41.rb (g39.rb (g37.rb (g35.rb (g33.rb (g31.rb (g29.rb (g27.rb (g25.rb (g23.rb (g21.rb (g19.rb xp17)))))))))))))))).up (by omega))) (show RB V49 o p23 (R.1 * R.2.2.1) (2 * k + 1) from ((g49.rb (g47.rb (g45.rb (g43.rb (g41.rb (g39.rb (g37.rb (g35.rb (g33.rb (g31.rb (g29.rb (g27.rb (g25.rb xp23))))))))))))).up (by omega))) (show RB V49 o p29 (R.2.1 * R.2.2.1) (2 * k + 1) from ((g49.rb (g47.rb (g45.rb (g43.rb (g41.rb (g39.rb (g37.rb (g35.rb (g33.rb (g31.rb xp29)))))))))).up (by omega))) (by omega)) ?_
  rintro _ _ ⟨p51, rfl, V51, rfl, g51, xp51⟩
  have G_52 := G_50.trans (g51.gs _)
  refine g_callVI [aI ((p51 : Int))] [aI 3, aO (some aU)] rfl rfl rfl rfl (Nat.le_of_ble_eq_true rfl) ms.1 (r_neg (by omega) ms V51 (by have := G_52.2.2.1; omega) xp51 (by omega)) ?_
  rintro _ _ ⟨p53, rfl, V53, rfl, g53, xp53⟩
  have G_54 := G_52.trans (g53.gs _)
  refine g_iast (i := 3) rfl (ms.slot hU) (by omega) (by omega) ?_
  obtain ⟨V55, eV55⟩ : ∃ W, W = vset V53 aU 3 (p53 : Int) := ⟨_, rfl⟩
  refine g_hp (h2 := hw h V55) (by rw [eV55]; rfl) ?_
  have g55 : Gs V53 V55 o 0 (fun q => q = aU) := by rw [eV55]; exact Gs.cell hU
  have c55_0 : V55 aU 0 = (p37 : Int) := by rw [eV55, vset_ne _ _ _ _ (by omega)]; exact (g53.sc hU (g51.sc hU c49_0))
  have c55_1 : V55 aU 1 = (p43 : Int) := by rw [eV55, vset_ne _ _ _ _ (by omega)]; exact (g53.sc hU (g51.sc hU c49_1))
  have c55_2 : V55 aU 2 = (p47 : Int) := by rw [eV55, vset_ne _ _ _ _ (by omega)]; exact (g53.sc hU (g51.sc hU c49_2))
  have c55_3 : V55 aU 3 = (p53 : Int) := by rw [eV55]; exact vset_eq _ _ _ _
  have G_56 := G_54.trans (g55.wide (fun q hq => by have hq : q = aU := hq; show q = aU; omega))
  have s55 : SA V55 aU p37 p43 p47 p53 := ⟨c55_0, c55_1, c55_2, c55_3⟩
  refine g_aload_n rfl rfl ?_
  refine g_aload rfl rfl ?_
  refine g_iconst rfl ?_
  refine g_iald (i := 0) rfl (ms.slot hU) (by omega) (by omega) ?_
  refine g_top (v2 := aI ((p37 : Int))) (congrArg aI (by exact s55.1)) ?_
  refine g_callVI [aI ((p37 : Int))] [] rfl rfl rfl rfl (Nat.le_of_ble_eq_true rfl) ms.1 (r_sign (by omega) ms V55 (g55.rb (g53.rb (g51.rb (g49.rb (g47.rb (g45.rb (g43.rb (g41.rb (g39.rb xp37)))))))))) ?_
  rintro r57 _ ⟨rfl, e58⟩
  rw [e58]
  clear e58 r57
  refine g_if_eq rfl (fun c283 => ?_) (fun c283 => ?_)
  · skip
    refine g_iconst rfl ?_
    refine g_zret rfl (by omega) ?_
    refine ⟨V55, rfl, G_56.mono (by omega), ?_⟩
    unfold m_thru_O
    rw [if_pos (by omega)]
    rfl
  · skip
    refine g_iconst rfl ?_
    refine g_goto rfl ?_
    refine g_zret rfl (by omega) ?_
    refine ⟨V55, rfl, G_56.mono (by omega), ?_⟩
    unfold m_thru_O
    rw [if_neg (by omega)]
    exact ⟨rfl, _, _, _, _, s55, ((g55.rb (g53.rb (g51.rb (g49.rb (g47.rb (g45.rb (g43.rb (g41.rb (g39.rb xp37))))))))).up (by omega)), ((g55.rb (g53.rb (g51.rb (g49.rb (g47.rb (g45.rb xp43)))))).up (by omega)), ((g55.rb (g53.rb (g51.rb (g49.rb xp47)))).up (by omega)), ((g55.rb xp53).up (by omega))⟩
